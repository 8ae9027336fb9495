/-! the class's caches: tables of pages, layings -/
theorem c_layOutL {r : Nat → Int} (hw : WF r) {p : Nat} (hp : p < 4) {N : Nat} (hN : r (9 + 165 * p) = N) {w0 : T4} (h0 : bL r r p 0 0 = some w0) : ∀ (n i f : Nat) (τ : Mem), i + n = nPg r p → n < f → CRB 1 r τ → envW N (pkn r p 3) (r 4) (spB r p) (r (8 + 165 * p)).toNat p (r 2) τ → (∀ c, c ≤ N → CW N (pkn r p 3) (r 4) (tnB (r (8 + 165 * p)).toNat) (spB r p) τ c) → LYc r p τ i → ∃ τ', X1_layOut_L35 f τ (9 + 3 * p) 3 (71 + 10 * p) (73 + 10 * p) (ps r p i) (qst i : Nat) i = some τ' ∧ (∀ q, q ≠ 55 → q ≠ 56 → q ≠ 57 → q < 73 + 10 * p ∨ 80 + 10 * p < q → τ' q = τ q) ∧ τ' (73 + 10 * p) 5 = τ (73 + 10 * p) 5 ∧ LYc r p τ' (nPg r p) := by
  have h40 := hw.bars hp
  have hend := nPg_end hw hp h0
  intro n
  induction n with
  | zero =>
    intro i f τ h1 h2 h3 h4 h5 h6
    obtain ⟨f, rfl⟩ : ∃ x, f = x + 1 := ⟨f - 1, by omega⟩
    have hi : i = nPg r p := by omega
    rw [hi] at h6 ⊢
    refine ⟨τ, ?_, fun _ _ _ _ _ => rfl, rfl, h6⟩
    show X1_layOut_B35 _ _ _ _ _ _ _ _ _ = _
    unfold X1_layOut_B35
    by_cases c : nPg r p = 40
    · rw [if_pos (by first | omega | (unfold w32; omega))]
    · rw [if_neg (by first | omega | (unfold w32; omega)), h4.2.2.2.1, if_pos (by first | omega | (unfold w32; omega))]
  | succ n ih =>
    intro i f τ h1 h2 h3 h4 h5 h6
    obtain ⟨f, rfl⟩ : ∃ x, f = x + 1 := ⟨f - 1, by omega⟩
    obtain ⟨τ1, t1, t2, t3, t4⟩ := c_layStep hw hp hN (show i < nPg r p by omega) h3 h4 h5 h6 (X1_layOut_L35 f)
    obtain ⟨τ2, u1, u2, u3, u4⟩ := ih (i + 1) f τ1 (by omega) (by omega) (h3.frame (fun k _ _ => t2 k (by omega) (by omega) (by omega) (by omega))) (by
      obtain ⟨e1, e2, e3, e4, e5, e6⟩ := h4
      exact ⟨by rw [t2 53 (by omega) (by omega) (by omega) (by omega)]; exact e1, by rw [t2 53 (by omega) (by omega) (by omega) (by omega)]; exact e2, by rw [t2 53 (by omega) (by omega) (by omega) (by omega)]; exact e3, by rw [t2 _ (by omega) (by omega) (by omega) (by omega)]; exact e4, fun b k k1 k2 => by rw [t2 _ (by omega) (by omega) (by omega) (by omega)]; exact e5 b k k1 k2, fun k hk => by rw [t2 58 (by omega) (by omega) (by omega) (by omega)]; exact e6 k hk⟩) (fun c hc q hq => by
      rw [t2 60 (by omega) (by omega) (by omega) (by omega), t2 61 (by omega) (by omega) (by omega) (by omega)]
      exact h5 c hc q hq) t4
    refine ⟨τ2, ?_, fun q q1 q2 q3 q4 => by rw [u2 q q1 q2 q3 q4, t2 q q1 q2 q3 q4], by rw [u3, t3], u4⟩
    exact t1.trans u1
theorem c_begin {r : Nat → Int} {p : Nat} (hp : p < 4) (τ : Mem) : ∃ τ', X2_begin τ (73 + 10 * p) = some τ' ∧ (∀ q, q ≠ 73 + 10 * p → q ≠ 80 + 10 * p → τ' q = τ q) ∧ τ' (73 + 10 * p) 5 = 1 ∧ LYc r p τ' 0 := by
  have hl : ln (73 + 10 * p + 7) = 40 := by
    rcases (by omega : p = 0 ∨ p = 1 ∨ p = 2 ∨ p = 3) with rfl | rfl | rfl | rfl <;> rfl
  have hfe := fun υ => fill_eq υ (73 + 10 * p + 7) 0 (by omega)
  rw [hl] at hfe
  unfold X2_begin
  rw [lt_v, lt_v, lt_v, lt_v, lt_v, lt_v, bdk (hfe _)]
  refine ⟨_, rfl, fun q q1 q2 => ?_, ?_, ⟨?_, ?_, ?_, ?_, ?_⟩, fun j hj => absurd hj (Nat.not_lt_zero _), fun j hj => absurd hj (Nat.not_lt_zero _), fun b hb => ?_⟩
  · rw [fil_ne (by omega), st_ne q1, st_ne q1, st_ne q1, st_ne q1, st_ne q1, st_ne q1]
  · rw [fil_ne (by omega), st_self, up_at]
  · rw [fil_ne (by omega), st_self, up_ne (by omega), st_self, up_ne (by omega), st_self, up_ne (by omega), st_self, up_ne (by omega), st_self, up_ne (by omega), st_self, up_at]; rfl
  · rw [fil_ne (by omega), st_self, up_ne (by omega), st_self, up_ne (by omega), st_self, up_ne (by omega), st_self, up_ne (by omega), st_self, up_at]; rfl
  · rw [fil_ne (by omega), st_self, up_ne (by omega), st_self, up_ne (by omega), st_self, up_ne (by omega), st_self, up_at]; rfl
  · rw [fil_ne (by omega), st_self, up_ne (by omega), st_self, up_ne (by omega), st_self, up_at]; rfl
  · rw [fil_ne (by omega), st_self, up_ne (by omega), st_self, up_at]; rfl
  · rw [fil_in hb]; rfl
theorem c_layOut {r : Nat → Int} (hw : WF r) {p : Nat} (hp : p < 4) {N : Nat} (hN : r (9 + 165 * p) = N) {τ : Mem} (h3 : CRB 1 r τ) (h4 : envW N (pkn r p 3) (r 4) (spB r p) (r (8 + 165 * p)).toNat p (r 2) τ) (h5 : ∀ c, c ≤ N → CW N (pkn r p 3) (r 4) (tnB (r (8 + 165 * p)).toNat) (spB r p) τ c) : ∃ τ', X1_layOut τ (9 + 3 * p) 3 (71 + 10 * p) (73 + 10 * p) = some τ' ∧ (∀ q, q ≠ 55 → q ≠ 56 → q ≠ 57 → q < 73 + 10 * p ∨ 80 + 10 * p < q → τ' q = τ q) ∧ τ' (73 + 10 * p) 5 = 1 ∧ LYc r p τ' (nPg r p) := by
  have h40 := hw.bars hp
  obtain ⟨τ1, t1, t2, t3, t4⟩ := c_begin (r := r) hp τ
  have f1 : ∀ q, q < 73 + 10 * p ∨ 80 + 10 * p < q → τ1 q = τ q := fun q hq => t2 q (by omega) (by omega)
  have hb : bL r r p 0 0 = bW N (pkn r p 3) (r 4) (tnB (r (8 + 165 * p)).toNat) (spB r p) 0 0 := by
    unfold bL
    rw [hN, Int.toNat_natCast]
  have e60 : τ1 60 0 = eW (bL r r p 0 0) := by
    rw [f1 60 (by omega), hb]
    exact (h5 0 (by omega) 0 (by omega)).1
  have oW : okW (bL r r p 0 0) := fun w hw2 => by
    have := bL_in hw hp hw2
    omega
  have iW := eW_in oW
  unfold X1_layOut
  rw [bdk t1, f1 _ (by omega), h4.2.2.2.1]
  by_cases hN0 : N = 0
  · rw [if_pos (by first | omega | (unfold w32; omega))]
    refine ⟨τ1, rfl, fun q _ _ _ hq => f1 q hq, t3, ?_⟩
    have : nPg r p = 0 := by
      unfold nPg
      rw [hb, bW_end (by omega)]
      rfl
    rw [this]
    exact t4
  · rw [if_neg (by first | omega | (unfold w32; omega)), ag_ok (by omega) (by omega) (by decide), show (0 : Int).toNat = 0 from rfl, e60]
    cases h0 : bL r r p 0 0 with
    | none =>
      rw [if_neg (by decide)]
      refine ⟨τ1, rfl, fun q _ _ _ hq => f1 q hq, t3, ?_⟩
      have : nPg r p = 0 := by
        unfold nPg
        rw [h0]
        rfl
      rw [this]
      exact t4
    | some w0 =>
      rw [h0] at iW
      have iW2 : eW (some w0) ≠ 9223372036854775807 := fun h => by cases iW.2.2.mp h
      rw [if_pos (by rw [w64_id (by omega) (by omega)]; exact iW2)]
      obtain ⟨τ2, u1, u2, u3, u4⟩ := c_layOutL hw hp hN h0 (nPg r p) 0 5000 τ1 (by omega) (by have := (nPg_end hw hp h0).2.1; omega) (h3.frame (fun k _ _ => f1 k (by omega))) (by
        obtain ⟨e1, e2, e3, e4, e5, e6⟩ := h4
        exact ⟨by rw [f1 53 (by omega)]; exact e1, by rw [f1 53 (by omega)]; exact e2, by rw [f1 53 (by omega)]; exact e3, by rw [f1 _ (by omega)]; exact e4, fun b k k1 k2 => by rw [f1 _ (by omega)]; exact e5 b k k1 k2, fun k hk => by rw [f1 58 (by omega)]; exact e6 k hk⟩) (fun c hc q hq => by
        rw [f1 60 (by omega), f1 61 (by omega)]
        exact h5 c hc q hq) t4
      exact ⟨τ2, u1, fun q q1 q2 q3 q4 => by rw [u2 q q1 q2 q3 q4, f1 q q4], by rw [u3, t3], u4⟩
def CA (r : Nat → Int) (τ : Mem) : Prop := ∀ p, p < 4 → (τ (71 + 10 * p) 2 = 0 ∨ τ (71 + 10 * p) 2 = 1 ∧ PT r p τ) ∧ (τ (73 + 10 * p) 5 = 0 ∨ τ (73 + 10 * p) 5 = 1 ∧ LYc r p τ (nPg r p))
theorem PT.frame {r : Nat → Int} {p : Nat} {τ τ' : Mem} (h : PT r p τ) (h1 : τ' (71 + 10 * p) = τ (71 + 10 * p)) (h2 : τ' (72 + 10 * p) = τ (72 + 10 * p)) : PT r p τ' := ⟨by rw [h1]; exact h.1, fun b k k1 k2 => by rw [h2]; exact h.2 b k k1 k2⟩
theorem LYc.frame {r : Nat → Int} {p i : Nat} {τ τ' : Mem} (h : LYc r p τ i) (hf : ∀ q, 73 + 10 * p ≤ q → q ≤ 80 + 10 * p → τ' q = τ q) : LYc r p τ' i := by
  obtain ⟨⟨l1, l2, l3, l4, l5⟩, l6, l7, l8⟩ := h
  refine ⟨⟨?_, ?_, ?_, ?_, ?_⟩, fun j hj => ?_, fun j hj => ?_, fun b hb => ?_⟩
  · rw [hf _ (by omega) (by omega)]; exact l1
  · rw [hf _ (by omega) (by omega)]; exact l2
  · rw [hf _ (by omega) (by omega)]; exact l3
  · rw [hf _ (by omega) (by omega)]; exact l4
  · rw [hf _ (by omega) (by omega)]; exact l5
  · rw [hf _ (by omega) (by omega), hf _ (by omega) (by omega), hf _ (by omega) (by omega), hf _ (by omega) (by omega), hf _ (by omega) (by omega)]; exact l6 j hj
  · rw [hf _ (by omega) (by omega)]; exact l7 j hj
  · rw [hf _ (by omega) (by omega)]; exact l8 b hb
theorem CA.frame {r : Nat → Int} {τ τ' : Mem} (h : CA r τ) (hf : ∀ q, 71 ≤ q → q ≤ 110 → τ' q = τ q) : CA r τ' := fun p hp => by
  obtain ⟨h1, h2⟩ := h p hp
  rw [hf (71 + 10 * p) (by omega) (by omega), hf (73 + 10 * p) (by omega) (by omega)]
  exact ⟨h1.imp id (fun c => ⟨c.1, c.2.frame (hf _ (by omega) (by omega)) (hf _ (by omega) (by omega))⟩), h2.imp id (fun c => ⟨c.1, c.2.frame (fun q q1 q2 => hf q (by omega) (by omega))⟩)⟩
theorem c_tableOf {r : Nat → Int} (hw : WF r) {p : Nat} (hp : p < 4) {τ : Mem} (hc : CRB 1 r τ) (ha : CA r τ) : ∃ τ', X10_tableOf τ p = some (71 + 10 * p, τ') ∧ (∀ q, q ≠ 55 → q ≠ 56 → q ≠ 57 → q ≠ 71 + 10 * p → q ≠ 72 + 10 * p → τ' q = τ q) ∧ CA r τ' ∧ PT r p τ' := by
  unfold X10_tableOf
  rw [ag_nat hp (by decide)]
  rcases (ha p hp).1 with h | ⟨h, h2⟩
  · obtain ⟨τ', t1, t2, t3, t4⟩ := c_tab hw hp hc
    refine ⟨τ', ?_, t2, fun p' hp' => ?_, t4⟩
    · rw [h, if_neg (by decide), ag_nat hp (by decide), bdk t1]
    · by_cases hpp : p' = p
      · rw [hpp]
        refine ⟨Or.inr ⟨t3, t4⟩, ?_⟩
        rw [t2 (73 + 10 * p) (by omega) (by omega) (by omega) (by omega) (by omega)]
        exact (ha p hp).2.imp id (fun c => ⟨c.1, c.2.frame (fun q q1 q2 => t2 q (by omega) (by omega) (by omega) (by omega) (by omega))⟩)
      · have f : ∀ q, 71 + 10 * p' ≤ q → q ≤ 80 + 10 * p' → τ' q = τ q := fun q q1 q2 => t2 q (by omega) (by omega) (by omega) (by omega) (by omega)
        obtain ⟨h1, h2⟩ := ha p' hp'
        rw [f _ (by omega) (by omega), f (73 + 10 * p') (by omega) (by omega)]
        exact ⟨h1.imp id (fun c => ⟨c.1, c.2.frame (f _ (by omega) (by omega)) (f _ (by omega) (by omega))⟩), h2.imp id (fun c => ⟨c.1, c.2.frame (fun q q1 q2 => f q (by omega) (by omega))⟩)⟩
  · refine ⟨τ, ?_, fun _ _ _ _ _ _ => rfl, ha, h2⟩
    rw [h, if_pos (by decide)]
