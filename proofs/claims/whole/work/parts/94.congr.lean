/-! what tables and layings depend on -/
def agP (r r' : Nat → Int) (p : Nat) : Prop := r' 0 = r 0 ∧ r' 1 = r 1 ∧ r' 3 = r 3 ∧ r' (9 + 165 * p) = r (9 + 165 * p) ∧ ∀ b : Nat, (b : Int) < r (9 + 165 * p) → r' (10 + 165 * p + 4 * b) = r (10 + 165 * p + 4 * b) ∧ r' (10 + 165 * p + 4 * b + 3) = r (10 + 165 * p + 4 * b + 3)
section
variable {r r' : Nat → Int} {p : Nat}
theorem mkd_congr (h : agP r r' p) {b : Nat} (hb : (b : Int) < r (9 + 165 * p)) (k : Int) : mkd r' p b k = mkd r p b k := by
  unfold mkd
  rw [Int.toNat_natCast, (h.2.2.2.2 b hb).2]
theorem meS_congr (h : agP r r' p) {b : Nat} (hb : (b : Int) < r (9 + 165 * p)) : meS r' p b = meS r p b := by
  unfold meS
  rw [h.2.2.2.1, mkd_congr h hb]
theorem rsm_congr (h : agP r r' p) (s : Int) : ∀ (n a : Nat), ((a + n : Nat) : Int) ≤ r (9 + 165 * p) → rsm r' p s n a = rsm r p s n a
  | 0, _, _ => rfl
  | n + 1, a, ha => by
    have ih := rsm_congr h s n (a + 1) (by omega)
    have e := (h.2.2.2.2 a (by omega)).1
    show rmF (r' (10 + 165 * p + 4 * (a : Int).toNat)) s + rsm r' p s n ((a : Int) + 1) = rmF (r (10 + 165 * p + 4 * (a : Int).toNat)) s + rsm r p s n ((a : Int) + 1)
    rw [Int.toNat_natCast, e]
    have ih' : rsm r' p s n ((a : Int) + 1) = rsm r p s n ((a : Int) + 1) := ih
    rw [ih']
theorem lmk_congr (h : agP r r' p) : ∀ (n j : Nat), ((j + n : Nat) : Int) ≤ r (9 + 165 * p) → lmk r' p n j = lmk r p n j
  | 0, _, _ => rfl
  | n + 1, j, hj => by
    unfold lmk
    rw [mkd_congr h (by omega), h.2.2.1, lmk_congr h n (j + 1) (by omega)]
theorem lnc_congr (h : agP r r' p) (s : Int) {a k : Nat} (ha : a ≤ k) (hk : (k : Int) < r (9 + 165 * p)) : lnc r' p s a k = lnc r p s a k := by
  have e1 : lrm r' p s a k = lrm r p s a k := rsm_congr h s (k + 1 - a) a (by omega)
  have e2 : lnv r' p s a k = lnv r p s a k := by
    unfold lnv
    rw [e1, h.1, h.2.2.2.1, mkd_congr h hk, lmk_congr h (k - a) (a + 1) (by omega)]
  unfold lnc
  rw [e1, e2, h.1, meS_congr h hk]
theorem mnr_congr {f g : Nat → Option Int} : ∀ (n k : Nat) (x : Option Int), (∀ j, k ≤ j → j < k + n → f j = g j) → mnr f n k x = mnr g n k x
  | 0, _, _, _ => rfl
  | n + 1, k, x, h => by
    show mnr f n (k + 1) (omn x (f k)) = mnr g n (k + 1) (omn x (g k))
    rw [h k (by omega) (by omega)]
    exact mnr_congr n (k + 1) _ (fun j j1 j2 => h j (by omega) (by omega))
theorem tl_congr (h : agP r r' p) (s : Int) {e : Nat} (he : (e : Int) < r (9 + 165 * p)) : ∀ (L b : Nat), tl r' p s e L b = tl r p s e L b
  | 0, _ => rfl
  | L + 1, b => by
    unfold tl
    by_cases c : b = e + 1
    · rw [if_pos c, if_pos c]
    · rw [if_neg c, if_neg c]
      refine mnr_congr _ _ _ (fun j j1 j2 => ?_)
      show oad (lnc r' p s b j) _ = oad (lnc r p s b j) _
      rw [lnc_congr h s j1 (by omega), tl_congr h s he L (j + 1)]
theorem pkn_congr (h : agP r r' p) {a e : Nat} (he : (e : Int) < r (9 + 165 * p)) : ∀ n, pkn r' p n a e = pkn r p n a e
  | 0 => rfl
  | n + 1 => by
    have e1 : pe r' p n a e = pe r p n a e := by
      unfold pe pgc
      rw [h.2.1, tl_congr h n he]
    show omn (pkn r' p n a e) (pe r' p n a e) = omn (pkn r p n a e) (pe r p n a e)
    rw [pkn_congr h he n, e1]
theorem PT_congr (h : agP r r' p) (hw : WF r) (hp : p < 4) {τ : Mem} (ht : PT r p τ) : PT r' p τ := by
  have h40 := hw.bars hp
  refine ⟨by rw [h.2.2.2.1]; exact ht.1, fun b k k1 k2 => ?_⟩
  rw [h.2.2.2.1] at k2
  rw [pkn_congr h (by omega)]
  exact ht.2 b k k1 k2
theorem bwF_congr {N : Nat} {pk pk' : Nat → Nat → Option Int} {pp : Int} {tn sp : Nat → Bool} (h : ∀ b k, b ≤ k → k < N → pk' b k = pk b k) : ∀ f g b, bwF N pk' pp tn sp f g b = bwF N pk pp tn sp f g b
  | 0, _, _ => rfl
  | f + 1, g, b => by
    unfold bwF
    by_cases c : N ≤ b
    · rw [if_pos c, if_pos c]
    · rw [if_neg c, if_neg c]
      refine bfl_congr _ _ _ (fun j j1 j2 => ?_)
      show cnd N pk' pp tn sp g b j _ = cnd N pk pp tn sp g b j _
      rw [bwF_congr h f (g + 1) (j + 1)]
      unfold cnd
      rw [h b j j1 (by omega)]
theorem fnd1_congr {f g : Nat → Bool} : ∀ n k, (∀ j, k ≤ j → j < k + n → f j = g j) → fnd1 f n k = fnd1 g n k
  | 0, _, _ => rfl
  | n + 1, k, h => by
    show (if f k = true then k else fnd1 f n (k + 1)) = (if g k = true then k else fnd1 g n (k + 1))
    rw [h k (by omega) (by omega), fnd1_congr n (k + 1) (fun j j1 j2 => h j (by omega) (by omega))]
theorem dec_congr {a a' b b' : Option Int} (h1 : a = a') (h2 : b = b') : decide (a = b) = decide (a' = b') := by
  subst h1
  subst h2
  rfl
theorem fle_congr (h : agP r r' p) (s : Int) {e L b : Nat} (he : (e : Int) < r (9 + 165 * p)) (hb : b ≤ e) : fle r' p s e L b = fle r p s e L b := by
  unfold fle
  refine fnd1_congr (e - b) b (fun j j1 j2 => ?_)
  have hj : (j : Int) < r (9 + 165 * p) := by omega
  have q1 : oad (lnc r' p s b j) (tl r' p s e L (j + 1)) = oad (lnc r p s b j) (tl r p s e L (j + 1)) := by rw [lnc_congr h s j1 hj, tl_congr h s he]
  exact dec_congr q1 (tl_congr h s he (L + 1) b)
theorem lns_congr (h : agP r r' p) (s : Int) {e : Nat} (he : (e : Int) < r (9 + 165 * p)) : ∀ L b, lns r' p s e L b = lns r p s e L b
  | 0, _ => rfl
  | L + 1, b => by
    unfold lns
    by_cases c : b ≤ e
    · rw [if_pos c, if_pos c, fle_congr h s he c, lns_congr h s he L]
    · rw [if_neg c, if_neg c]
end
section
variable {r r' : Nat → Int}
theorem ag665 (h : ∀ j, j < 665 → r' j = r j) (hw : WF r) {p : Nat} (hp : p < 4) : agP r r' p := ⟨h 0 (by omega), h 1 (by omega), h 3 (by omega), h _ (by omega), fun b hb => by
  have h40 := hw.bars hp
  exact ⟨h _ (by omega), h _ (by omega)⟩⟩
theorem alk665 (h : ∀ j, j < 665 → r' j = r j) : alk r r' := fun q hq => ⟨h _ (by omega), h _ (by omega), h _ (by omega), fun j hj => h _ (by omega)⟩
theorem bL_congr (h : ∀ j, j < 665 → r' j = r j) (hw : WF r) {p : Nat} (hp : p < 4) (g b : Nat) : bL r' r' p g b = bL r r p g b := by
  have h40 := hw.bars hp
  have e1 : spB r' p = spB r p := by
    funext k
    unfold spB
    rw [h (6 + 165 * p) (by omega), h 2 (by omega), esS_congr (alk665 h) hw hp]
  unfold bL bW
  rw [h (9 + 165 * p) (by omega), h 4 (by omega), h (8 + 165 * p) (by omega), e1]
  exact bwF_congr (fun b k _ hk => pkn_congr (ag665 h hw hp) (by omega) 3) _ _ _
theorem ps_congr (h : ∀ j, j < 665 → r' j = r j) (hw : WF r) {p : Nat} (hp : p < 4) : ∀ i, ps r' p i = ps r p i
  | 0 => rfl
  | i + 1 => by
    show ((bL r' r' p i (ps r' p i)).getD (0, 0, 0, 0)).2.2.2 + 1 = ((bL r r p i (ps r p i)).getD (0, 0, 0, 0)).2.2.2 + 1
    rw [ps_congr h hw hp i, bL_congr h hw hp]
theorem pz_congr (h : ∀ j, j < 665 → r' j = r j) (hw : WF r) {p : Nat} (hp : p < 4) (i : Nat) : pz r' p i = pz r p i := by
  unfold pz
  rw [ps_congr h hw hp, bL_congr h hw hp]
theorem nPg_congr (h : ∀ j, j < 665 → r' j = r j) (hw : WF r) {p : Nat} (hp : p < 4) : nPg r' p = nPg r p := by
  unfold nPg
  rw [bL_congr h hw hp]
theorem pg_congr (h : ∀ j, j < 665 → r' j = r j) (hw : WF r) {p : Nat} (hp : p < 4) {i : Nat} (hi : i < nPg r p) : pkv r' p i = pkv r p i ∧ tk r' p i = tk r p i ∧ pln r' p i = pln r p i := by
  have h40 := hw.bars hp
  have hf := pgf hw hp hi
  have e1 : pkv r' p i = pkv r p i := by
    unfold pkv
    rw [ps_congr h hw hp, pz_congr h hw hp, pkn_congr (ag665 h hw hp) (by omega)]
  have e2 : spB r' p = spB r p := by
    funext k
    unfold spB
    rw [h (6 + 165 * p) (by omega), h 2 (by omega), esS_congr (alk665 h) hw hp]
  refine ⟨e1, ?_, ?_⟩
  · unfold tk
    rw [pz_congr h hw hp, h (9 + 165 * p) (by omega), h (8 + 165 * p) (by omega), e2]
  · unfold pln
    rw [e1, pz_congr h hw hp, ps_congr h hw hp, h 1 (by omega), lns_congr (ag665 h hw hp) _ (by omega)]
theorem sums_congr (h : ∀ j, j < 665 → r' j = r j) (hw : WF r) {p : Nat} (hp : p < 4) : ∀ i, i ≤ nPg r p → lle r' p i = lle r p i ∧ sto r' p i = sto r p i ∧ tro r' p i = tro r p i ∧ csS r' p i = csS r p i ∧ ∀ b, tbs r' p i b = tbs r p i b
  | 0, _ => ⟨rfl, rfl, rfl, rfl, fun _ => rfl⟩
  | i + 1, hi => by
    obtain ⟨a1, a2, a3, a4, a5⟩ := sums_congr h hw hp i (by omega)
    obtain ⟨b1, b2, b3⟩ := pg_congr h hw hp (show i < nPg r p by omega)
    refine ⟨?_, ?_, ?_, ?_, fun b => ?_⟩
    · show lle r' p i ++ pln r' p i = lle r p i ++ pln r p i
      rw [a1, b3]
    · show sto r' p i + (if tk r' p i = 2 then 1 else 0) = sto r p i + (if tk r p i = 2 then 1 else 0)
      rw [a2, b2]
    · show tro r' p i + (if tk r' p i = 0 then 0 else 1) = tro r p i + (if tk r p i = 0 then 0 else 1)
      rw [a3, b2]
    · show csS r' p i + (pkv r' p i / 4 + r' 4) = csS r p i + (pkv r p i / 4 + r 4)
      rw [a4, b1, h 4 (by omega)]
    · show (if b = pz r' p i then tk r' p i else tbs r' p i b) = (if b = pz r p i then tk r p i else tbs r p i b)
      rw [pz_congr h hw hp, b2, a5]
theorem LYc_congr (h : ∀ j, j < 665 → r' j = r j) (hw : WF r) {p : Nat} (hp : p < 4) {τ : Mem} (hl : LYc r p τ (nPg r p)) : LYc r' p τ (nPg r' p) := by
  obtain ⟨a1, a2, a3, a4, a5⟩ := sums_congr h hw hp (nPg r p) (Nat.le_refl _)
  obtain ⟨l1, l2, l3, l4⟩ := hl
  rw [nPg_congr h hw hp]
  refine ⟨by rw [a1, a2, a3, a4]; exact l1, fun j hj => ?_, fun j hj => ?_, fun b hb => by rw [a5]; exact l4 b hb⟩
  · obtain ⟨b1, b2, b3⟩ := pg_congr h hw hp hj
    rw [ps_congr h hw hp, pz_congr h hw hp, b1, b3]
    exact l2 j hj
  · rw [a1] at hj ⊢
    exact l3 j hj
end
theorem CA.r665 {r r' : Nat → Int} {τ τ' : Mem} (ha : CA r τ) (hw : WF r) (h : ∀ j, j < 665 → r' j = r j) (hf : ∀ q, 71 ≤ q → q ≤ 110 → τ' q = τ q) : CA r' τ' := fun p hp => by
  obtain ⟨h1, h2⟩ := ha.frame hf p hp
  exact ⟨h1.imp id (fun c => ⟨c.1, PT_congr (ag665 h hw hp) hw hp c.2⟩), h2.imp id (fun c => ⟨c.1, LYc_congr h hw hp c.2⟩)⟩
theorem agP_of {r r' : Nat → Int} {τ τ' : Mem} (hw : WF r) (h : CRB 1 r τ) (h' : CRB 1 r' τ') {q : Nat} (hq : q < 4) (e3 : τ' 3 = τ 3) (e9 : τ' (9 + 3 * q) 2 = τ (9 + 3 * q) 2) (e11 : τ' (11 + 3 * q) = τ (11 + 3 * q)) : agP r r' q := by
  have h40 := hw.bars hq
  have hb : r' (9 + 165 * q) = r (9 + 165 * q) := by rw [← h'.nbars hq, e9, h.nbars hq]
  have hr : ∀ i, i < 5 → r' i = r i := fun i hi => by rw [← h'.rul hi, e3, h.rul hi]
  refine ⟨hr 0 (by omega), hr 1 (by omega), hr 3 (by omega), hb, fun b hbb => ?_⟩
  have f : ∀ w, w < 4 → r' (10 + 165 * q + 4 * b + w) = r (10 + 165 * q + 4 * b + w) := fun w hw4 => by
    have a := h.2.2.2.1 q hq (4 * b + w) (by omega) (by omega)
    have c := h'.2.2.2.1 q hq (4 * b + w) (by omega) (by rw [hb]; omega)
    rw [show 1 + 10 + 3 * q = 11 + 3 * q by omega, show 10 + 165 * q + (4 * b + w) = 10 + 165 * q + 4 * b + w by omega] at a c
    rw [← c, e11, a]
  exact ⟨f 0 (by omega), f 3 (by omega)⟩
theorem fgl_at {σ : Mem} {p : Nat} (hp : p < 4) : fgl σ (73 + 10 * p) 5 = 0 := by
  unfold fgl
  rcases (by omega : p = 0 ∨ p = 1 ∨ p = 2 ∨ p = 3) with rfl | rfl | rfl | rfl
  · rw [st_ne (by omega), st_ne (by omega), st_ne (by omega), st_at]
  · rw [st_ne (by omega), st_ne (by omega), st_at]
  · rw [st_ne (by omega), st_at]
  · rw [st_at]
theorem CA.gl {r r' : Nat → Int} {τ τ' : Mem} (ha : CA r τ) (hw : WF r) (h : ∀ p, p < 4 → agP r r' p) (hf : ∀ q, 71 ≤ q → q ≤ 110 → τ' q = τ q) : CA r' (fgl τ') := fun p hp => by
  obtain ⟨h1, _⟩ := ha.frame hf p hp
  refine ⟨?_, Or.inl (fgl_at hp)⟩
  have e1 : fgl τ' (71 + 10 * p) = τ' (71 + 10 * p) := fgl_ne (by omega)
  have e2 : fgl τ' (72 + 10 * p) = τ' (72 + 10 * p) := fgl_ne (by omega)
  rw [e1]
  exact h1.imp id (fun c => ⟨c.1, (PT_congr (h p hp) hw hp c.2).frame e1 e2⟩)
theorem CA.gp {r r' : Nat → Int} {τ τ' : Mem} (ha : CA r τ) (hw : WF r) {q : Nat} (hq : q < 4) (h : ∀ p, p < 4 → p ≠ q → agP r r' p) (hf : ∀ q, 71 ≤ q → q ≤ 110 → τ' q = τ q) : CA r' (fgp τ' q) := fun p hp => by
  obtain ⟨h1, _⟩ := ha.frame hf p hp
  refine ⟨?_, Or.inl (fgl_at hp)⟩
  have e1 : fgp τ' q (71 + 10 * p) = st τ' (71 + 10 * q) 2 0 (71 + 10 * p) := fgl_ne (by omega)
  have e2 : fgp τ' q (72 + 10 * p) = st τ' (71 + 10 * q) 2 0 (72 + 10 * p) := fgl_ne (by omega)
  by_cases c : p = q
  · rw [c] at e1 ⊢
    rw [e1, st_at]
    exact Or.inl rfl
  · rw [st_ne (by omega)] at e1
    rw [st_ne (by omega)] at e2
    rw [e1]
    exact h1.imp id (fun d => ⟨d.1, (PT_congr (h p hp c) hw hp d.2).frame e1 e2⟩)
theorem CA.ga {r' : Nat → Int} {τ' : Mem} : CA r' (fga τ') := fun p hp => by
  have t : ∀ (σ : Mem) (a b : Nat), a < 4 → b < 4 → fgp σ a (71 + 10 * b) 2 = if b = a then 0 else σ (71 + 10 * b) 2 := fun σ a b ha hb => by
    have e1 : fgp σ a (71 + 10 * b) = st σ (71 + 10 * a) 2 0 (71 + 10 * b) := fgl_ne (by omega)
    rw [e1]
    by_cases c : b = a
    · rw [if_pos c, c, st_at]
    · rw [if_neg c, st_ne (by omega)]
  refine ⟨Or.inl ?_, Or.inl (fgl_at hp)⟩
  unfold fga
  rw [t _ 3 p (by omega) hp]
  split
  · rfl
  · rw [t _ 2 p (by omega) hp]
    split
    · rfl
    · rw [t _ 1 p (by omega) hp]
      split
      · rfl
      · rw [t _ 0 p (by omega) hp]
        split
        · rfl
        · omega
