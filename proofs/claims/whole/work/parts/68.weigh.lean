/-! the class weighs: all bars -/
theorem bfl_snoc {f : Nat → Option T4} : ∀ (n k : Nat) (x : Option T4), bfl f (n + 1) k x = bst (bfl f n k x) (f (k + n))
  | 0, k, x => rfl
  | n + 1, k, x => by
    have := bfl_snoc (f := f) n (k + 1) (bst x (f k))
    rw [show k + 1 + n = k + (n + 1) by omega] at this
    exact this
theorem okW_bfl {f : Nat → Option T4} {n k : Nat} (h : ∀ j, k ≤ j → j < k + n → okW (f j)) : okW (bfl f n k none) := fun w hw => by
  rcases bfl_mem _ _ _ _ hw with h1 | ⟨j, j1, j2, j3⟩
  · cases h1
  · exact h j j1 j2 w j3
section
variable {N : Nat} {pk : Nat → Nat → Option Int} {pp : Int} {tn sp : Nat → Bool}
theorem okW_bW (hpk : ∀ b k, b ≤ k → k < N → bnd (pk b k)) (hpp : 0 ≤ pp ∧ pp ≤ 999) (hN : N ≤ 40) (g b : Nat) : okW (bW N pk pp tn sp g b) := fun w hw => by
  have := bW_in hpk hpp g b 40 g b w (by omega) hw
  omega
theorem okW_cnd (hpk : ∀ b k, b ≤ k → k < N → bnd (pk b k)) (hpp : 0 ≤ pp ∧ pp ≤ 999) (hN : N ≤ 40) {b k : Nat} (hb : b ≤ k) (hk : k < N) (g c q : Nat) : okW (cnd N pk pp tn sp q b k (bW N pk pp tn sp g c)) := fun w hw => by
  obtain ⟨v, u, h1, h2, rfl⟩ := cnd_some hw
  have i1 := bW_in hpk hpp g c 40 g c u (by omega) h2
  have i2 := hpk b k hb hk v h1
  simp only
  split <;> omega
def envW (N : Nat) (pk : Nat → Nat → Option Int) (pp : Int) (sp : Nat → Bool) (x p : Nat) (nd : Int) (τ : Mem) : Prop := τ 53 5 = ((trn x : Nat) : Int) ∧ τ 53 6 = nd ∧ τ 53 7 = pp ∧ τ (71 + 10 * p) 1 = N ∧ (∀ b k, b ≤ k → k < N → τ (72 + 10 * p) (40 * b + k) = eC (pk b k)) ∧ ∀ k, k < N → -1 ≤ τ 58 k ∧ τ 58 k ≤ 200000 ∧ sp k = decide (τ 58 k < nd)
theorem envW.frame {x p : Nat} {nd : Int} {τ τ' : Mem} (h : envW N pk pp sp x p nd τ) (hf : ∀ c, c ≠ 60 → c ≠ 61 → τ' c = τ c) : envW N pk pp sp x p nd τ' := by
  obtain ⟨h1, h2, h3, h4, h5, h6⟩ := h
  exact ⟨by rw [hf 53 (by omega) (by omega)]; exact h1, by rw [hf 53 (by omega) (by omega)]; exact h2, by rw [hf 53 (by omega) (by omega)]; exact h3, by rw [hf _ (by omega) (by omega)]; exact h4, fun b k k1 k2 => by rw [hf _ (by omega) (by omega)]; exact h5 b k k1 k2, fun k hk => by rw [hf 58 (by omega) (by omega)]; exact h6 k hk⟩
theorem c_hasPage {τ : Mem} {p b k : Nat} {o : Option Int} (ho : bnd o) (hb : b < 40) (hk : k < 40) (h : τ (72 + 10 * p) (40 * b + k) = eC o) : X4_hasPage τ (71 + 10 * p) b k = some (if o = none then 0 else 1) := by
  unfold X4_hasPage
  rw [ag_ok (by omega) (by omega) (by decide), show ((b : Int) * 40 + k).toNat = 40 * b + k by omega, show 71 + 10 * p + 1 = 72 + 10 * p by omega, h]
  rcases eC_w ho with ⟨u1, u2⟩ | ⟨v, u1, u2, u3⟩
  · rw [u2, u1, if_pos rfl, if_pos rfl]
  · rw [u2, u1, if_neg (by first | omega | (unfold w32; omega)), if_neg (by simp)]
theorem c_costOf {τ : Mem} {p b k : Nat} {v : Int} (hb : b < 40) (hk : k < 40) (hv : -1000 ≤ v ∧ v ≤ 1000000) (h : τ (72 + 10 * p) (40 * b + k) = v) : X4_costOf τ (71 + 10 * p) b k = some (v / 4) := by
  unfold X4_costOf
  rw [ag_ok (by omega) (by omega) (by decide), show ((b : Int) * 40 + k).toNat = 40 * b + k by omega, show 71 + 10 * p + 1 = 72 + 10 * p by omega, h, isr2 (by omega) (by omega)]
theorem c_sizeOf {τ : Mem} {p b k : Nat} {v : Int} (hb : b < 40) (hk : k < 40) (h : τ (72 + 10 * p) (40 * b + k) = v) : X4_sizeOf τ (71 + 10 * p) b k = some (v % 4) := by
  unfold X4_sizeOf
  rw [ag_ok (by omega) (by omega) (by decide), show ((b : Int) * 40 + k).toNat = 40 * b + k by omega, show 71 + 10 * p + 1 = 72 + 10 * p by omega, h, ian_3]
def CW (N : Nat) (pk : Nat → Nat → Option Int) (pp : Int) (tn sp : Nat → Bool) (τ : Mem) (b : Nat) : Prop := ∀ q, q < 12 → τ 60 (12 * b + q) = eW (bW N pk pp tn sp q b) ∧ (b < N → ∀ w, bW N pk pp tn sp q b = some w → τ 61 (12 * b + q) = w.2.2.2)
theorem c_takeBetter (hpk : ∀ b k, b ≤ k → k < N → bnd (pk b k)) (hpp : 0 ≤ pp ∧ pp ≤ 999) (hN : N ≤ 40) {x p : Nat} {nd : Int} (hx : x < 1024) (htn : ∀ q, q < 12 → tn q = (trn x).testBit q) (htq : ∀ g, tn (qst g) = tn g) (hnd : 0 ≤ nd ∧ nd ≤ 2000) {b k : Nat} (hb : b ≤ k) (hk : k < N) {v : Int} (hv : pk b k = some v) {A : Nat → Option T4} (oA : ∀ q, q < 12 → okW (A q)) {τ : Mem} (he : envW N pk pp sp x p nd τ) (hR : CW N pk pp tn sp τ (k + 1)) (hA : ∀ q, q < 12 → τ 60 (12 * b + q) = eW (A q) ∧ ∀ w, A q = some w → τ 61 (12 * b + q) = w.2.2.2) : ∃ τ', X1_takeBetter τ (71 + 10 * p) b k = some τ' ∧ (∀ c, c ≠ 60 → c ≠ 61 → τ' c = τ c) ∧ (∀ j, j < 12 * b ∨ 12 * b + 12 ≤ j → τ' 60 j = τ 60 j ∧ τ' 61 j = τ 61 j) ∧ ∀ q, q < 12 → τ' 60 (12 * b + q) = eW (bst (A q) (cnd N pk pp tn sp q b k (bW N pk pp tn sp (q + 1) (k + 1)))) ∧ ∀ w, bst (A q) (cnd N pk pp tn sp q b k (bW N pk pp tn sp (q + 1) (k + 1))) = some w → τ' 61 (12 * b + q) = w.2.2.2 := by
  have hve := hpk b k hb hk v hv
  have hcell := he.2.2.2.2.1 b k hb hk
  rw [hv] at hcell
  have hco := c_costOf (τ := τ) (p := p) (b := b) (k := k) (by omega) (by omega) hve hcell
  have hes := he.2.2.2.2.2 k hk
  have oR : ∀ q, q < 12 → okW (bW N pk pp tn sp q (k + 1)) := fun q _ => okW_bW hpk hpp hN q (k + 1)
  have cont : ∀ sf : Int, (sf = 1 ∧ ¬ (k + 1 < N ∧ sp k = true)) ∨ (sf = 0 ∧ k + 1 < N ∧ sp k = true) → ∃ τ', X1_takeBetter_B48 τ b k ((v / 4 + pp) * 64 + 1) sf = some τ' ∧ (∀ c, c ≠ 60 → c ≠ 61 → τ' c = τ c) ∧ (∀ j, j < 12 * b ∨ 12 * b + 12 ≤ j → τ' 60 j = τ 60 j ∧ τ' 61 j = τ 61 j) ∧ ∀ q, q < 12 → τ' 60 (12 * b + q) = eW (bst (A q) (cnd N pk pp tn sp q b k (bW N pk pp tn sp (q + 1) (k + 1)))) ∧ ∀ w, bst (A q) (cnd N pk pp tn sp q b k (bW N pk pp tn sp (q + 1) (k + 1))) = some w → τ' 61 (12 * b + q) = w.2.2.2 := by
    intro sf hsf
    obtain ⟨τ', t1, t2, t3, t4⟩ := c_tbL (N := N) (pk := pk) (pp := pp) (tn := tn) (sp := sp) (x := x) (b := b) (k := k) (v := v) (l4 := (v / 4 + pp) * 64 + 1) (sf := sf) (A := A) (R := fun q => bW N pk pp tn sp q (k + 1)) hx htn hv hb (by omega) rfl hsf oA oR (fun q hq => okW_cnd hpk hpp hN hb hk _ _ q) 12 0 5000 τ (by omega) (by omega) he.1 (fun j hj => (hR j hj).1) (fun j hj => by omega) (fun j _ hj => hA j hj)
    refine ⟨τ', t1, t2, t3, fun q hq => ?_⟩
    have := t4 q hq
    simp only [bW_q htq] at this
    exact this
  unfold X1_takeBetter X1_takeBetter_B43
  rw [bdk hco, lt_v, he.2.2.1, w32_id (x := v / 4 + pp) (by omega) (by omega), he.2.2.2.1]
  by_cases h1 : k + 1 = N
  · rw [if_pos (by first | omega | (unfold w32; omega))]
    exact cont 1 (Or.inl ⟨rfl, fun c => by omega⟩)
  · rw [if_neg (by first | omega | (unfold w32; omega)), ag_nat (by omega) (by decide), he.2.1]
    by_cases h2 : τ 58 k < nd
    · rw [if_pos (by first | omega | (unfold w32; omega))]
      exact cont 0 (Or.inr ⟨rfl, by omega, by rw [hes.2.2]; exact decide_eq_true h2⟩)
    · rw [if_neg (by first | omega | (unfold w32; omega))]
      exact cont 1 (Or.inl ⟨rfl, fun c => h2 (by have := c.2; rw [hes.2.2] at this; exact of_decide_eq_true this)⟩)
theorem c_weighK (hpk : ∀ b k, b ≤ k → k < N → bnd (pk b k)) (hpp : 0 ≤ pp ∧ pp ≤ 999) (hN : N ≤ 40) {x p : Nat} {nd : Int} (hx : x < 1024) (htn : ∀ q, q < 12 → tn q = (trn x).testBit q) (htq : ∀ g, tn (qst g) = tn g) (hnd : 0 ≤ nd ∧ nd ≤ 2000) (rec : Mem → Nat → Int → Int → Option Mem) {b : Nat} (hbN : b < N) : ∀ (n k f : Nat) (τ : Mem), k + n = N → n < f → b ≤ k → envW N pk pp sp x p nd τ → (∀ c, b < c → c ≤ N → CW N pk pp tn sp τ c) → (∀ q, q < 12 → τ 60 (12 * b + q) = eW (bfl (fun k => cnd N pk pp tn sp q b k (bW N pk pp tn sp (q + 1) (k + 1))) (k - b) b none) ∧ ∀ w, bfl (fun k => cnd N pk pp tn sp q b k (bW N pk pp tn sp (q + 1) (k + 1))) (k - b) b none = some w → τ 61 (12 * b + q) = w.2.2.2) → ∃ τ', X1_weigh_L88 rec f τ (71 + 10 * p) N b k = rec τ' (71 + 10 * p) N ((b : Int) + -1) ∧ (∀ c, c ≠ 60 → c ≠ 61 → τ' c = τ c) ∧ ∀ c, b ≤ c → c ≤ N → CW N pk pp tn sp τ' c := by
  intro n
  induction n with
  | zero =>
    intro k f τ h1 h2 h3 h4 h5 h6
    obtain ⟨f, rfl⟩ : ∃ x, f = x + 1 := ⟨f - 1, by omega⟩
    refine ⟨τ, ?_, fun _ _ _ => rfl, fun c c1 c2 => ?_⟩
    · show X1_weigh_B88 _ _ _ _ _ _ _ = _
      unfold X1_weigh_B88
      rw [if_pos (by first | omega | (unfold w32; omega)), lt_v]
    · by_cases hcb : c = b
      · rw [hcb]
        intro q hq
        have := h6 q hq
        rw [show k - b = N - b by omega, ← bW_eq hbN] at this
        exact ⟨this.1, fun _ => this.2⟩
      · exact h5 c (by omega) c2
  | succ n ih =>
    intro k f τ h1 h2 h3 h4 h5 h6
    obtain ⟨f, rfl⟩ : ∃ x, f = x + 1 := ⟨f - 1, by omega⟩
    have hcell := h4.2.2.2.2.1 b k h3 (by omega)
    have hhp := c_hasPage (τ := τ) (p := p) (b := b) (k := k) (hpk b k h3 (by omega)) (by omega) (by omega) hcell
    have sn : ∀ q, bfl (fun k => cnd N pk pp tn sp q b k (bW N pk pp tn sp (q + 1) (k + 1))) (k + 1 - b) b none = bst (bfl (fun k => cnd N pk pp tn sp q b k (bW N pk pp tn sp (q + 1) (k + 1))) (k - b) b none) (cnd N pk pp tn sp q b k (bW N pk pp tn sp (q + 1) (k + 1))) := fun q => by
      rw [show k + 1 - b = k - b + 1 by omega, bfl_snoc, show b + (k - b) = k by omega]
    show ∃ τ', X1_weigh_B88 _ _ _ _ _ _ _ = _ ∧ _
    unfold X1_weigh_B88 X1_weigh_B115
    rw [if_neg (by first | omega | (unfold w32; omega)), bdk hhp]
    cases hv : pk b k with
    | none =>
      rw [if_pos (show (none : Option Int) = none from rfl), if_pos (by decide), lt_v]
      refine ih (k + 1) f τ (by omega) (by omega) (by omega) h4 h5 (fun q hq => ?_)
      rw [sn q, show cnd N pk pp tn sp q b k (bW N pk pp tn sp (q + 1) (k + 1)) = none by unfold cnd; rw [hv], bst_none]
      exact h6 q hq
    | some v =>
      rw [if_neg (show ¬ (some v = none) by simp), if_neg (by decide)]
      obtain ⟨τ1, t1, t2, t3, t4⟩ := c_takeBetter (tn := tn) hpk hpp hN hx htn htq hnd h3 (show k < N by omega) hv (A := fun q => bfl (fun k => cnd N pk pp tn sp q b k (bW N pk pp tn sp (q + 1) (k + 1))) (k - b) b none) (fun q hq => okW_bfl (fun j j1 j2 => okW_cnd hpk hpp hN j1 (by omega) _ _ q)) h4 (h5 (k + 1) (by omega) (by omega)) h6
      rw [bdk t1, lt_v]
      obtain ⟨τ2, u1, u2, u3⟩ := ih (k + 1) f τ1 (by omega) (by omega) (by omega) (h4.frame t2) (fun c c1 c2 q hq => by
        have := t3 (12 * c + q) (by omega)
        rw [this.1, this.2]
        exact h5 c c1 c2 q hq) (fun q hq => by rw [sn q]; exact t4 q hq)
      exact ⟨τ2, u1, fun c c1 c2 => by rw [u2 c c1 c2, t2 c c1 c2], u3⟩
theorem c_weighB (hpk : ∀ b k, b ≤ k → k < N → bnd (pk b k)) (hpp : 0 ≤ pp ∧ pp ≤ 999) (hN : N ≤ 40) {x p : Nat} {nd : Int} (hx : x < 1024) (htn : ∀ q, q < 12 → tn q = (trn x).testBit q) (htq : ∀ g, tn (qst g) = tn g) (hnd : 0 ≤ nd ∧ nd ≤ 2000) : ∀ (n f : Nat) (τ : Mem), n ≤ N → n < f → envW N pk pp sp x p nd τ → (∀ c, n ≤ c → c ≤ N → CW N pk pp tn sp τ c) → ∃ τ', X1_weigh_L57 f τ (71 + 10 * p) N ((n : Int) - 1) = some τ' ∧ (∀ c, c ≠ 60 → c ≠ 61 → τ' c = τ c) ∧ ∀ c, c ≤ N → CW N pk pp tn sp τ' c := by
  intro n
  induction n with
  | zero =>
    intro f τ h1 h2 h3 h4
    obtain ⟨f, rfl⟩ : ∃ x, f = x + 1 := ⟨f - 1, by omega⟩
    refine ⟨τ, ?_, fun _ _ _ => rfl, fun c hc => h4 c (by omega) hc⟩
    show X1_weigh_B57 _ _ _ _ _ = _
    unfold X1_weigh_B57
    rw [if_pos (by first | omega | (unfold w32; omega))]
  | succ n ih =>
    intro f τ h1 h2 h3 h4
    obtain ⟨f, rfl⟩ : ∃ x, f = x + 1 := ⟨f - 1, by omega⟩
    have hf := fil12 (σ := τ) (b := n) (by omega) 9223372036854775807
    have f1 : ∀ c, c ≠ 60 → c ≠ 61 → fir τ 60 (12 * n) 12 9223372036854775807 c = τ c := fun c c1 c2 => fir_ne c1
    obtain ⟨τ1, t1, t2, t3⟩ := c_weighK (tn := tn) hpk hpp hN hx htn htq hnd (X1_weigh_L57 f) (b := n) (by omega) (N - n) n 5000 (fir τ 60 (12 * n) 12 9223372036854775807) (by omega) (by omega) (by omega) (h3.frame f1) (fun c c1 c2 q hq => by
      rw [fir_out (by omega), fir_ne (by omega)]
      exact h4 c (by omega) c2 q hq) (fun q hq => by
      rw [Nat.sub_self, fir_in (by omega) (by omega)]
      exact ⟨rfl, fun w hw => by cases hw⟩)
    obtain ⟨τ2, u1, u2, u3⟩ := ih f τ1 (by omega) (by omega) ((h3.frame f1).frame t2) t3
    refine ⟨τ2, ?_, fun c c1 c2 => by rw [u2 c c1 c2, t2 c c1 c2, f1 c c1 c2], u3⟩
    show X1_weigh_B57 _ _ _ _ _ = _
    unfold X1_weigh_B57
    rw [show ((n + 1 : Nat) : Int) - 1 = (n : Int) by omega, if_neg (by first | omega | (unfold w32; omega)), bdk hf]
    exact t1.trans u1
end
theorem c_weigh {r : Nat → Int} (hw : WF r) {p : Nat} (hp : p < 4) {N : Nat} (hN : r (9 + 165 * p) = N) {pk : Nat → Nat → Option Int} {sp : Nat → Bool} (hpk : ∀ b k, b ≤ k → k < N → bnd (pk b k)) {τ : Mem} (hc : CRB 1 r τ) (h1 : τ (71 + 10 * p) 1 = N) (h2 : ∀ b k, b ≤ k → k < N → τ (72 + 10 * p) (40 * b + k) = eC (pk b k)) (h3 : ∀ k, k < N → -1 ≤ τ 58 k ∧ τ 58 k ≤ 200000 ∧ sp k = decide (τ 58 k < r 2)) : ∃ τ', X1_weigh τ (71 + 10 * p) (r (8 + 165 * p)) 3 = some τ' ∧ (∀ c, c ≠ 53 → c ≠ 60 → c ≠ 61 → τ' c = τ c) ∧ (∀ j, j < 5 ∨ 7 < j → τ' 53 j = τ 53 j) ∧ envW N pk (r 4) sp (r (8 + 165 * p)).toNat p (r 2) τ' ∧ ∀ c, c ≤ N → CW N pk (r 4) (tnB (r (8 + 165 * p)).toNat) sp τ' c := by
  have h40 := hw.bars hp
  have hfl := hw.flds hp
  have hn := hw.need
  have hpg := hw.page
  obtain ⟨x, hx⟩ : ∃ x : Nat, r (8 + 165 * p) = x := ⟨(r (8 + 165 * p)).toNat, by omega⟩
  rw [hx, Int.toNat_natCast]
  have e2 : τ 3 2 = r 2 := hc.rul (by omega)
  have e4 : τ 3 4 = r 4 := hc.rul (by omega)
  have f := fil12 (σ := st (st (st τ 53 5 ((trn x : Nat) : Int)) 53 6 (r 2)) 53 7 (r 4)) (b := N) (by omega) 0
  have g1 : ∀ c, c ≠ 53 → c ≠ 60 → fir (st (st (st τ 53 5 ((trn x : Nat) : Int)) 53 6 (r 2)) 53 7 (r 4)) 60 (12 * N) 12 0 c = τ c := fun c c1 c2 => by rw [fir_ne c2, st_ne c1, st_ne c1, st_ne c1]
  have g2 : fir (st (st (st τ 53 5 ((trn x : Nat) : Int)) 53 6 (r 2)) 53 7 (r 4)) 60 (12 * N) 12 0 53 = up (up (up (τ 53) 5 ((trn x : Nat) : Int)) 6 (r 2)) 7 (r 4) := by rw [fir_ne (by omega), st_self, st_self, st_self]
  have env : envW N pk (r 4) sp x p (r 2) (fir (st (st (st τ 53 5 ((trn x : Nat) : Int)) 53 6 (r 2)) 53 7 (r 4)) 60 (12 * N) 12 0) := by
    refine ⟨by rw [g2, up_ne (by omega), up_ne (by omega), up_at], by rw [g2, up_ne (by omega), up_at], by rw [g2, up_at], by rw [g1 _ (by omega) (by omega)]; exact h1, fun b k k1 k2 => by rw [g1 _ (by omega) (by omega)]; exact h2 b k k1 k2, fun k hk => by rw [g1 58 (by omega) (by omega)]; exact h3 k hk⟩
  obtain ⟨τ', t1, t2, t3⟩ := c_weighB (N := N) (pk := pk) (pp := r 4) (tn := tnB x) (sp := sp) hpk hpg (by omega) (x := x) (p := p) (nd := r 2) (by omega) (fun q hq => tnB_t (by omega) hq) (fun g => tnB_q (by omega)) (by omega) N 5000 _ (by omega) (by omega) env (fun c c1 c2 q hq => by
    rw [show c = N by omega, fir_in (by omega) (by omega), bW_end (by omega)]
    exact ⟨rfl, fun h => by omega⟩)
  refine ⟨τ', ?_, fun c c1 c2 c3 => by rw [t2 c c2 c3, g1 c c1 c2], fun j hj => by rw [t2 53 (by omega) (by omega), g2, up_ne (by omega), up_ne (by omega), up_ne (by omega)], env.frame t2, t3⟩
  unfold X1_weigh
  rw [lt_v, h1, trn_eq (by omega), lt_v, show ln 3 = 5 from rfl, ag_ok (by omega) (by omega) (by decide), lt_v, ag_ok (by omega) (by omega) (by decide), lt_v, show (2 : Int).toNat = 2 from rfl, show (4 : Int).toNat = 4 from rfl]
  rw [show st τ 53 5 ((trn x : Nat) : Int) 3 2 = r 2 by rw [st_ne (by omega)]; exact e2]
  rw [show st (st τ 53 5 ((trn x : Nat) : Int)) 53 6 (r 2) 3 4 = r 4 by rw [st_ne (by omega), st_ne (by omega)]; exact e4]
  rw [bdk f, lt_v]
  exact t1
