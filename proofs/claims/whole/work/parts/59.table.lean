/-! the class's table of lines -/
def eC (x : Option Int) : Int := x.getD 2147483647
def eM (x : Option Int) : Int := x.getD 1000000000
def LTb (r : Nat → Int) (p : Nat) (s : Int) (τ : Mem) (a e : Nat) : Prop := ∃ c : Int, τ 56 a = c ∧ (a : Int) - 1 ≤ c ∧ c ≤ e ∧ (∀ k : Nat, a ≤ k → (k : Int) ≤ c → τ 55 (40 * a + k) = eC (lnc r p s a k)) ∧ ∀ k : Nat, c < k → k ≤ e → r 0 < lrm r p s a k
theorem lrm_mono {r : Nat → Int} (hw : WF r) {p : Nat} (hp : p < 4) {s : Int} (hs : 0 ≤ s ∧ s ≤ 2) {a : Nat} : ∀ (n k : Nat), a ≤ k → ((k + n : Nat) : Int) < r (9 + 165 * p) → lrm r p s a k ≤ lrm r p s a (k + n)
  | 0, k, _, _ => by rw [Nat.add_zero]; omega
  | n + 1, k, h1, h2 => by
    have ih := lrm_mono hw hp hs n k h1 (by omega)
    have h3 := rsm_snoc r p s (k + n + 1 - a) a
    have h4 := rmF_in (hw.room hp (b := (a : Int) + ((k + n + 1 - a : Nat) : Int)) ⟨by omega, by omega⟩) hs
    unfold lrm at *
    rw [show k + (n + 1) + 1 - a = k + n + 1 - a + 1 by omega, h3]
    omega
def FT (r : Nat → Int) (p : Nat) (s : Int) (τ : Mem) (a : Nat) : Prop := (a : Int) ≤ τ 56 a → lrm r p s a (τ 56 a).toNat ≤ r 0
theorem fillFrom_loop {r : Nat → Int} (hw : WF r) {p : Nat} (hp : p < 4) {s : Int} (hs : 0 ≤ s ∧ s ≤ 2) {a e : Nat} (he : (e : Int) < r (9 + 165 * p)) : ∀ (n k f : Nat) (τ : Mem), k + n = e + 1 → a ≤ k → n < f → CRB 1 r τ → τ 56 a = (k : Int) - 1 → (∀ j : Nat, a ≤ j → j < k → τ 55 (40 * a + j) = eC (lnc r p s a j)) → (a < k → lrm r p s a (k - 1) ≤ r 0) → ∃ τ', X3_fillFrom_L23 f τ (9 + 3 * p) 3 s a e (r 0 - rsm r p s (k - a) a) (lmk r p (k - 1 - a) (a + 1)) k = some τ' ∧ (∀ q, q ≠ 55 → q ≠ 56 → τ' q = τ q) ∧ (∀ j, j < 40 * a ∨ 40 * a + 40 ≤ j → τ' 55 j = τ 55 j) ∧ (∀ j, j ≠ a → τ' 56 j = τ 56 j) ∧ LTb r p s τ' a e ∧ FT r p s τ' a := by
  have h40 := hw.bars hp
  have hwd := hw.wid
  intro n
  induction n with
  | zero =>
    intro k f τ h1 h2 h3 h4 h5 h6 h7
    obtain ⟨f, rfl⟩ : ∃ x, f = x + 1 := ⟨f - 1, by omega⟩
    refine ⟨τ, ?_, fun _ _ _ => rfl, fun _ _ => rfl, fun _ _ => rfl, ⟨(k : Int) - 1, h5, by omega, by omega, fun j hj1 hj2 => h6 j hj1 (by omega), fun j hj1 hj2 => by omega⟩, fun hc => by rw [h5] at hc ⊢; rw [show ((k : Int) - 1).toNat = k - 1 by omega]; exact h7 (by omega)⟩
    show X3_fillFrom_B23 _ _ _ _ _ _ _ _ _ _ = _
    unfold X3_fillFrom_B23
    ((repeat (first | with_reducible refine (ag_ok (by omega) (by omega) (by decide)).trans ?_ | rewrite [lt_v] | rewrite [bd_some] | rewrite [bd2_some] | with_reducible refine (if_pos (by first | omega | (unfold w32; omega))).trans ?_ | with_reducible refine (if_neg (by first | omega | (unfold w32; omega))).trans ?_)); (repeat (first | with_reducible refine Eq.trans ?_ (if_pos (by first | omega | (unfold w32; omega))).symm | with_reducible refine Eq.trans ?_ (if_neg (by first | omega | (unfold w32; omega))).symm)); try rfl)
  | succ n ih =>
    intro k f τ h1 h2 h3 h4 h5 h6 h7
    obtain ⟨f, rfl⟩ : ∃ x, f = x + 1 := ⟨f - 1, by omega⟩
    have hx := hw.room hp (b := (k : Int)) ⟨by omega, by omega⟩
    have hfac := h4.2.2.2.1 p hp (4 * k) (by omega) (by omega)
    have hroom : X5_roomAt τ (9 + 3 * p) k s = some (rmF (r (10 + 165 * p + 4 * k)) s) := by
      have e1 : τ (9 + 3 * p + 2) (4 * (k : Int).toNat) = r (10 + 165 * p + 4 * k) := by
        rw [Int.toNat_natCast, show 9 + 3 * p + 2 = 1 + 10 + 3 * p by omega, hfac]
      have := c_roomAt (σ := τ) (k := 9 + 3 * p) (b := (k : Int)) (s := s) ⟨by omega, by omega⟩ hs (by rw [e1]; rw [Int.toNat_natCast] at hx; exact hx)
      rw [e1] at this
      exact this
    have hsn := rsm_snoc r p s (k - a) a
    rw [show ((a : Int) + ((k - a : Nat) : Int)).toNat = k by omega] at hsn
    have hsn2 : lrm r p s a k = rsm r p s (k - a) a + rmF (r (10 + 165 * p + 4 * k)) s := by
      unfold lrm
      rw [show k + 1 - a = k - a + 1 by omega, hsn]
    have hlr := lrm_in hw hp hs (k := k) (a := a) (by omega) h2
    have hl6 : r 0 - rsm r p s (k - a) a - rmF (r (10 + 165 * p + 4 * k)) s = r 0 - lrm r p s a k := by omega
    have hme := c_mayEnd hw h4 hp (b := (k : Int)) ⟨by omega, by omega⟩
    have hm4 := c_mark hw h4 hp (b := (k : Int)) (k := 4) ⟨by omega, by omega⟩
    have hm2 := c_mark hw h4 hp (b := (k : Int)) (k := 2) ⟨by omega, by omega⟩
    have hB := h4.nbars hp
    have w10 : w32 (10 : Int) ≠ 0 := by decide
    by_cases hfit : lrm r p s a k ≤ r 0
    · have hsq := sq_in (x := r 0 - lrm r p s a k) (by omega) (by omega)
      have b158 : ∀ x : Int, x = eC (lnc r p s a k) → ∃ τ', X3_fillFrom_B158 (X3_fillFrom_L23 f) τ (9 + 3 * p) 3 s a e (r 0 - lrm r p s a k) (lmk r p (k - a) (a + 1)) k 55 ((a : Int) * 40 + k) x = some τ' ∧ (∀ q, q ≠ 55 → q ≠ 56 → τ' q = τ q) ∧ (∀ j, j < 40 * a ∨ 40 * a + 40 ≤ j → τ' 55 j = τ 55 j) ∧ (∀ j, j ≠ a → τ' 56 j = τ 56 j) ∧ LTb r p s τ' a e ∧ FT r p s τ' a := by
        intro x hx
        have e55 : st (st τ 55 (40 * a + k) x) 56 a k 55 = up (τ 55) (40 * a + k) x := by rw [st_ne (by omega), st_self]
        have e56 : st (st τ 55 (40 * a + k) x) 56 a k 56 = up (τ 56) a k := by rw [st_self, st_ne (by omega)]
        obtain ⟨τ', t1, t2, t3, t4, t5⟩ := ih (k + 1) f (st (st τ 55 (40 * a + k) x) 56 a k) (by omega) (by omega) (by omega) ((h4.oth (by omega)).oth (by omega)) (by rw [e56, up_at]; omega) (fun j hj1 hj2 => by
          rw [e55]
          by_cases hjk : j = k
          · rw [hjk, up_at]; exact hx
          · rw [up_ne (by omega)]; exact h6 j hj1 (by omega)) (fun _ => by rw [Nat.add_sub_cancel]; exact hfit)
        refine ⟨τ', ?_, fun q hq1 hq2 => ?_, fun j hj => ?_, fun j hj => ?_, t5⟩
        · unfold X3_fillFrom_B158
          rw [ag_ok (by omega) (by omega) (by decide), lt_v, ag_nat (by omega) (by decide), lt_v, lt_v, show ((a : Int) * 40 + k).toNat = 40 * a + k by omega]
          refine Eq.trans ?_ t1
          rw [show k + 1 - a = k - a + 1 by omega, hsn, ← hsn2, show k + 1 - 1 - a = k - a by omega]
          rfl
        · rw [t2 q hq1 hq2, st_ne (by omega), st_ne (by omega)]
        · rw [t3 j hj, e55, up_ne (by omega)]
        · rw [t4 j hj, e56, up_ne hj]
      have b75 : ∃ τ', X3_fillFrom_B75 (X3_fillFrom_L23 f) τ (9 + 3 * p) 3 s a e (r 0 - lrm r p s a k) (lmk r p (k - a) (a + 1)) k = some τ' ∧ (∀ q, q ≠ 55 → q ≠ 56 → τ' q = τ q) ∧ (∀ j, j < 40 * a ∨ 40 * a + 40 ≤ j → τ' 55 j = τ 55 j) ∧ (∀ j, j ≠ a → τ' 56 j = τ 56 j) ∧ LTb r p s τ' a e ∧ FT r p s τ' a := by
        have b98 : ∀ y : Int, y = (if (k : Int) = r (9 + 165 * p) - 1 then 0 else (r 0 - lrm r p s a k) * (r 0 - lrm r p s a k) / 10) → ∃ τ', X3_fillFrom_B98 (X3_fillFrom_L23 f) τ (9 + 3 * p) 3 s a e (r 0 - lrm r p s a k) (lmk r p (k - a) (a + 1)) k y = some τ' ∧ (∀ q, q ≠ 55 → q ≠ 56 → τ' q = τ q) ∧ (∀ j, j < 40 * a ∨ 40 * a + 40 ≤ j → τ' 55 j = τ 55 j) ∧ (∀ j, j ≠ a → τ' 56 j = τ 56 j) ∧ LTb r p s τ' a e ∧ FT r p s τ' a := by
          intro y hy
          have b115 : ∀ z : Int, z = (if mkd r p k 4 = 0 then 0 else 5) → ∃ τ', X3_fillFrom_B115 (X3_fillFrom_L23 f) τ (9 + 3 * p) 3 s a e (r 0 - lrm r p s a k) (lmk r p (k - a) (a + 1)) k y z = some τ' ∧ (∀ q, q ≠ 55 → q ≠ 56 → τ' q = τ q) ∧ (∀ j, j < 40 * a ∨ 40 * a + 40 ≤ j → τ' 55 j = τ 55 j) ∧ (∀ j, j ≠ a → τ' 56 j = τ 56 j) ∧ LTb r p s τ' a e ∧ FT r p s τ' a := by
            intro z hz
            unfold X3_fillFrom_B115
            rw [bdk hme]
            rcases meS_01 r p k with hh | hh
            · rw [hh, if_pos (by decide)]
              exact b158 _ (by unfold lnc; rw [if_neg (fun q => q.2 hh)]; rfl)
            · rw [hh, if_neg (by decide)]
              refine b158 _ ?_
              unfold lnc
              rw [if_pos ⟨hfit, by omega⟩]
              show _ = lnv r p s a k
              unfold lnv
              rw [← hy, ← hz]
          unfold X3_fillFrom_B98
          rw [bdk hm4]
          by_cases hc : mkd r p k 4 = 0
          · rw [if_pos hc, if_pos (by decide)]
            exact b115 0 (by rw [if_pos hc])
          · rw [if_neg hc, if_neg (by decide)]
            exact b115 5 (by rw [if_neg hc])
        unfold X3_fillFrom_B75
        rw [hB]
        by_cases hc : (k : Int) = r (9 + 165 * p) - 1
        · rw [if_neg (by first | omega | (unfold w32; omega))]
          exact b98 0 (by rw [if_pos hc])
        · rw [if_pos (by first | omega | (unfold w32; omega)), dg_ok w10, idv_ok (by omega) (by omega)]
          exact b98 _ (by rw [if_neg hc])
      show ∃ τ', X3_fillFrom_B23 _ _ _ _ _ _ _ _ _ _ = some τ' ∧ _
      unfold X3_fillFrom_B23
      rw [if_neg (by first | omega | (unfold w32; omega)), bdk hroom, lt_v, hl6, if_pos (by first | omega | (unfold w32; omega))]
      by_cases hka : k ≤ a
      · rw [if_pos (by first | omega | (unfold w32; omega)), show k - 1 - a = k - a by omega]
        exact b75
      · have hls := lmk_snoc r p (k - 1 - a) (a + 1)
        rw [show k - 1 - a + 1 = k - a by omega, show a + 1 + (k - 1 - a) = k by omega] at hls
        rw [if_neg (by first | omega | (unfold w32; omega)), bdk hm2]
        by_cases hc : mkd r p k 2 = 0
        · rw [if_pos hc, Int.add_zero] at hls
          rw [if_pos hc, if_pos (by decide), ← hls]
          exact b75
        · rw [if_neg hc] at hls
          rw [if_neg hc, if_neg (by decide)]
          have e3 : τ 3 3 = r 3 := h4.rul (by omega)
          rw [show ag (ln 3) 3 (fun j4 => lt (lmk r p (k - 1 - a) (a + 1) + τ 3 j4) fun l7_5 => X3_fillFrom_B75 (X3_fillFrom_L23 f) τ (9 + 3 * p) 3 s a e (r 0 - lrm r p s a k) l7_5 k) = X3_fillFrom_B75 (X3_fillFrom_L23 f) τ (9 + 3 * p) 3 s a e (r 0 - lrm r p s a k) (lmk r p (k - a) (a + 1)) k from by
            rw [show ln 3 = 5 from rfl, ag_ok (by omega) (by omega) (by decide), lt_v, show (3 : Int).toNat = 3 from rfl, e3, hls]]
          exact b75
    · refine ⟨τ, ?_, fun _ _ _ => rfl, fun _ _ => rfl, fun _ _ => rfl, ⟨(k : Int) - 1, h5, by omega, by omega, fun j hj1 hj2 => h6 j hj1 (by omega), fun j hj1 hj2 => ?_⟩, fun hc => by rw [h5] at hc ⊢; rw [show ((k : Int) - 1).toNat = k - 1 by omega]; exact h7 (by omega)⟩
      · show X3_fillFrom_B23 _ _ _ _ _ _ _ _ _ _ = _
        unfold X3_fillFrom_B23
        rw [if_neg (by first | omega | (unfold w32; omega)), bdk hroom, lt_v, hl6, if_neg (by first | omega | (unfold w32; omega))]
      · have := lrm_mono hw hp hs (a := a) (j - k) k h2 (by omega)
        rw [show k + (j - k) = j by omega] at this
        omega
