/-! cut: the relation behind it -/
def cutr (r : Nat → Int) (p b n : Nat) (B : Int) : Nat → Int := up (fun j => if 10 + 165 * p + 4 * b ≤ j ∧ j < 10 + 165 * p + 4 * b + 4 * ((B - n).toNat - b) then r (j + 4 * n) else r j) (9 + 165 * p) (B - n)
theorem cutm_row (σ : Mem) (p b n : Nat) (B : Int) : cutm σ p b n B 112 = cutr (σ 112) p b n B := by
  unfold cutm cutr
  rw [st_self]
  congr 1
  funext j
  show (if 112 = 112 ∧ 10 + 165 * p + 4 * b ≤ j ∧ j < 10 + 165 * p + 4 * b + 4 * ((B - n).toNat - b) then σ 112 (10 + 165 * p + 4 * b + 4 * n + (j - (10 + 165 * p + 4 * b))) else σ 112 j) = _
  by_cases h : 10 + 165 * p + 4 * b ≤ j ∧ j < 10 + 165 * p + 4 * b + 4 * ((B - n).toNat - b)
  · rw [if_pos ⟨rfl, h⟩, if_pos h, show 10 + 165 * p + 4 * b + 4 * n + (j - (10 + 165 * p + 4 * b)) = j + 4 * n by omega]
  · rw [if_neg (fun q => h q.2), if_neg h]
theorem cutr_out {r : Nat → Int} {p b n j : Nat} {B : Int} (hB : B ≤ 40) (hb : (b : Int) + n ≤ B) (h : j < 9 + 165 * p ∨ 170 + 165 * p ≤ j) : cutr r p b n B j = r j := by
  unfold cutr
  rw [up_ne (by omega), if_neg (by omega)]
theorem cutr_bars {r : Nat → Int} {p b n : Nat} {B : Int} : cutr r p b n B (9 + 165 * p) = B - n := by
  unfold cutr
  rw [up_at]
theorem cutr_lo {r : Nat → Int} {p b n j : Nat} {B : Int} (h : j < 4 * b) : cutr r p b n B (10 + 165 * p + j) = r (10 + 165 * p + j) := by
  unfold cutr
  rw [up_ne (by omega), if_neg (by omega)]
theorem cutr_hi {r : Nat → Int} {p b n j : Nat} {B : Int} (h : 4 * b ≤ j) (h2 : (j : Int) < 4 * (B - n)) : cutr r p b n B (10 + 165 * p + j) = r (10 + 165 * p + (j + 4 * n)) := by
  unfold cutr
  rw [up_ne (by omega), if_pos (by omega), show 10 + 165 * p + j + 4 * n = 10 + 165 * p + (j + 4 * n) by omega]
theorem cut_wf {r : Nat → Int} {p b n : Nat} (hw : WF r) (hp : p < 4) (hb : (b : Int) + n ≤ r (9 + 165 * p)) (hno : ∀ k : Nat, (k : Int) < r 665 → r (667 + 3 * k) ≠ p) : WF (cutr r p b n (r (9 + 165 * p))) := by
  obtain ⟨w1, w2, w3, w4, w5, w6⟩ := hw
  have h40 := (w2 p hp).2.2.2.2
  have o : ∀ j, j < 9 + 165 * p ∨ 170 + 165 * p ≤ j → cutr r p b n (r (9 + 165 * p)) j = r j := fun j hj => cutr_out (by omega) hb hj
  have ob : ∀ q, q < 4 → q ≠ p → ∀ j, 5 + 165 * q ≤ j → j < 170 + 165 * q → cutr r p b n (r (9 + 165 * p)) j = r j := fun q hq hqp j h1 h2 => o j (by omega)
  refine ⟨?_, fun q hq => ?_, fun q hq k hk => ?_, ?_, fun k hk => ?_, fun s hs => ?_⟩
  · rw [o 0 (by omega), o 1 (by omega), o 2 (by omega), o 3 (by omega), o 4 (by omega)]
    exact w1
  · have := w2 q hq
    by_cases hqp : q = p
    · subst hqp
      rw [o (5 + 165 * q) (by omega), o (6 + 165 * q) (by omega), o (7 + 165 * q) (by omega), o (8 + 165 * q) (by omega), cutr_bars]
      exact ⟨this.1, this.2.1, this.2.2.1, this.2.2.2.1, by omega, by omega⟩
    · rw [ob q hq hqp (5 + 165 * q) (by omega) (by omega), ob q hq hqp (6 + 165 * q) (by omega) (by omega), ob q hq hqp (7 + 165 * q) (by omega) (by omega), ob q hq hqp (8 + 165 * q) (by omega) (by omega), ob q hq hqp (9 + 165 * q) (by omega) (by omega)]
      exact this
  · by_cases hqp : q = p
    · subst hqp
      rw [cutr_bars] at hk
      rw [show 11 + 165 * q + 4 * k = 10 + 165 * q + (4 * k + 1) by omega, show 12 + 165 * q + 4 * k = 10 + 165 * q + (4 * k + 2) by omega, show 13 + 165 * q + 4 * k = 10 + 165 * q + (4 * k + 3) by omega]
      by_cases hkb : k < b
      · rw [cutr_lo (by omega), cutr_lo (by omega), cutr_lo (by omega), cutr_lo (by omega), show 10 + 165 * q + (4 * k + 1) = 11 + 165 * q + 4 * k by omega, show 10 + 165 * q + (4 * k + 2) = 12 + 165 * q + 4 * k by omega, show 10 + 165 * q + (4 * k + 3) = 13 + 165 * q + 4 * k by omega]
        exact w3 q hq k (by omega)
      · rw [cutr_hi (by omega) (by omega), cutr_hi (by omega) (by omega), cutr_hi (by omega) (by omega), cutr_hi (by omega) (by omega)]
        have := w3 q hq (k + n) (by omega)
        rw [show 10 + 165 * q + (4 * k + 4 * n) = 10 + 165 * q + 4 * (k + n) by omega, show 10 + 165 * q + (4 * k + 1 + 4 * n) = 11 + 165 * q + 4 * (k + n) by omega, show 10 + 165 * q + (4 * k + 2 + 4 * n) = 12 + 165 * q + 4 * (k + n) by omega, show 10 + 165 * q + (4 * k + 3 + 4 * n) = 13 + 165 * q + 4 * (k + n) by omega]
        exact this
    · have h41 := (w2 q hq).2.2.2.2
      rw [ob q hq hqp (9 + 165 * q) (by omega) (by omega)] at hk
      rw [ob q hq hqp _ (by omega) (by omega), ob q hq hqp _ (by omega) (by omega), ob q hq hqp _ (by omega) (by omega), ob q hq hqp _ (by omega) (by omega)]
      exact w3 q hq k hk
  · rw [o 665 (by omega)]
    exact w4
  · rw [o 665 (by omega)] at hk
    have := w5 k hk
    have hn := hno k hk
    rw [o (666 + 3 * k) (by omega), o (667 + 3 * k) (by omega), o (668 + 3 * k) (by omega), ob (r (667 + 3 * k)).toNat (by omega) (by omega) _ (by omega) (by omega)]
    exact this
  · rw [o _ (by omega), o 665 (by omega)]
    exact w6 s hs
theorem cut_rel {r : Nat → Int} {σ : Mem} {p b n : Nat} (hw : WF r) (h : CRB 1 r σ) (hp : p < 4) (hb : (b : Int) + n ≤ r (9 + 165 * p)) : CRB 1 (cutr r p b n (r (9 + 165 * p))) (cutc σ p b n (r (9 + 165 * p))) := by
  obtain ⟨w1, w2, w3, w4, w5, w6⟩ := hw
  obtain ⟨h1, h2, h3, h4, h5, h6, h7⟩ := h
  have h40 := (w2 p hp).2.2.2.2
  have o : ∀ j, j < 9 + 165 * p ∨ 170 + 165 * p ≤ j → cutr r p b n (r (9 + 165 * p)) j = r j := fun j hj => cutr_out (by omega) hb hj
  have ob : ∀ q, q < 4 → q ≠ p → ∀ j, 5 + 165 * q ≤ j → j < 170 + 165 * q → cutr r p b n (r (9 + 165 * p)) j = r j := fun q hq hqp j h1 h2 => o j (by omega)
  have c : ∀ k, k ≠ 11 + 3 * p → k ≠ 9 + 3 * p → cutc σ p b n (r (9 + 165 * p)) k = σ k := fun k hk1 hk2 => by
    unfold cutc
    rw [st_ne hk2, cpy_ne hk1]
  refine ⟨fun i hi => ?_, fun q hq x hx => ?_, fun q hq => ?_, fun q hq j hj0 hj => ?_, ?_, fun k hk0 hk q hq => ?_, fun s hs => ?_⟩
  · rw [c _ (by omega) (by omega), o _ (by omega)]; exact h1 i hi
  · rw [c _ (by omega) (by omega)]
    by_cases hqp : q = p
    · subst hqp
      rw [o _ (by omega)]; exact h2 q hq x hx
    · rw [ob q hq hqp _ (by omega) (by omega)]; exact h2 q hq x hx
  · by_cases hqp : q = p
    · subst hqp
      rw [cutr_bars]
      unfold cutc
      rw [show 1 + 8 + 3 * q = 9 + 3 * q by omega, st_at]
    · rw [c _ (by omega) (by omega), ob q hq hqp _ (by omega) (by omega)]; exact h3 q hq
  · by_cases hqp : q = p
    · subst hqp
      rw [cutr_bars] at hj
      unfold cutc
      rw [st_ne (by omega), show 1 + 10 + 3 * q = 11 + 3 * q by omega]
      by_cases hjb : j < 4 * b
      · rw [cutr_lo hjb, cpy_get (by omega), ← h4 q hq j hj0 (by omega), show 1 + 10 + 3 * q = 11 + 3 * q by omega]
      · rw [cutr_hi (by omega) (by omega)]
        show (if 11 + 3 * q = 11 + 3 * q ∧ 4 * b ≤ j ∧ j < 4 * b + 4 * ((r (9 + 165 * q)).toNat - (b + n)) then σ (11 + 3 * q) (4 * (b + n) + (j - 4 * b)) else σ (11 + 3 * q) j) = _
        rw [if_pos (by omega), ← h4 q hq (j + 4 * n) (by omega) (by omega), show 4 * (b + n) + (j - 4 * b) = j + 4 * n by omega, show 1 + 10 + 3 * q = 11 + 3 * q by omega]
    · rw [ob q hq hqp (9 + 165 * q) (by omega) (by omega)] at hj
      rw [c _ (by omega) (by omega), ob q hq hqp _ (by omega) (by omega)]; exact h4 q hq j hj0 hj
  · rw [c _ (by omega) (by omega), o _ (by omega)]; exact h5
  · rw [o 665 (by omega)] at hk
    rw [c _ (by omega) (by omega), o _ (by omega)]; exact h6 k hk0 hk q hq
  · rw [c _ (by omega) (by omega), o _ (by omega)]; exact h7 s hs
