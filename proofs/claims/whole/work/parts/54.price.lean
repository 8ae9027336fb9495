/-! prices -/
theorem c_priceOf {r : Nat → Int} {σ : Mem} (hw : WF r) (h : CRB 1 r σ) {p : Nat} (hp : p < 4) {k b : Int} (hk : 0 ≤ k ∧ k ≤ 6) (hb : 0 ≤ b ∧ b < 40) : X7_priceOf σ 1 k p b = some (prS r k p b) := by
  have hm := hw.mem hp
  have f0 : X5_freeBehind σ (1 + 1 + 7 + 3 * p) b 0 = some (frS r p b 0) := by
    rw [show 1 + 1 + 7 + 3 * p = 9 + 3 * p by omega]
    exact c_freeBehind hw h hp hb (by omega)
  have i0 := frS_in hw hp b 0
  have em : σ (1 + 1 + 7 + 3 * p + 1) 1 = r (6 + 165 * p) := by
    rw [show 1 + 1 + 7 + 3 * p + 1 = 10 + 3 * p by omega, h.trt hp (by omega), show 5 + 165 * p + 1 = 6 + 165 * p by omega]
  have w10 : w32 (10 : Int) ≠ 0 := by decide
  have w2 : w32 (2 : Int) ≠ 0 := by decide
  have ex : 11 + idv (imx 0 (300 - frS r p b 0)) 10 = if 300 ≤ frS r p b 0 then 11 else 11 + (300 - frS r p b 0) / 10 := by
    unfold imx
    by_cases hc : 300 ≤ frS r p b 0
    · rw [if_neg (by first | omega | (unfold w32; omega)), if_pos hc]
      rfl
    · by_cases hc2 : frS r p b 0 = 300
      · omega
      · rw [if_pos (by first | omega | (unfold w32; omega)), if_neg hc, idv_ok (by omega) (by omega)]
  have hx : 11 ≤ (if 300 ≤ frS r p b 0 then 11 else 11 + (300 - frS r p b 0) / 10) ∧ (if 300 ≤ frS r p b 0 then 11 else 11 + (300 - frS r p b 0) / 10) ≤ 41 := by
    by_cases hc : 300 ≤ frS r p b 0
    · rw [if_pos hc]; omega
    · rw [if_neg hc]; omega
  unfold X7_priceOf prS
  rw [ag_nat (by omega) (by decide), bdk f0, dg_ok w10, lt_v, ex]
  generalize (if 300 ≤ frS r p b 0 then (11 : Int) else 11 + (300 - frS r p b 0) / 10) = X at *
  rcases (by omega : k = 0 ∨ k = 1 ∨ k = 2 ∨ k = 3 ∨ k = 4 ∨ k = 5 ∨ k = 6) with e | e | e | e | e | e | e
  · subst e; rfl
  · subst e; rfl
  · subst e; rfl
  · subst e; rfl
  · subst e; rfl
  · subst e
    show dg 2 (some (idv X 2)) = some (X / 2)
    rw [dg_ok w2, idv_ok (by omega) (by omega)]
  · subst e
    show ag 4 1 (fun j6 => some (X + σ (1 + 1 + 7 + 3 * p + 1) j6)) = some (X + r (6 + 165 * p))
    rw [ag_ok (by omega) (by omega) (by decide), show (1 : Int).toNat = 1 from rfl, em]
theorem m_priceOf {σ : Mem} (hw : WF (σ 112)) {k : Nat} (hk : (k : Int) < σ 112 665) : X11_priceOf σ k = some (prS (σ 112) (brk (σ 112) k 0) (brk (σ 112) k 1).toNat (brk (σ 112) k 2)) := by
  have hnum := hw.num
  obtain ⟨g1, g2, g3⟩ := hw.brk_in hk
  have o0 : X11_of σ k 0 = some (brk (σ 112) k 0) := m_ofN (q := 0) (by omega) (by omega)
  have o1 : X11_of σ k 1 = some (brk (σ 112) k 1) := m_ofN (q := 1) (by omega) (by omega)
  have o2 : X11_of σ k 2 = some (brk (σ 112) k 2) := m_ofN (q := 2) (by omega) (by omega)
  obtain ⟨p, hp⟩ := Int.eq_ofNat_of_zero_le g2.1
  have hp4 : p < 4 := by omega
  rw [hp, Int.toNat_natCast] at g3
  have h40 := hw.bars hp4
  have hm := hw.mem hp4
  have f0 := m_free hw hp4 (b := brk (σ 112) k 2) (fl := 0) ⟨by omega, by omega⟩ (Or.inl rfl)
  rw [if_pos rfl] at f0
  have i0 := frS_in hw hp4 (brk (σ 112) k 2) 0
  have w10 : w32 (10 : Int) ≠ 0 := by decide
  have w2 : w32 (2 : Int) ≠ 0 := by decide
  rw [hp] at o1
  unfold X11_priceOf prS
  rw [bdk o0, hp, Int.toNat_natCast]
  generalize brk (σ 112) k 0 = x at *
  generalize brk (σ 112) k 2 = b at *
  have B79 : ∀ k0 k1 X : Int, k0 + k1 = X → 11 ≤ X → X ≤ 41 → (x = 3 → X11_priceOf_B79 σ k x k0 k1 = some X) ∧ (x = 5 → X11_priceOf_B79 σ k x k0 k1 = some (X / 2)) ∧ (x = 6 → X11_priceOf_B79 σ k x k0 k1 = some (X + σ 112 (6 + 165 * p))) := by
    intro k0 k1 X hX h1 h2
    unfold X11_priceOf_B79 X11_part
    rw [lt_v, hX]
    refine ⟨fun h => ?_, fun h => ?_, fun h => ?_⟩
    · ((repeat (first | with_reducible refine (ag_ok (by omega) (by omega) (by decide)).trans ?_ | rewrite [lt_v] | rewrite [bd_some] | rewrite [bd2_some] | with_reducible refine (if_pos (by first | omega | (unfold w32; omega))).trans ?_ | with_reducible refine (if_neg (by first | omega | (unfold w32; omega))).trans ?_)); (repeat (first | with_reducible refine Eq.trans ?_ (if_pos (by first | omega | (unfold w32; omega))).symm | with_reducible refine Eq.trans ?_ (if_neg (by first | omega | (unfold w32; omega))).symm)); try rfl)
    · repeat (first | with_reducible refine (ag_ok (by omega) (by omega) (by decide)).trans ?_ | rewrite [lt_v] | rewrite [bd_some] | rewrite [bd2_some] | rewrite [dg_ok w2] | with_reducible refine (if_pos (by first | omega | (unfold w32; omega))).trans ?_ | with_reducible refine (if_neg (by first | omega | (unfold w32; omega))).trans ?_)
      rw [idv_ok (by omega) (by omega)]
    · repeat (first | with_reducible refine (ag_ok (by omega) (by omega) (by decide)).trans ?_ | rewrite [lt_v] | rewrite [bd_some] | rewrite [bd2_some] | rewrite [bdk (o1)] | with_reducible refine (if_pos (by first | omega | (unfold w32; omega))).trans ?_ | with_reducible refine (if_neg (by first | omega | (unfold w32; omega))).trans ?_)
      rw [show ((5 : Int) + 165 * p + 1).toNat = 6 + 165 * p by omega]
  have fin : 3 ≤ x → x ≠ 4 → (if w32 300 ≤ w32 (frS (σ 112) p b 0) then X11_priceOf_B79 σ k x 11 0 else dg 10 (X11_priceOf_B79 σ k x 11 (idv (300 - frS (σ 112) p b 0) 10))) = some (if x = 3 then (if 300 ≤ frS (σ 112) p b 0 then 11 else 11 + (300 - frS (σ 112) p b 0) / 10) else if x = 5 then (if 300 ≤ frS (σ 112) p b 0 then 11 else 11 + (300 - frS (σ 112) p b 0) / 10) / 2 else (if 300 ≤ frS (σ 112) p b 0 then 11 else 11 + (300 - frS (σ 112) p b 0) / 10) + σ 112 (6 + 165 * p)) := by
    intro h1 h2
    by_cases hc : 300 ≤ frS (σ 112) p b 0
    · rw [if_pos (by first | omega | (unfold w32; omega)), if_pos hc]
      obtain ⟨b3, b5, b6⟩ := B79 11 0 11 (by omega) (by omega) (by omega)
      rcases (by omega : x = 3 ∨ x = 5 ∨ x = 6) with e | e | e
      · rw [if_pos e]; exact b3 e
      · rw [if_neg (by omega), if_pos e]; exact b5 e
      · rw [if_neg (by omega), if_neg (by omega)]; exact b6 e
    · rw [if_neg (by first | omega | (unfold w32; omega)), if_neg hc, dg_ok w10, idv_ok (by omega) (by omega)]
      obtain ⟨b3, b5, b6⟩ := B79 11 ((300 - frS (σ 112) p b 0) / 10) _ rfl (by omega) (by omega)
      rcases (by omega : x = 3 ∨ x = 5 ∨ x = 6) with e | e | e
      · rw [if_pos e]; exact b3 e
      · rw [if_neg (by omega), if_pos e]; exact b5 e
      · rw [if_neg (by omega), if_neg (by omega)]; exact b6 e
  rcases (by omega : x = 0 ∨ x = 1 ∨ x = 2 ∨ x = 4 ∨ (x ≠ 0 ∧ x ≠ 1 ∧ x ≠ 2 ∧ x ≠ 4)) with e | e | e | e | e
  · subst e; rfl
  · subst e; rfl
  · subst e; rfl
  · subst e; rfl
  · rw [if_pos (by first | omega | (unfold w32; omega)), if_pos (by first | omega | (unfold w32; omega)), bdk o1, bdk o2, bdk f0, fin (by omega) (by omega), if_neg e.1, if_neg e.2.1, if_neg e.2.2.1, if_neg e.2.2.2]
theorem prS_in {r : Nat → Int} (hw : WF r) {p : Nat} (hp : p < 4) {k b : Int} : 0 ≤ prS r k p b ∧ prS r k p b ≤ 60 := by
  have hm := hw.mem hp
  have i0 := frS_in hw hp b 0
  unfold prS
  by_cases hc : 300 ≤ frS r p b 0
  · rw [if_pos hc]
    repeat' split
    all_goals omega
  · rw [if_neg hc]
    repeat' split
    all_goals omega
