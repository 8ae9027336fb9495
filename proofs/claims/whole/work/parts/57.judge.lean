/-! judge -/
theorem WF.wid {r : Nat → Int} (hw : WF r) : 20 ≤ r 0 ∧ r 0 ≤ 200 := hw.1.1
theorem judge_sim {σ ρ : Mem} (hw : WF (ρ 112)) (h : CRB 1 (ρ 112) σ) {p N : Nat} (hp : p < 4) (hN : ρ 112 665 = N) : ∀ (n i f g : Nat) (acc last : Int), i + n = N → n < f → n < g → -1 ≤ last → last < ρ 112 (9 + 165 * p) → ∃ v, X7_firstWrong_L15 σ f 1 p (9 + 3 * p) acc last i = some v ∧ X11_judge_L20 g ρ p last acc i = some (v, ρ) := by
  have hn := hw.num
  have h40 := hw.bars hp
  have h43 := h.numb
  have hB := h.nbars hp
  have hbs := mbarsN (σ := ρ) hp
  have hwd := hw.wid
  have e665 : ρ 112 (665 : Int).toNat = N := hN
  have e0 : ρ 112 (0 : Int).toNat = ρ 112 0 := rfl
  have ec0 : σ (1 + 2) (0 : Int).toNat = ρ 112 0 := h.rul (by omega)
  have e43 : σ (1 + 3) 3 = N := by rw [← hN]; exact h43
  have cr : ∀ last e : Int, -1 ≤ last → last ≤ e → e < ρ 112 (9 + 165 * p) → X5_roomFromTo σ (9 + 3 * p) (last + 1) e = some (rsm (ρ 112) p 0 (e - last).toNat (last + 1)) ∧ X11_rooms ρ p (last + 1) e 0 1 = some (rsm (ρ 112) p 0 (e - last).toNat (last + 1)) ∧ 0 ≤ rsm (ρ 112) p 0 (e - last).toNat (last + 1) ∧ rsm (ρ 112) p 0 (e - last).toNat (last + 1) ≤ 2400 := by
    intro last e h1 h2 h3
    have a1 := c_rooms hw h hp e h3 (e - last).toNat 5000 0 (last + 1) (by omega) (by omega) (by omega)
    have a2 := m_rooms hw hp (s := 0) (by omega) 1 e ⟨by omega, h3⟩ (e - last).toNat 5000 0 (last + 1) (by omega) (by omega) (by omega)
    have a3 := rsm_in hw hp (s := 0) (by omega) (e - last).toNat (last + 1) (by omega) (by omega)
    rw [Int.zero_add] at a1 a2
    exact ⟨a1, a2, by omega, by omega⟩
  intro n
  induction n with
  | zero =>
    intro i f g acc last h1 h2 h3 h4 h5
    obtain ⟨f, rfl⟩ : ∃ x, f = x + 1 := ⟨f - 1, by omega⟩
    obtain ⟨g, rfl⟩ : ∃ x, g = x + 1 := ⟨g - 1, by omega⟩
    obtain ⟨a1, a2, a3, a4⟩ := cr last (ρ 112 (9 + 165 * p) - 1) h4 (by omega) (by omega)
    have a1' := a1
    rw [← hB] at a1'
    by_cases hc : rsm (ρ 112) p 0 (ρ 112 (9 + 165 * p) - 1 - last).toNat (last + 1) ≤ ρ 112 0
    · refine ⟨0, ?_, ?_⟩
      · show X7_firstWrong_B15 _ _ _ _ _ _ _ _ = _
        unfold X7_firstWrong_B15
        rw [hB]
        ((repeat (first | with_reducible refine (ag_ok (by omega) (by omega) (by decide)).trans ?_ | rewrite [lt_v] | rewrite [bd_some] | rewrite [bd2_some] | rewrite [bdk (a1)] | with_reducible refine (if_pos (by first | omega | (unfold w32; omega))).trans ?_ | with_reducible refine (if_neg (by first | omega | (unfold w32; omega))).trans ?_)); (repeat (first | with_reducible refine Eq.trans ?_ (if_pos (by first | omega | (unfold w32; omega))).symm | with_reducible refine Eq.trans ?_ (if_neg (by first | omega | (unfold w32; omega))).symm)); try rfl)
      · show X11_judge_B20 _ _ _ _ _ _ = _
        unfold X11_judge_B20
        ((repeat (first | with_reducible refine (ag_ok (by omega) (by omega) (by decide)).trans ?_ | rewrite [lt_v] | rewrite [bd_some] | rewrite [bd2_some] | rewrite [bdk (hbs)] | rewrite [bdk (a2)] | with_reducible refine (if_pos (by first | omega | (unfold w32; omega))).trans ?_ | with_reducible refine (if_neg (by first | omega | (unfold w32; omega))).trans ?_)); (repeat (first | with_reducible refine Eq.trans ?_ (if_pos (by first | omega | (unfold w32; omega))).symm | with_reducible refine Eq.trans ?_ (if_neg (by first | omega | (unfold w32; omega))).symm)); try rfl)
    · refine ⟨1 + acc, ?_, ?_⟩
      · show X7_firstWrong_B15 _ _ _ _ _ _ _ _ = _
        unfold X7_firstWrong_B15
        rw [hB]
        ((repeat (first | with_reducible refine (ag_ok (by omega) (by omega) (by decide)).trans ?_ | rewrite [lt_v] | rewrite [bd_some] | rewrite [bd2_some] | rewrite [bdk (a1)] | with_reducible refine (if_pos (by first | omega | (unfold w32; omega))).trans ?_ | with_reducible refine (if_neg (by first | omega | (unfold w32; omega))).trans ?_)); (repeat (first | with_reducible refine Eq.trans ?_ (if_pos (by first | omega | (unfold w32; omega))).symm | with_reducible refine Eq.trans ?_ (if_neg (by first | omega | (unfold w32; omega))).symm)); try rfl)
      · show X11_judge_B20 _ _ _ _ _ _ = _
        unfold X11_judge_B20
        ((repeat (first | with_reducible refine (ag_ok (by omega) (by omega) (by decide)).trans ?_ | rewrite [lt_v] | rewrite [bd_some] | rewrite [bd2_some] | rewrite [bdk (hbs)] | rewrite [bdk (a2)] | with_reducible refine (if_pos (by first | omega | (unfold w32; omega))).trans ?_ | with_reducible refine (if_neg (by first | omega | (unfold w32; omega))).trans ?_)); (repeat (first | with_reducible refine Eq.trans ?_ (if_pos (by first | omega | (unfold w32; omega))).symm | with_reducible refine Eq.trans ?_ (if_neg (by first | omega | (unfold w32; omega))).symm)); try rfl)
  | succ n ih =>
    intro i f g acc last h1 h2 h3 h4 h5
    obtain ⟨f, rfl⟩ : ∃ x, f = x + 1 := ⟨f - 1, by omega⟩
    obtain ⟨g, rfl⟩ : ∃ x, g = x + 1 := ⟨g - 1, by omega⟩
    obtain ⟨g1, g2, g3⟩ := hw.brk_in (k := i) (by omega)
    have b0 : σ (1 + 3 + 1) (i : Int).toNat = brk (ρ 112) i 0 := h.brks hw (k := i) (by omega) (q := 0) (by omega)
    have b1 : σ (1 + 3 + 2) (i : Int).toNat = brk (ρ 112) i 1 := h.brks hw (k := i) (by omega) (q := 1) (by omega)
    have b2 : σ (1 + 3 + 3) (i : Int).toNat = brk (ρ 112) i 2 := h.brks hw (k := i) (by omega) (q := 2) (by omega)
    have o1 : X11_of ρ i 1 = some (brk (ρ 112) i 1) := m_ofN (q := 1) (by omega) (by omega)
    have o2 : X11_of ρ i 2 = some (brk (ρ 112) i 2) := m_ofN (q := 2) (by omega) (by omega)
    obtain ⟨u, u1, u2⟩ := m_mayBe hw (k := i) (by omega)
    by_cases hc : brk (ρ 112) i 1 = p
    · rw [hc, Int.toNat_natCast] at g3 u2
      obtain ⟨v, v1, v2⟩ := c_mayBreak hw h hp g1 g3
      have huv : u = v := by
        rcases u2 with ⟨x, y⟩ | ⟨x, y⟩
        · rcases v2 with ⟨z, w⟩ | ⟨z, w⟩
          · omega
          · exact absurd x z
        · rcases v2 with ⟨z, w⟩ | ⟨z, w⟩
          · exact absurd z x
          · omega
      have hv01 : v = 0 ∨ v = 1 := by
        rcases v2 with ⟨_, y⟩ | ⟨_, y⟩
        · exact Or.inr y
        · exact Or.inl y
      rw [huv] at u1
      clear u2 v2 huv
      rw [← b0, ← b2] at v1
      by_cases hl : brk (ρ 112) i 2 ≤ last
      · refine ⟨1 + acc, ?_, ?_⟩
        · show X7_firstWrong_B15 _ _ _ _ _ _ _ _ = _
          unfold X7_firstWrong_B15
          ((repeat (first | with_reducible refine (ag_ok (by omega) (by omega) (by decide)).trans ?_ | rewrite [lt_v] | rewrite [bd_some] | rewrite [bd2_some] | with_reducible refine (if_pos (by first | omega | (unfold w32; omega))).trans ?_ | with_reducible refine (if_neg (by first | omega | (unfold w32; omega))).trans ?_)); (repeat (first | with_reducible refine Eq.trans ?_ (if_pos (by first | omega | (unfold w32; omega))).symm | with_reducible refine Eq.trans ?_ (if_neg (by first | omega | (unfold w32; omega))).symm)); try rfl)
        · show X11_judge_B20 _ _ _ _ _ _ = _
          unfold X11_judge_B20
          ((repeat (first | with_reducible refine (ag_ok (by omega) (by omega) (by decide)).trans ?_ | rewrite [lt_v] | rewrite [bd_some] | rewrite [bd2_some] | rewrite [bdk (o1)] | rewrite [bdk (o2)] | with_reducible refine (if_pos (by first | omega | (unfold w32; omega))).trans ?_ | with_reducible refine (if_neg (by first | omega | (unfold w32; omega))).trans ?_)); (repeat (first | with_reducible refine Eq.trans ?_ (if_pos (by first | omega | (unfold w32; omega))).symm | with_reducible refine Eq.trans ?_ (if_neg (by first | omega | (unfold w32; omega))).symm)); try rfl)
      · rcases hv01 with hv0 | hv0
        · refine ⟨1 + acc, ?_, ?_⟩
          · show X7_firstWrong_B15 _ _ _ _ _ _ _ _ = _
            unfold X7_firstWrong_B15
            ((repeat (first | with_reducible refine (ag_ok (by omega) (by omega) (by decide)).trans ?_ | rewrite [lt_v] | rewrite [bd_some] | rewrite [bd2_some] | rewrite [bdk (v1)] | with_reducible refine (if_pos (by first | omega | (unfold w32; omega))).trans ?_ | with_reducible refine (if_neg (by first | omega | (unfold w32; omega))).trans ?_)); (repeat (first | with_reducible refine Eq.trans ?_ (if_pos (by first | omega | (unfold w32; omega))).symm | with_reducible refine Eq.trans ?_ (if_neg (by first | omega | (unfold w32; omega))).symm)); try rfl)
          · show X11_judge_B20 _ _ _ _ _ _ = _
            unfold X11_judge_B20
            ((repeat (first | with_reducible refine (ag_ok (by omega) (by omega) (by decide)).trans ?_ | rewrite [lt_v] | rewrite [bd_some] | rewrite [bd2_some] | rewrite [bdk (o1)] | rewrite [bdk (o2)] | rewrite [bdk (u1)] | with_reducible refine (if_pos (by first | omega | (unfold w32; omega))).trans ?_ | with_reducible refine (if_neg (by first | omega | (unfold w32; omega))).trans ?_)); (repeat (first | with_reducible refine Eq.trans ?_ (if_pos (by first | omega | (unfold w32; omega))).symm | with_reducible refine Eq.trans ?_ (if_neg (by first | omega | (unfold w32; omega))).symm)); try rfl)
        · obtain ⟨a1, a2, a3, a4⟩ := cr last (brk (ρ 112) i 2) h4 (by omega) (by omega)
          have a1' := a1
          rw [← b2] at a1'
          rw [← b2] at a3 a4
          by_cases hr : rsm (ρ 112) p 0 (brk (ρ 112) i 2 - last).toNat (last + 1) ≤ ρ 112 0
          · obtain ⟨x, x1, x2⟩ := ih (i + 1) f g (acc + 1) (brk (ρ 112) i 2) (by omega) (by omega) (by omega) (by omega) (by omega)
            refine ⟨x, ?_, ?_⟩
            · refine Eq.trans ?_ x1
              show X7_firstWrong_B15 _ _ _ _ _ _ _ _ = _
              unfold X7_firstWrong_B15 X7_firstWrong_B113
              rw [← b2] at hr
              repeat (first | with_reducible refine (ag_ok (by omega) (by omega) (by decide)).trans ?_ | rewrite [lt_v] | rewrite [bd_some] | rewrite [bd2_some] | rewrite [bdk (v1)] | rewrite [bdk (a1')] | with_reducible refine (if_pos (by first | omega | (unfold w32; omega))).trans ?_ | with_reducible refine (if_neg (by first | omega | (unfold w32; omega))).trans ?_)
              rw [b2]
              rfl
            · refine Eq.trans ?_ x2
              show X11_judge_B20 _ _ _ _ _ _ = _
              unfold X11_judge_B20 X11_judge_B102
              rw [b2] at a3 a4
              repeat (first | with_reducible refine (ag_ok (by omega) (by omega) (by decide)).trans ?_ | rewrite [lt_v] | rewrite [bd_some] | rewrite [bd2_some] | rewrite [bdk (o1)] | rewrite [bdk (o2)] | rewrite [bdk (u1)] | rewrite [bdk (a2)] | with_reducible refine (if_pos (by first | omega | (unfold w32; omega))).trans ?_ | with_reducible refine (if_neg (by first | omega | (unfold w32; omega))).trans ?_)
              rfl
          · refine ⟨1 + acc, ?_, ?_⟩
            · show X7_firstWrong_B15 _ _ _ _ _ _ _ _ = _
              unfold X7_firstWrong_B15 X7_firstWrong_B113
              rw [← b2] at hr
              ((repeat (first | with_reducible refine (ag_ok (by omega) (by omega) (by decide)).trans ?_ | rewrite [lt_v] | rewrite [bd_some] | rewrite [bd2_some] | rewrite [bdk (v1)] | rewrite [bdk (a1')] | with_reducible refine (if_pos (by first | omega | (unfold w32; omega))).trans ?_ | with_reducible refine (if_neg (by first | omega | (unfold w32; omega))).trans ?_)); (repeat (first | with_reducible refine Eq.trans ?_ (if_pos (by first | omega | (unfold w32; omega))).symm | with_reducible refine Eq.trans ?_ (if_neg (by first | omega | (unfold w32; omega))).symm)); try rfl)
            · show X11_judge_B20 _ _ _ _ _ _ = _
              unfold X11_judge_B20 X11_judge_B102
              rw [b2] at a3 a4
              ((repeat (first | with_reducible refine (ag_ok (by omega) (by omega) (by decide)).trans ?_ | rewrite [lt_v] | rewrite [bd_some] | rewrite [bd2_some] | rewrite [bdk (o1)] | rewrite [bdk (o2)] | rewrite [bdk (u1)] | rewrite [bdk (a2)] | with_reducible refine (if_pos (by first | omega | (unfold w32; omega))).trans ?_ | with_reducible refine (if_neg (by first | omega | (unfold w32; omega))).trans ?_)); (repeat (first | with_reducible refine Eq.trans ?_ (if_pos (by first | omega | (unfold w32; omega))).symm | with_reducible refine Eq.trans ?_ (if_neg (by first | omega | (unfold w32; omega))).symm)); try rfl)
    · obtain ⟨x, x1, x2⟩ := ih (i + 1) f g acc last (by omega) (by omega) (by omega) h4 h5
      refine ⟨x, ?_, ?_⟩
      · refine Eq.trans ?_ x1
        show X7_firstWrong_B15 _ _ _ _ _ _ _ _ = _
        unfold X7_firstWrong_B15 X7_firstWrong_B113
        repeat (first | with_reducible refine (ag_ok (by omega) (by omega) (by decide)).trans ?_ | rewrite [lt_v] | rewrite [bd_some] | rewrite [bd2_some] | with_reducible refine (if_pos (by first | omega | (unfold w32; omega))).trans ?_ | with_reducible refine (if_neg (by first | omega | (unfold w32; omega))).trans ?_)
        rfl
      · refine Eq.trans ?_ x2
        show X11_judge_B20 _ _ _ _ _ _ = _
        unfold X11_judge_B20 X11_judge_B102
        repeat (first | with_reducible refine (ag_ok (by omega) (by omega) (by decide)).trans ?_ | rewrite [lt_v] | rewrite [bd_some] | rewrite [bd2_some] | rewrite [bdk (o1)] | with_reducible refine (if_pos (by first | omega | (unfold w32; omega))).trans ?_ | with_reducible refine (if_neg (by first | omega | (unfold w32; omega))).trans ?_)
        rfl
