/-! marks of a bar -/
theorem isl_k : isl 1 0 = 1 ∧ isl 1 1 = 2 ∧ isl 1 2 = 4 := by decide +kernel
theorem or8 {a b : Nat} (ha : a < 8) (hb : b < 8) : a ||| b < 8 := Nat.or_lt_two_pow (n := 3) ha hb
def fnR (ρ : Mem) : Mem := st ρ 111 13 (if 64 ≤ ρ 111 13 then 64 else ρ 111 13 + 1)
theorem marks_sim {B : Nat → Int} {n T idx : Nat} (hidx : idx + 3 < 256) : ∀ (m k f g l2 mk : Nat) (τ ρ : Mem), k + m = T → m < f → m < g → l2 + 1 ≤ k → τ 41 1 = k → TK B n T τ → rbR ρ B n → RT B n ρ k → ρ 111 11 = 0 → mk < 8 → ρ 116 (idx + 3) = mk → 0 ≤ ρ 111 13 → ρ 111 13 ≤ 64 → ∃ (τ' ρ' : Mem) (k' mk' : Nat), X9_takeMarks_L4 f τ mk l2 = some ((mk' : Int), τ') ∧ X11_readBar_L112 g ρ idx = some (fnR ρ') ∧ mk' < 8 ∧ ρ' 116 (idx + 3) = mk' ∧ τ' 41 1 = k' ∧ k ≤ k' ∧ k' ≤ T ∧ rbR ρ' B n ∧ RT B n ρ' k' ∧ (∀ q, q ≠ 41 → τ' q = τ q) ∧ (∀ j, j ≠ 1 → τ' 41 j = τ 41 j) ∧ (∀ q, q ≠ 111 → q ≠ 116 → ρ' q = ρ q) ∧ (∀ j, j < 6 ∨ 9 < j → ρ' 111 j = ρ 111 j) ∧ ∀ j, j ≠ idx + 3 → ρ' 116 j = ρ 116 j := by
  intro m
  induction m with
  | zero =>
    intro k f g l2 mk τ ρ h1 h2 h3 h4 h5 h6 h7 h8 h9 h10 h11 h12 h13
    obtain ⟨f, rfl⟩ : ∃ x, f = x + 1 := ⟨f - 1, by omega⟩
    obtain ⟨g, rfl⟩ : ∃ x, g = x + 1 := ⟨g - 1, by omega⟩
    have hT := h6.2.2.2.1
    have hn := h6.2.2.1
    have hTn := h6.2.1
    have hk0 : kdP B n (tS B n k) ≠ 1 := by
      rw [show k = T by omega, hT]
      unfold kdP
      rw [if_pos (Nat.le_refl n)]
      decide
    refine ⟨τ, ρ, k, mk, ?_, ?_, h10, h11, h5, Nat.le_refl _, by omega, h7, h8, fun _ _ => rfl, fun _ _ => rfl, fun _ _ _ => rfl, fun _ _ => rfl, fun _ _ => rfl⟩
    · show X9_takeMarks_B4 _ _ _ _ = _
      unfold X9_takeMarks_B4
      rw [if_neg (by first | omega | (unfold w32; omega)), bdk ((c_isWord h6 (by omega) h5 (w := 4) (by omega)).1 hk0), if_pos (by decide), bdk ((c_isWord h6 (by omega) h5 (w := 5) (by omega)).1 hk0), if_pos (by decide), bdk ((c_isWord h6 (by omega) h5 (w := 6) (by omega)).1 hk0), if_pos (by decide)]
    · show X11_readBar_B112 _ _ _ = _
      unfold X11_readBar_B112 fnR
      rw [bdk ((m_isWord h8 h9 (lo := 4) (hi := 6) (by omega) (by omega)).1 hk0), if_pos (by decide)]
      by_cases c : 64 ≤ ρ 111 13
      · rw [if_pos (by first | omega | (unfold w32; omega)), lt_v, if_pos c]
      · rw [if_neg (by first | omega | (unfold w32; omega)), lt_v, if_neg c]
  | succ m ih =>
    intro k f g l2 mk τ ρ h1 h2 h3 h4 h5 h6 h7 h8 h9 h10 h11 h12 h13
    obtain ⟨f, rfl⟩ : ∃ x, f = x + 1 := ⟨f - 1, by omega⟩
    obtain ⟨g, rfl⟩ : ∃ x, g = x + 1 := ⟨g - 1, by omega⟩
    have hn := h6.2.2.1
    have hTn := h6.2.1
    have w4 := c_isWord h6 (show k ≤ T by omega) h5 (w := 4) (by omega)
    have w5 := c_isWord h6 (show k ≤ T by omega) h5 (w := 5) (by omega)
    have w6 := c_isWord h6 (show k ≤ T by omega) h5 (w := 6) (by omega)
    have mw := m_isWord h8 h9 (lo := 4) (hi := 6) (by omega) (by omega)
    have stop : X9_isWord τ 4 = some 0 → X9_isWord τ 5 = some 0 → X9_isWord τ 6 = some 0 → X11_isWord ρ 4 6 = some 0 → ∃ (τ' ρ' : Mem) (k' mk' : Nat), X9_takeMarks_L4 (f + 1) τ mk l2 = some ((mk' : Int), τ') ∧ X11_readBar_L112 (g + 1) ρ idx = some (fnR ρ') ∧ mk' < 8 ∧ ρ' 116 (idx + 3) = mk' ∧ τ' 41 1 = k' ∧ k ≤ k' ∧ k' ≤ T ∧ rbR ρ' B n ∧ RT B n ρ' k' ∧ (∀ q, q ≠ 41 → τ' q = τ q) ∧ (∀ j, j ≠ 1 → τ' 41 j = τ 41 j) ∧ (∀ q, q ≠ 111 → q ≠ 116 → ρ' q = ρ q) ∧ (∀ j, j < 6 ∨ 9 < j → ρ' 111 j = ρ 111 j) ∧ ∀ j, j ≠ idx + 3 → ρ' 116 j = ρ 116 j := by
      intro e4 e5 e6 em
      refine ⟨τ, ρ, k, mk, ?_, ?_, h10, h11, h5, Nat.le_refl _, by omega, h7, h8, fun _ _ => rfl, fun _ _ => rfl, fun _ _ _ => rfl, fun _ _ => rfl, fun _ _ => rfl⟩
      · show X9_takeMarks_B4 _ _ _ _ = _
        unfold X9_takeMarks_B4
        rw [if_neg (by first | omega | (unfold w32; omega)), bdk e4, if_pos (by decide), bdk e5, if_pos (by decide), bdk e6, if_pos (by decide)]
      · show X11_readBar_B112 _ _ _ = _
        unfold X11_readBar_B112 fnR
        rw [bdk em, if_pos (by decide)]
        by_cases c : 64 ≤ ρ 111 13
        · rw [if_pos (by first | omega | (unfold w32; omega)), lt_v, if_pos c]
        · rw [if_neg (by first | omega | (unfold w32; omega)), lt_v, if_neg c]
    by_cases hk1 : kdP B n (tS B n k) = 1
    · obtain ⟨c, c1, c2, c3, c4⟩ := wrd_at h6 (show k ≤ T by omega) h8 hk1
      have e4 := w4.2 c c1 c2 (by omega) hk1
      have e5 := w5.2 c c1 c2 (by omega) hk1
      have e6 := w6.2 c c1 c2 (by omega) hk1
      have em := mw.2 (by omega) (by omega) hk1
      by_cases hc : 4 ≤ c ∧ c ≤ 6
      · have hv : ρ 111 9 = c := by omega
        rw [if_pos (by omega)] at em
        -- one mark more
        have go : ∀ bt : Nat, bt < 8 → isl 1 (c - 4) = (bt : Int) → X9_takeMarks_L4 (f + 1) τ mk l2 = X9_takeMarks_L4 f (st τ 41 1 ((k : Int) + 1)) ((mk ||| bt : Nat) : Int) ((l2 + 1 : Nat) : Int) → ∃ (τ' ρ' : Mem) (k' mk' : Nat), X9_takeMarks_L4 (f + 1) τ mk l2 = some ((mk' : Int), τ') ∧ X11_readBar_L112 (g + 1) ρ idx = some (fnR ρ') ∧ mk' < 8 ∧ ρ' 116 (idx + 3) = mk' ∧ τ' 41 1 = k' ∧ k ≤ k' ∧ k' ≤ T ∧ rbR ρ' B n ∧ RT B n ρ' k' ∧ (∀ q, q ≠ 41 → τ' q = τ q) ∧ (∀ j, j ≠ 1 → τ' 41 j = τ 41 j) ∧ (∀ q, q ≠ 111 → q ≠ 116 → ρ' q = ρ q) ∧ (∀ j, j < 6 ∨ 9 < j → ρ' 111 j = ρ 111 j) ∧ ∀ j, j ≠ idx + 3 → ρ' 116 j = ρ 116 j := by
          intro bt hbt hisl hcls
          have hor := or8 h10 hbt
          have e116 : st ρ 116 (idx + 3) ((mk ||| bt : Nat) : Int) 116 = up (ρ 116) (idx + 3) ((mk ||| bt : Nat) : Int) := st_self _ _ _ _
          have e111 : st ρ 116 (idx + 3) ((mk ||| bt : Nat) : Int) 111 = ρ 111 := st_ne (by omega)
          have hr7 : rbR (st ρ 116 (idx + 3) ((mk ||| bt : Nat) : Int)) B n := h7.frame (by rw [e111]) (st_ne (by omega))
          have ht7 : RT B n (st ρ 116 (idx + 3) ((mk ||| bt : Nat) : Int)) k := by unfold RT; rw [e111]; exact h8
          obtain ⟨ρ1, s1, s2, s3, s4, s5⟩ := m_next hr7 ht7
          obtain ⟨τ', ρ', k', mk', t1, t2, t3, t4, t5, t6, t7, t8, t9, t10, t11, t12, t13, t14⟩ := ih (k + 1) f g (l2 + 1) (mk ||| bt) (st τ 41 1 ((k : Int) + 1)) ρ1 (by omega) (by omega) (by omega) (by omega) (by rw [st_at]; rfl) (h6.frame (st_ne (by omega)) (st_ne (by omega)) (st_ne (by omega)) (st_ne (by omega))) s4 s5 (by rw [s3 11 (by omega), e111]; exact h9) hor (by rw [s2 116 (by omega), e116, up_at]) (by rw [s3 13 (by omega), e111]; exact h12) (by rw [s3 13 (by omega), e111]; exact h13)
          refine ⟨τ', ρ', k', mk', hcls.trans t1, ?_, t3, t4, t5, by omega, t7, t8, t9, fun q hq => by rw [t10 q hq, st_ne hq], fun j hj => by rw [t11 j hj, st_self, up_ne hj], fun q q1 q2 => by rw [t12 q q1 q2, s2 q q1, st_ne q2], fun j hj => by rw [t13 j hj, s3 j hj, e111], fun j hj => by rw [t14 j hj, s2 116 (by omega), e116, up_ne hj]⟩
          show X11_readBar_B112 _ _ _ = _
          unfold X11_readBar_B112
          rw [bdk em, if_neg (by decide), lt_v, show (idx : Int) + 3 = ((idx + 3 : Nat) : Int) by omega, ag_nat hidx (by decide), ag_nat hidx (by decide), h11, hv, hisl, iro_nn (by omega) (by omega), lt_v, bdk s1]
          exact t2
        rcases (by omega : c = 4 ∨ c = 5 ∨ c = 6) with hc4 | hc4 | hc4
        · refine go 1 (by omega) (by rw [hc4]; exact isl_k.1) ?_
          show X9_takeMarks_B4 _ _ _ _ = _
          unfold X9_takeMarks_B4 X9_takeMarks_B53
          have hiro : iro (mk : Int) 1 = ((mk ||| 1 : Nat) : Int) := iro_nn (y := 1) (by omega) (by decide)
          rw [if_pos hc4] at e4
          rw [if_neg (by first | omega | (unfold w32; omega)), bdk e4, if_neg (by decide), lt_v, hiro, h5, lt_v, lt_v]
          rfl
        · refine go 2 (by omega) (by rw [hc4]; exact isl_k.2.1) ?_
          show X9_takeMarks_B4 _ _ _ _ = _
          unfold X9_takeMarks_B4 X9_takeMarks_B53
          have hiro : iro (mk : Int) 2 = ((mk ||| 2 : Nat) : Int) := iro_nn (y := 2) (by omega) (by decide)
          rw [if_neg (by omega)] at e4
          rw [if_pos hc4] at e5
          rw [if_neg (by first | omega | (unfold w32; omega)), bdk e4, if_pos (by decide), bdk e5, if_neg (by decide), lt_v, hiro, h5, lt_v, lt_v]
          rfl
        · refine go 4 (by omega) (by rw [hc4]; exact isl_k.2.2) ?_
          show X9_takeMarks_B4 _ _ _ _ = _
          unfold X9_takeMarks_B4 X9_takeMarks_B53
          have hiro : iro (mk : Int) 4 = ((mk ||| 4 : Nat) : Int) := iro_nn (y := 4) (by omega) (by decide)
          rw [if_neg (by omega)] at e4
          rw [if_neg (by omega)] at e5
          rw [if_pos hc4] at e6
          rw [if_neg (by first | omega | (unfold w32; omega)), bdk e4, if_pos (by decide), bdk e5, if_pos (by decide), bdk e6, if_neg (by decide), lt_v, hiro, h5, lt_v, lt_v]
          rfl
      · rw [if_neg (by omega)] at e4
        rw [if_neg (by omega)] at e5
        rw [if_neg (by omega)] at e6
        rw [if_neg (by omega)] at em
        exact stop e4 e5 e6 em
    · exact stop (w4.1 hk1) (w5.1 hk1) (w6.1 hk1) (mw.1 hk1)
