/-! faults and bars in the class's loop -/
theorem c_fault {B : Nat → Int} {n T k step : Nat} {τ : Mem} {bare : Int} (tk : TK B n T τ) (hk : k ≤ T) (ha : τ 41 1 = k) (hs : step ≤ k) (hno : noIt B n τ k) (h4 : kdP B n (tS B n k) = 4 → w32 bare ≠ 0) (h0 : kdP B n (tS B n k) = 0 → w32 (τ 41 5) ≠ 0 ∨ w32 bare ≠ 0) : X9_findFault_L31 (5000 - step) τ bare step = some (((tS B n k : Nat) : Int), τ) := by
  have hki := kdP_in (B := B) (n := n) (s := tS B n k)
  rw [c_turn tk hk ha hs, if_neg (fun x => by
    rcases h0 x.1 with y | y
    · exact y x.2.1
    · exact y x.2.2)]
  have fin : ∀ r3 : Int, X9_findFault_B112 (X9_findFault_L31 (5000 - (step + 1))) τ step r3 0 = some (((tS B n k : Nat) : Int), τ) := fun r3 => by
    unfold X9_findFault_B112
    rw [if_neg (by decide)]
    exact b137 tk hk ha
  unfold X9_findFault_B66
  rw [if_pos (by rw [w32_id (by omega) (by omega)]; exact hno.1)]
  by_cases c1 : kdP B n (tS B n k) = 1
  · obtain ⟨c, v1, v2, v3⟩ := hno.2 c1
    have hb : X9_takeBar τ = some (0, τ) := by
      unfold X9_takeBar
      rw [ha, bdk v1, if_neg (by first | omega | (unfold w32; omega))]
    rw [c1, if_neg (by decide), bd2k hb]
    exact fin 1
  · rw [if_pos (by rw [w32_id (by omega) (by omega)]; exact c1)]
    by_cases c4 : kdP B n (tS B n k) = 4
    · rw [c4, if_neg (by decide), if_pos (h4 c4)]
      exact fin 4
    · rw [if_pos (by rw [w32_id (by omega) (by omega)]; exact c4)]
      exact fin _
theorem item_bar {B : Nat → Int} {n T : Nat} {τ ρ : Mem} {k d step : Nat} {bare c : Int} (h : PR B n T τ ρ k d) (hs : step ≤ k) (hk1 : kdP B n (tS B n k) = 1) (hc : 0 ≤ c ∧ c ≤ 2) (hval : X8_valueOf τ k = some c) (h9 : ρ 111 9 = c) (recT : Mem → Option Mem) : ∃ ρ', X11_readItem recT ρ = some ρ' ∧ OUT B n T d τ ρ bare step k ρ' := by
  obtain ⟨p1, p2, p3, p4, p5, p6, p7, p8, p9⟩ := id h
  have hkT := p6.lt p2 (by omega)
  obtain ⟨τ', ρ', f1, f2, f3, f4⟩ := bar_sim h hkT hk1 hc hval h9
  have hw := (m_isWord p8 p5 (lo := 0) (hi := 2) (by omega) (by omega)).2 (by omega) (by omega) hk1
  rw [if_pos (by omega)] at hw
  have hloop : ∀ r, X9_takeBar τ = some (r, τ') → X9_findFault_L31 (5000 - step) τ bare step = X9_findFault_B112 (X9_findFault_L31 (5000 - (step + 1))) τ' step 1 r := fun r hr => by
    rw [c_turn p6 p2 p1 hs, if_neg (fun x => by omega), hk1]
    unfold X9_findFault_B66
    rw [if_pos (by decide), if_neg (by decide), bd2k hr]
  refine ⟨ρ', ?_, ?_⟩
  · unfold X11_readItem
    rw [bdk hw, if_neg (by decide), bdk f3]
  · rcases f4 with ⟨g1, b1, k', b2, b3, b4, b5⟩ | ⟨g1, ⟨k', k1, k2⟩, g3, g4⟩
    · refine Or.inl ⟨τ', k', ?_, b2, b1, b4, f1⟩
      rw [hloop 0 g1]
      unfold X9_findFault_B112
      rw [if_neg (by decide)]
      exact b137 b5 b2 b3
    · refine Or.inr ⟨τ', k', step + 1, ?_, by omega, k1, k2, f1, fun i _ => f2 i, g3, g4⟩
      rw [hloop 1 g1]
      unfold X9_findFault_B112 X9_findFault_B130
      rw [if_pos (by decide), if_pos (by decide), lt_v]
      rfl
