/-! the invariant at the start -/
theorem z0_112 : z0 112 = m0 := rfl
theorem wf0 : WF (z0 112) := by
  rw [z0_112]
  refine ⟨by decide, fun p hp => ?_, fun p hp b hb => ?_, by decide, fun k hk => ?_, fun s hs => ?_⟩
  · rcases (by omega : p = 0 ∨ p = 1 ∨ p = 2 ∨ p = 3) with rfl | rfl | rfl | rfl <;> decide
  · exfalso
    have : m0 (9 + 165 * p) = 0 := by rcases (by omega : p = 0 ∨ p = 1 ∨ p = 2 ∨ p = 3) with rfl | rfl | rfl | rfl <;> rfl
    rw [this] at hb
    omega
  · exfalso
    have : m0 665 = 0 := rfl
    rw [this] at hk
    omega
  · rcases (by omega : s = 0 ∨ s = 1 ∨ s = 2 ∨ s = 3 ∨ s = 4 ∨ s = 5 ∨ s = 6 ∨ s = 7 ∨ s = 8 ∨ s = 9) with rfl | rfl | rfl | rfl | rfl | rfl | rfl | rfl | rfl | rfl <;> decide
theorem cr0 : CRB 1 (z0 112) z0 := by
  rw [z0_112]
  refine ⟨fun i hi => ?_, fun p hp w hw => ?_, fun p hp => ?_, fun p hp j _ hj => ?_, rfl, fun k _ hk => ?_, fun s hs => ?_⟩
  · rcases (by omega : i = 0 ∨ i = 1 ∨ i = 2 ∨ i = 3 ∨ i = 4) with rfl | rfl | rfl | rfl | rfl <;> rfl
  · rcases (by omega : p = 0 ∨ p = 1 ∨ p = 2 ∨ p = 3) with rfl | rfl | rfl | rfl <;> rcases (by omega : w = 0 ∨ w = 1 ∨ w = 2 ∨ w = 3) with rfl | rfl | rfl | rfl <;> rfl
  · rcases (by omega : p = 0 ∨ p = 1 ∨ p = 2 ∨ p = 3) with rfl | rfl | rfl | rfl <;> rfl
  · exfalso
    have : m0 (9 + 165 * p) = 0 := by rcases (by omega : p = 0 ∨ p = 1 ∨ p = 2 ∨ p = 3) with rfl | rfl | rfl | rfl <;> rfl
    rw [this] at hj
    omega
  · exfalso
    have : m0 665 = 0 := rfl
    rw [this] at hk
    omega
  · rcases (by omega : s = 0 ∨ s = 1 ∨ s = 2 ∨ s = 3 ∨ s = 4 ∨ s = 5 ∨ s = 6 ∨ s = 7 ∨ s = 8 ∨ s = 9) with rfl | rfl | rfl | rfl | rfl | rfl | rfl | rfl | rfl | rfl <;> rfl
theorem rel0 : Rel z0 z0 := by
  refine ⟨wf0, cr0, Or.inl ⟨rfl, rfl⟩, ⟨?_, ?_, rfl, fun i hi => ?_⟩, fun i hi => ?_, fun s hs => ?_, fun p hp => ?_⟩
  · show (0 : Int) ≤ 0; omega
  · show (0 : Int) ≤ 120; omega
  · exfalso
    have : (i : Int) < 0 := hi
    omega
  · rcases (by omega : i = 0 ∨ i = 1 ∨ i = 2 ∨ i = 3 ∨ i = 4 ∨ i = 5 ∨ i = 6) with rfl | rfl | rfl | rfl | rfl | rfl | rfl <;> rfl
  · rcases (by omega : s = 0 ∨ s = 1 ∨ s = 2 ∨ s = 3) with rfl | rfl | rfl | rfl
    · exact ⟨Or.inl rfl, rfl, rfl, ⟨by decide, by decide⟩, fun i _ => ⟨iR0 (by show (-2147483648 : Int) ≤ 0; decide) (by show (0 : Int) < 2147483648; decide), iR0 (by show (-2147483648 : Int) ≤ 0; decide) (by show (0 : Int) < 2147483648; decide), Or.inl rfl⟩⟩
    · exact ⟨Or.inl rfl, rfl, rfl, ⟨by decide, by decide⟩, fun i _ => ⟨iR0 (by show (-2147483648 : Int) ≤ 0; decide) (by show (0 : Int) < 2147483648; decide), iR0 (by show (-2147483648 : Int) ≤ 0; decide) (by show (0 : Int) < 2147483648; decide), Or.inl rfl⟩⟩
    · exact ⟨Or.inl rfl, rfl, rfl, ⟨by decide, by decide⟩, fun i _ => ⟨iR0 (by show (-2147483648 : Int) ≤ 0; decide) (by show (0 : Int) < 2147483648; decide), iR0 (by show (-2147483648 : Int) ≤ 0; decide) (by show (0 : Int) < 2147483648; decide), Or.inl rfl⟩⟩
    · exact ⟨Or.inl rfl, rfl, rfl, ⟨by decide, by decide⟩, fun i _ => ⟨iR0 (by show (-2147483648 : Int) ≤ 0; decide) (by show (0 : Int) < 2147483648; decide), iR0 (by show (-2147483648 : Int) ≤ 0; decide) (by show (0 : Int) < 2147483648; decide), Or.inl rfl⟩⟩
  · rcases (by omega : p = 0 ∨ p = 1 ∨ p = 2 ∨ p = 3) with rfl | rfl | rfl | rfl <;> exact ⟨Or.inl rfl, Or.inl rfl⟩
