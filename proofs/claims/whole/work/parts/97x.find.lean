/-! a whole text on both sides -/
def rd0 (ρ : Mem) : Mem := st (st (st (st ρ 111 7 0) 111 10 0) 111 11 0) 111 13 0
theorem rd0_111 {ρ : Mem} : (∀ q, q ≠ 111 → rd0 ρ q = ρ q) ∧ (∀ j, j ≠ 7 → j ≠ 10 → j ≠ 11 → j ≠ 13 → rd0 ρ 111 j = ρ 111 j) ∧ rd0 ρ 111 7 = 0 ∧ rd0 ρ 111 10 = 0 ∧ rd0 ρ 111 11 = 0 ∧ rd0 ρ 111 13 = 0 := by
  unfold rd0
  refine ⟨fun q hq => by rw [st_ne hq, st_ne hq, st_ne hq, st_ne hq], fun j j1 j2 j3 j4 => by rw [st_self, up_ne j4, st_self, up_ne j3, st_self, up_ne j2, st_self, up_ne j1], by rw [st_self, up_ne (by omega), st_self, up_ne (by omega), st_self, up_ne (by omega), st_at], by rw [st_self, up_ne (by omega), st_self, up_ne (by omega), st_at], by rw [st_self, up_ne (by omega), st_at], st_at _ _ _ _⟩
def cd0 (τ : Mem) : Mem := st (st (st (st τ 41 1 0) 41 3 0) 41 4 0) 41 5 0
theorem cd0_41 {τ : Mem} : (∀ q, q ≠ 41 → cd0 τ q = τ q) ∧ cd0 τ 41 1 = 0 ∧ cd0 τ 41 3 = 0 ∧ cd0 τ 41 4 = 0 ∧ cd0 τ 41 5 = 0 := by
  unfold cd0
  refine ⟨fun q hq => by rw [st_ne hq, st_ne hq, st_ne hq, st_ne hq], by rw [st_self, up_ne (by omega), st_self, up_ne (by omega), st_self, up_ne (by omega), st_at], by rw [st_self, up_ne (by omega), st_self, up_ne (by omega), st_at], by rw [st_self, up_ne (by omega), st_at], st_at _ _ _ _⟩
theorem find_sim {B : Nat → Int} {n : Nat} {τ ρ : Mem} (hb : byR τ B n) (hr : rbR ρ B n) : ∃ (v : Int) (τ3 ρ2 ρ3 : Mem), X9_findFault τ = some (v, τ3) ∧ X11_step (rd0 ρ) = some ρ2 ∧ X11_readTextD 8 ρ2 = some ρ3 ∧ (∀ q, q < 41 ∨ q = 43 ∨ 49 < q → τ3 q = τ q) ∧ (∀ j, j ≠ 5 → τ3 42 j = τ 42 j) ∧ (∀ q, q ≠ 111 → q ≠ 116 → ρ3 q = ρ q) ∧ (∀ j, j < 6 → ρ3 111 j = ρ 111 j) ∧ (((0 ≤ v ∧ v ≤ 120) ∧ ρ3 111 6 = v ∧ (ρ3 111 11 = 1 ∨ (ρ3 111 11 = 0 ∧ 1 ≤ ρ3 111 8 ∧ ρ3 111 8 ≤ 5))) ∨ (v = -1 ∧ ρ3 111 11 = 0 ∧ ρ3 111 8 = 0 ∧ RW τ3 ρ3)) := by
  obtain ⟨τ1, T, s1, s2, s3, s4, s5, s6, s7, s8⟩ := c_split hb
  obtain ⟨r1, r2, r3, r4, r5, r6⟩ := rd0_111 (ρ := ρ)
  obtain ⟨k1, k2, k3, k4, k5⟩ := cd0_41 (τ := τ1)
  have hrb : rbR (rd0 ρ) B n := hr.frame (r2 5 (by omega) (by omega) (by omega) (by omega)) (r1 115 (by omega))
  have tk : TK B n T (cd0 τ1) := TK.frame ⟨s4, s5, hb.2.1, s6, s7, s8⟩ (k1 42 (by omega)) (k1 44 (by omega)) (k1 45 (by omega)) (k1 46 (by omega))
  obtain ⟨ρ2, m1, m2, m3, m4, m5, m6, m7, m8⟩ := m_step hrb (Nat.zero_le n) r3
  have rt : RT B n ρ2 0 := ⟨m4, m5, m6, m7, m8⟩
  have hrb2 : rbR ρ2 B n := hrb.frame (m3 5 (by omega)) (m2 115 (by omega))
  have pr : PR B n T (cd0 τ1) ρ2 0 0 := ⟨k2, Nat.zero_le T, k5, by rw [m3 10 (by omega)]; exact r4, by rw [m3 11 (by omega)]; exact r5, tk, hrb2, rt, Or.inl ⟨k4, 0, by omega, k3, by rw [m3 13 (by omega)]; exact r6, fun i hi => by omega, fun b hb => by omega⟩⟩
  obtain ⟨ρ3, t1, t2⟩ := text_sim 4 0 8 (by omega) (by omega) (cd0 τ1) ρ2 0 0 pr (Nat.le_refl 0)
  have hff : X9_findFault τ = X9_findFault_L31 (5000 - 0) (cd0 τ1) 1 ((0 : Nat) : Int) := by
    unfold X9_findFault
    rw [bdk s1, lt_v, lt_v, lt_v, lt_v]
    rfl
  have fin : ∀ (τ3 : Mem), FR (cd0 τ1) τ3 ρ2 ρ3 → (∀ q, q < 41 ∨ q = 43 ∨ 49 < q → τ3 q = τ q) ∧ (∀ j, j ≠ 5 → τ3 42 j = τ 42 j) ∧ (∀ q, q ≠ 111 → q ≠ 116 → ρ3 q = ρ q) ∧ (∀ j, j < 6 → ρ3 111 j = ρ 111 j) := fun τ3 fr => by
    refine ⟨fun q hq => ?_, fun j hj => ?_, fun q q1 q2 => ?_, fun j hj => ?_⟩
    · rw [fr.1 q (by omega) (by omega) (by omega) (by omega), k1 q (by omega), s2 q (by omega) (by omega) (by omega) (by omega)]
    · rw [fr.1 42 (by omega) (by omega) (by omega) (by omega), k1 42 (by omega), s3 j hj]
    · rw [fr.2.1 q q1 q2, m2 q q1, r1 q q1]
    · rw [fr.2.2 j (by omega), m3 j (by omega), r2 j (by omega) (by omega) (by omega) (by omega)]
  rcases t2 with ⟨τ3, k', f1, f2, f3, f4, f5⟩ | ⟨τ3, k', st', f1, f2, f3, f4, f5, f6, f7, f8, f9⟩
  · obtain ⟨z1, z2, z3, z4⟩ := fin τ3 f5
    have hle := tS_le (B := B) (n := n) k'
    have hn := hb.2.1
    exact ⟨_, τ3, ρ2, ρ3, hff.trans f1, m1, t1, z1, z2, z3, z4, Or.inl ⟨by omega, f4, Or.inl f3⟩⟩
  · obtain ⟨z1, z2, z3, z4⟩ := fin τ3 f6
    have hle := tS_le (B := B) (n := n) k'
    have hn := hb.2.1
    obtain ⟨p1, p2, p3, p4, p5, p6, p7, p8, p9⟩ := f4
    have hki := kdP_in (B := B) (n := n) (s := tS B n k')
    have hf := hff.trans f1
    have e8 : ρ3 111 8 = kdP B n (tS B n k') := p8.2.2.1
    have bad : 1 ≤ kdP B n (tS B n k') → X9_findFault τ = some (((tS B n k' : Nat) : Int), τ3) → ∃ (v : Int) (τ3 ρ2 ρ3 : Mem), X9_findFault τ = some (v, τ3) ∧ X11_step (rd0 ρ) = some ρ2 ∧ X11_readTextD 8 ρ2 = some ρ3 ∧ (∀ q, q < 41 ∨ q = 43 ∨ 49 < q → τ3 q = τ q) ∧ (∀ j, j ≠ 5 → τ3 42 j = τ 42 j) ∧ (∀ q, q ≠ 111 → q ≠ 116 → ρ3 q = ρ q) ∧ (∀ j, j < 6 → ρ3 111 j = ρ 111 j) ∧ (((0 ≤ v ∧ v ≤ 120) ∧ ρ3 111 6 = v ∧ (ρ3 111 11 = 1 ∨ (ρ3 111 11 = 0 ∧ 1 ≤ ρ3 111 8 ∧ ρ3 111 8 ≤ 5))) ∨ (v = -1 ∧ ρ3 111 11 = 0 ∧ ρ3 111 8 = 0 ∧ RW τ3 ρ3)) := fun g1 g2 => ⟨_, τ3, ρ2, ρ3, g2, m1, t1, z1, z2, z3, z4, Or.inl ⟨by omega, p8.1, Or.inr ⟨p5, by omega, by omega⟩⟩⟩
    by_cases c4 : kdP B n (tS B n k') = 4
    · refine bad (by omega) (hf.trans ?_)
      rw [c_turn p6 p2 p1 f2, if_neg (by omega), c4]
      unfold X9_findFault_B66 X9_takeClosing X9_findFault_B112
      rw [p3, if_pos (by decide), if_pos (by decide), if_neg (by decide), if_neg (by decide), if_neg (by decide), bd2_some, if_neg (by decide)]
      exact b137 p6 p2 p1
    · by_cases c0 : kdP B n (tS B n k') = 0
      · have hz : X9_findFault τ = some ((-1 : Int), τ3) := by
          rw [hf, c_turn p6 p2 p1 f2, if_pos ⟨c0, by rw [p3]; rfl, rfl⟩]
        exact ⟨-1, τ3, ρ2, ρ3, hz, m1, t1, z1, z2, z3, z4, Or.inr ⟨rfl, p5, by rw [e8]; exact c0, p9⟩⟩
      · exact bad (by omega) (hf.trans (c_fault p6 p2 p1 f2 f5 (fun h => absurd h c4) (fun h => absurd h c0)))
