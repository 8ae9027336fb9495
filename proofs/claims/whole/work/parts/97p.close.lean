/-! a group is closed by both sides -/
theorem close_sim {B : Nat → Int} {n T : Nat} {τ ρ : Mem} {k d t b0 : Nat} (h : PR B n T τ ρ k (d + 1)) (hkT : k < T) (hd : d < 4) (ht : τ 48 d = t) (ht9 : 1 ≤ t ∧ t ≤ 9) (hb : (b0 : Int) ≤ ρ 111 13) (hfb : τ 41 4 = 0 → τ 49 d = b0) (recT : Mem → Option Mem) : ∃ (τ' ρ1 ρ' : Mem), X9_takeClosing τ = some (1, τ') ∧ X11_need ρ 1 = some ρ1 ∧ X11_readTimes_L111 recT 5000 (st ρ1 111 10 ((ρ1 111 10) - 1)) t b0 ((st ρ1 111 10 ((ρ1 111 10) - 1)) 111 13 - b0) 0 = some ρ' ∧ PR B n T τ' ρ' (k + 1) d ∧ FR τ τ' ρ ρ' ∧ (∀ i, τ' 48 i = τ 48 i ∧ τ' 49 i = τ 49 i) ∧ (τ 41 4 = 1 → τ' 41 4 = 1) ∧ ρ 111 13 ≤ ρ' 111 13 := by
  obtain ⟨p1, p2, p3, p4, p5, p6, p7, p8, p9⟩ := h
  have hrd := p9.read
  obtain ⟨ρ1, s1, s2, s3, s4, s5⟩ := m_need1 p7 p8 p5
  obtain ⟨ρ2, hρ2⟩ : ∃ ρ2, ρ2 = st ρ1 111 10 ((ρ1 111 10) - 1) := ⟨_, rfl⟩
  have e111 : ρ2 111 = up (ρ1 111) 10 ((ρ1 111 10) - 1) := by rw [hρ2]; exact st_self _ _ _ _
  have eq2 : ∀ q, q ≠ 111 → ρ2 q = ρ q := fun q hq => by rw [hρ2, st_ne hq, s2 q hq]
  have ej2 : ∀ j, j < 6 ∨ (9 < j ∧ j ≠ 10) → ρ2 111 j = ρ 111 j := fun j hj => by rw [e111, up_ne (by omega), s3 j (by omega)]
  have e10 : ρ2 111 10 = d := by rw [e111, up_at, s3 10 (by omega), p4]; omega
  have rt2 : RT B n ρ2 (k + 1) := by
    unfold RT
    rw [e111, up_ne (by omega), up_ne (by omega), up_ne (by omega), up_ne (by omega)]
    exact s5
  have rb2 : rbR ρ2 B n := s4.frame (by rw [e111, up_ne (by omega)]) (by rw [hρ2]; exact st_ne (by omega))
  obtain ⟨R, hR⟩ : ∃ R : Nat, ρ 111 13 = R := ⟨(ρ 111 13).toNat, by omega⟩
  have hR2 : ρ2 111 13 = R := by rw [ej2 13 (by omega)]; exact hR
  obtain ⟨many, hmany⟩ : ∃ many, R = b0 + many := ⟨R - b0, by omega⟩
  have hMe : ((t : Int) - 1) * (many : Int) = (((t - 1) * many : Nat) : Int) := by
    rw [Int.natCast_mul]
    congr 1
    omega
  have hM1 : (t - 1) * many ≤ 8 * many := Nat.mul_le_mul_right many (by omega)
  obtain ⟨ρ', R', m1, m2, m3, m4, m5, m6, m7, m8, m9⟩ := m_rep (recT := recT) (b0 := b0) (many := many) (M := (t - 1) * many) (t := (t : Int)) hMe (by omega) ((t - 1) * many) 0 5000 ρ2 (by omega) (by omega) (by rw [hR2, hmany]; rfl) (by omega) (by rw [ej2 11 (by omega)]; exact p5)
  have m1' : X11_readTimes_L111 recT 5000 ρ2 t b0 (ρ2 111 13 - b0) 0 = some ρ' := by
    rw [hR2, show (R : Int) - b0 = (many : Int) by omega]
    exact m1
  -- the class
  obtain ⟨τ2, hτ2⟩ : ∃ τ2, τ2 = st (st τ 41 1 ((k : Int) + 1)) 41 5 (d : Int) := ⟨_, rfl⟩
  have c41 : τ2 41 = up (up (τ 41) 1 ((k : Int) + 1)) 5 (d : Int) := by rw [hτ2, st_self, st_self]
  have cq : ∀ q, q ≠ 41 → τ2 q = τ q := fun q hq => by rw [hτ2, st_ne hq, st_ne hq]
  have ecls : X9_takeClosing τ = X9_takeClosing_L46 5000 τ2 (τ 41 3 - τ 49 d) 1 := by
    unfold X9_takeClosing
    rw [p3, if_pos (by first | omega | (unfold w32; omega)), p1, lt_v]
    rw [show st τ 41 1 ((k : Int) + 1) 41 5 = ((d + 1 : Nat) : Int) by rw [st_self, up_ne (by omega)]; exact p3, show ((d + 1 : Nat) : Int) - 1 = (d : Int) by omega, lt_v, ← hτ2]
    rw [show τ2 41 5 = (d : Int) by rw [c41, up_at], ag_nat hd (by decide), lt_v, show τ2 41 3 = τ 41 3 by rw [c41, up_ne (by omega), up_ne (by omega)], cq 49 (by omega)]
  have tk2 : TK B n T τ2 := p6.frame (cq 42 (by omega)) (cq 44 (by omega)) (cq 45 (by omega)) (cq 46 (by omega))
  have rt' : RT B n ρ' (k + 1) := by
    unfold RT
    rw [m7 6 (by omega), m7 7 (by omega), m7 8 (by omega), m7 9 (by omega)]
    exact rt2
  have rb' : rbR ρ' B n := rb2.frame (m7 5 (by omega)) (m6 115 (by omega) (by omega))
  have hge : ρ 111 13 ≤ ρ' 111 13 := by rw [m2, hR]; omega
  have mk : ∀ τ', X9_takeClosing τ = some (1, τ') → (∀ q, q ≠ 41 → q ≠ 47 → τ' q = τ2 q) → (∀ j, j ≠ 3 → j ≠ 4 → τ' 41 j = τ2 41 j) → RW τ' ρ' → (τ 41 4 = 1 → τ' 41 4 = 1) → ∃ (τ' ρ1 ρ' : Mem), X9_takeClosing τ = some (1, τ') ∧ X11_need ρ 1 = some ρ1 ∧ X11_readTimes_L111 recT 5000 (st ρ1 111 10 ((ρ1 111 10) - 1)) t b0 ((st ρ1 111 10 ((ρ1 111 10) - 1)) 111 13 - b0) 0 = some ρ' ∧ PR B n T τ' ρ' (k + 1) d ∧ FR τ τ' ρ ρ' ∧ (∀ i, τ' 48 i = τ 48 i ∧ τ' 49 i = τ 49 i) ∧ (τ 41 4 = 1 → τ' 41 4 = 1) ∧ ρ 111 13 ≤ ρ' 111 13 := by
    intro τ' a1 a2 a3 a4 a5
    refine ⟨τ', ρ1, ρ', a1, s1, by rw [← hρ2]; exact m1', ⟨by rw [a3 1 (by omega) (by omega), c41, up_ne (by omega), up_at]; rfl, by omega, by rw [a3 5 (by omega) (by omega), c41, up_at], by rw [m7 10 (by omega)]; exact e10, by rw [m7 11 (by omega), ej2 11 (by omega)]; exact p5, tk2.frame (a2 42 (by omega) (by omega)) (a2 44 (by omega) (by omega)) (a2 45 (by omega) (by omega)) (a2 46 (by omega) (by omega)), rb', rt', a4⟩, ⟨fun q q1 q2 _ _ => by rw [a2 q q1 q2, cq q q1], fun q q1 q2 => by rw [m6 q q1 q2, eq2 q q1], fun j hj => by rw [m7 j (by omega), ej2 j (by omega)]⟩, fun i => ⟨by rw [a2 48 (by omega) (by omega), cq 48 (by omega)], by rw [a2 49 (by omega) (by omega), cq 49 (by omega)]⟩, a5, hge⟩
  rcases p9 with ⟨o0, R0, q1, q2, q3, q4, q5⟩ | ⟨o1, q1, q2⟩
  · have hRR : R0 = R := by omega
    rw [hRR] at q1 q2 q4 q5
    obtain ⟨τ', w1, w2, w3, w4⟩ := c_rep (d := d) (t := t) (g := many) hd ht9.2 (t - 1) 1 5000 R τ2 (by omega) (by omega) (by rw [c41, up_at]) (by rw [cq 48 (by omega)]; exact ht) (by rw [c41, up_ne (by omega), up_ne (by omega)]; exact o0) (by rw [c41, up_ne (by omega), up_ne (by omega)]; exact q2) q1 (by omega)
    have w1' : X9_takeClosing τ = some (1, τ') := by
      rw [ecls, q2, hfb o0, show (R : Int) - b0 = (many : Int) by omega]
      exact w1
    refine mk τ' w1' w2 w3 ?_ (fun c => by omega)
    rcases w4 with ⟨v1, v2, v3, v4, v5⟩ | ⟨v1, v2, v3⟩
    · have hR' : R' = R + (t - 1) * many := by omega
      have hrow : ∀ q, q < 4 * (R + (t - 1) * many) → τ' 47 q = ρ' 116 q := per_eq (a := 4 * R) (p := 4 * many) (by omega) (fun c => by
          by_cases cm : many = 0
          · rw [cm] at c; omega
          · omega) (fun q hq => by rw [v4 q hq, cq 47 (by omega), q4 q hq, m8 q (by omega), eq2 116 (by omega)]) v5 (fun q q1 q2 => m9 q (by omega) (by omega))
      refine Or.inl ⟨v1, R + (t - 1) * many, v2, v3, by rw [m2, hR'], hrow, fun b => ?_⟩
      induction b using Nat.strongRecOn with
      | ind b ih =>
        intro hb2
        by_cases cb : b < R
        · have := q5 b cb
          unfold okRow at this ⊢
          rw [m8 _ (by omega), m8 _ (by omega), m8 _ (by omega), m8 _ (by omega), eq2 116 (by omega)]
          exact this
        · have hmp : 0 < many := by
            by_cases cm : many = 0
            · rw [cm] at hb2; omega
            · omega
          have := ih (b - many) (by omega) (by omega)
          unfold okRow at this ⊢
          rw [m9 (4 * b) (by omega) (by omega), m9 (4 * b + 1) (by omega) (by omega), m9 (4 * b + 2) (by omega) (by omega), m9 (4 * b + 3) (by omega) (by omega), show 4 * b - 4 * many = 4 * (b - many) by omega, show 4 * b + 1 - 4 * many = 4 * (b - many) + 1 by omega, show 4 * b + 2 - 4 * many = 4 * (b - many) + 2 by omega, show 4 * b + 3 - 4 * many = 4 * (b - many) + 3 by omega]
          exact this
    · exact Or.inr ⟨v1, by rw [m2]; omega, v3⟩
  · have ho2 : τ2 41 4 = 1 := by rw [c41, up_ne (by omega), up_ne (by omega)]; exact o1
    have w1 := c_repOver (τ := τ2) (d := d) (t := t) (g := τ 41 3 - τ 49 d) (by rw [c41, up_at]) hd (by rw [cq 48 (by omega)]; exact ht) ht9.2 ho2 (t - 1) 1 5000 (by omega) (by omega)
    refine mk τ2 (ecls.trans w1) (fun _ _ _ => rfl) (fun _ _ _ => rfl) (Or.inr ⟨ho2, by rw [m2]; omega, ?_⟩) (fun _ => ho2)
    rw [c41, up_ne (by omega), up_ne (by omega)]
    exact q2
