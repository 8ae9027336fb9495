/-! a group is opened by both sides -/
theorem TK.lt {B : Nat → Int} {n T k : Nat} {τ : Mem} (h : TK B n T τ) (hk : k ≤ T) (h0 : kdP B n (tS B n k) ≠ 0) : k < T := by
  by_cases c : k = T
  · exfalso
    apply h0
    rw [c, h.2.2.2.1]
    exact if_pos (Nat.le_refl n)
  · omega
theorem b137 {B : Nat → Int} {n T k : Nat} {τ : Mem} (h : TK B n T τ) (hk : k ≤ T) (ha : τ 41 1 = k) : X9_findFault_B137 τ = some (((tS B n k : Nat) : Int), τ) := by
  unfold X9_findFault_B137
  rw [ha, bdk (h.at hk).2.1]
/-- both openings: what the reference holds behind its two needs -/
def opn (ρ : Mem) (b : Int) : Option Mem := bd (X11_need ρ b) fun s5 => if w32 (s5 111 11) ≠ 0 then X11_need s5 0 else if w32 (s5 111 8) ≠ w32 3 then X11_need s5 0 else if w32 4 ≤ w32 (s5 111 10) then X11_need s5 0 else X11_need s5 1
theorem open_sim {B : Nat → Int} {n T : Nat} {τ ρ : Mem} {k d : Nat} (h : PR B n T τ ρ k d) (hd : d ≤ 4) (hk2 : kdP B n (tS B n k) = 2) : ∃ (b : Int) (τ' ρ' : Mem), X11_isNumber ρ 1 9 = some b ∧ opn ρ b = some ρ' ∧ (∀ q, q ≠ 41 → q ≠ 48 → q ≠ 49 → τ' q = τ q) ∧ (∀ q, q ≠ 111 → ρ' q = ρ q) ∧ (∀ j, j < 6 ∨ j = 10 ∨ 11 < j → ρ' 111 j = ρ 111 j) ∧ (∀ i, i < d → τ' 48 i = τ 48 i ∧ τ' 49 i = τ 49 i) ∧ ((X9_takeOpening τ = some (0, τ') ∧ BAD B n T τ' ρ') ∨ (X9_takeOpening τ = some (1, τ') ∧ d < 4 ∧ (∃ t : Nat, 1 ≤ t ∧ t ≤ 9 ∧ ρ 111 9 = t ∧ τ' 48 d = t) ∧ τ' 49 d = τ 41 3 ∧ k + 2 ≤ T ∧ PR B n T τ' (st ρ' 111 10 ((ρ' 111 10) + 1)) (k + 2) (d + 1) ∧ τ' 41 4 = τ 41 4)) := by
  obtain ⟨p1, p2, p3, p4, p5, p6, p7, p8, p9⟩ := id h
  have hkT := p6.lt p2 (by omega)
  obtain ⟨b, n1, n2, n3⟩ := num_at p6 p2 p1 p8 p5 (lo := 1) (hi := 9) (by omega) (by omega)
  rcases n3 with ⟨n3, _⟩ | ⟨n3, _, x, x1, x2, x3, x4⟩
  · -- no such number
    have e11 : st ρ 111 11 1 111 11 = 1 := st_at _ _ _ _
    have ej : ∀ j, j ≠ 11 → st (st ρ 111 11 1) 111 11 1 111 j = ρ 111 j := fun j hj => by rw [st_self, up_ne hj, st_self, up_ne hj]
    refine ⟨b, τ, st (st ρ 111 11 1) 111 11 1, n2, ?_, fun _ _ _ _ => rfl, fun q hq => by rw [st_ne hq, st_ne hq], fun j hj => ej j (by omega), fun _ _ => ⟨rfl, rfl⟩, Or.inl ⟨?_, st_at _ _ _ _, k, p2, p1, by rw [ej 6 (by omega)]; exact p8.1, p6⟩⟩
    · unfold opn
      rw [n3, bdk (m_need0 ρ), e11, if_pos (by decide)]
      exact m_need0 _
    · unfold X9_takeOpening
      rw [bdk n1, n3, if_neg (by decide)]
  · obtain ⟨ρ1, s1, s2, s3, s4, s5⟩ := m_need1 p7 p8 p5
    have k1 : st τ 41 1 ((k : Int) + 1) 41 1 = ((k + 1 : Nat) : Int) := by rw [st_at]; rfl
    have tk1 : TK B n T (st τ 41 1 ((k : Int) + 1)) := p6.frame (st_ne (by omega)) (st_ne (by omega)) (st_ne (by omega)) (st_ne (by omega))
    have hkd := (tk1.at (show k + 1 ≤ T by omega)).1
    have hki := kdP_in (B := B) (n := n) (s := tS B n (k + 1))
    have bad1 : ρ1 111 11 = 0 := by rw [s3 11 (by omega)]; exact p5
    have k5 : st τ 41 1 ((k : Int) + 1) 41 5 = (d : Int) := by rw [st_self, up_ne (by omega)]; exact p3
    have no : (X9_takeOpening τ = some (0, st τ 41 1 ((k : Int) + 1))) → opn ρ b = X11_need ρ1 0 → ∃ (b : Int) (τ' ρ' : Mem), X11_isNumber ρ 1 9 = some b ∧ opn ρ b = some ρ' ∧ (∀ q, q ≠ 41 → q ≠ 48 → q ≠ 49 → τ' q = τ q) ∧ (∀ q, q ≠ 111 → ρ' q = ρ q) ∧ (∀ j, j < 6 ∨ j = 10 ∨ 11 < j → ρ' 111 j = ρ 111 j) ∧ (∀ i, i < d → τ' 48 i = τ 48 i ∧ τ' 49 i = τ 49 i) ∧ ((X9_takeOpening τ = some (0, τ') ∧ BAD B n T τ' ρ') ∨ (X9_takeOpening τ = some (1, τ') ∧ d < 4 ∧ (∃ t : Nat, 1 ≤ t ∧ t ≤ 9 ∧ ρ 111 9 = t ∧ τ' 48 d = t) ∧ τ' 49 d = τ 41 3 ∧ k + 2 ≤ T ∧ PR B n T τ' (st ρ' 111 10 ((ρ' 111 10) + 1)) (k + 2) (d + 1) ∧ τ' 41 4 = τ 41 4)) := by
      intro z1 z2
      refine ⟨b, st τ 41 1 ((k : Int) + 1), st ρ1 111 11 1, n2, by rw [z2]; exact m_need0 ρ1, fun q q1 _ _ => st_ne q1, fun q hq => by rw [st_ne hq, s2 q hq], fun j hj => by rw [st_self, up_ne (by omega), s3 j (by omega)], fun i _ => ⟨by rw [st_ne (by omega)], by rw [st_ne (by omega)]⟩, Or.inl ⟨z1, st_at _ _ _ _, k + 1, by omega, k1, by rw [st_self, up_ne (by omega)]; exact s5.1, tk1⟩⟩
    have ecls : ∀ X, (if w32 (kdP B n (tS B n (k + 1))) ≠ w32 3 then some ((0 : Int), st τ 41 1 ((k : Int) + 1)) else if w32 (d : Int) < w32 4 then lt (st (st τ 41 1 ((k : Int) + 1)) 41 1 (((k + 1 : Nat) : Int) + 1)) fun s5 => ag 4 (s5 41 5) fun j6 => lt (st s5 48 j6 x) fun s7 => ag 4 (s7 41 5) fun j8 => lt (st s7 49 j8 (s7 41 3)) fun s9 => lt (st s9 41 5 ((s9 41 5) + 1)) fun s10 => some (1, s10) else some (0, st τ 41 1 ((k : Int) + 1))) = X → X9_takeOpening τ = X := by
      intro X hX
      unfold X9_takeOpening
      rw [bdk n1, n3, if_pos (by decide), p1, bdk x3, lt_v, k1, bdk hkd, k5]
      exact hX
    have eop : opn ρ b = if w32 (kdP B n (tS B n (k + 1))) ≠ w32 3 then X11_need ρ1 0 else if w32 4 ≤ w32 (d : Int) then X11_need ρ1 0 else X11_need ρ1 1 := by
      unfold opn
      rw [n3, bdk s1, bad1, if_neg (by decide), s5.2.2.1, s3 10 (by omega), p4]
    by_cases c3 : kdP B n (tS B n (k + 1)) = 3
    · by_cases cd : d < 4
      · rw [c3, if_neg (by decide), if_neg (by first | omega | (unfold w32; omega))] at eop
        have hk2T := tk1.lt (show k + 1 ≤ T by omega) (by omega)
        obtain ⟨ρ2, w1, w2, w3, w4, w5⟩ := m_need1 s4 s5 bad1
        obtain ⟨t, ht⟩ : ∃ t : Nat, x = t := ⟨x.toNat, by omega⟩
        obtain ⟨τ4, hτ4⟩ : ∃ τ4, τ4 = st (st τ 41 1 ((k : Int) + 1)) 41 1 (((k + 1 : Nat) : Int) + 1) := ⟨_, rfl⟩
        have a41 : τ4 41 = up (up (τ 41) 1 ((k : Int) + 1)) 1 (((k + 1 : Nat) : Int) + 1) := by rw [hτ4, st_self, st_self]
        have aq : ∀ q, q ≠ 41 → τ4 q = τ q := fun q hq => by rw [hτ4, st_ne hq, st_ne hq]
        have a5 : τ4 41 5 = d := by rw [a41, up_ne (by omega), up_ne (by omega)]; exact p3
        have a3 : τ4 41 3 = τ 41 3 := by rw [a41, up_ne (by omega), up_ne (by omega)]
        obtain ⟨τ5, hτ5⟩ : ∃ τ5, τ5 = st (st (st τ4 48 d x) 49 d (τ 41 3)) 41 5 ((d : Int) + 1) := ⟨_, rfl⟩
        have b41 : τ5 41 = up (τ4 41) 5 ((d : Int) + 1) := by rw [hτ5, st_self, st_ne (by omega), st_ne (by omega)]
        have bq : ∀ q, q ≠ 41 → q ≠ 48 → q ≠ 49 → τ5 q = τ q := fun q q1 q2 q3 => by rw [hτ5, st_ne q1, st_ne q3, st_ne q2, aq q q1]
        have b48 : τ5 48 = up (τ 48) d x := by rw [hτ5, st_ne (by omega), st_ne (by omega), st_self, aq 48 (by omega)]
        have b49 : τ5 49 = up (τ 49) d (τ 41 3) := by rw [hτ5, st_ne (by omega), st_self, st_ne (by omega), aq 49 (by omega)]
        have bj : ∀ j, j ≠ 1 → j ≠ 5 → τ5 41 j = τ 41 j := fun j j1 j2 => by rw [b41, up_ne j2, a41, up_ne j1, up_ne j1]
        have c111 : ∀ j, j ≠ 10 → st ρ2 111 10 ((ρ2 111 10) + 1) 111 j = ρ2 111 j := fun j hj => by rw [st_self, up_ne hj]
        refine ⟨b, τ5, ρ2, n2, by rw [eop]; exact w1, bq, fun q hq => by rw [w2 q hq, s2 q hq], fun j hj => by rw [w3 j (by omega), s3 j (by omega)], fun i hi => ⟨by rw [b48, up_ne (by omega)], by rw [b49, up_ne (by omega)]⟩, Or.inr ⟨?_, cd, ⟨t, by omega, by omega, by rw [x4, ht], by rw [b48, up_at, ht]⟩, by rw [b49, up_at], by omega, ⟨by rw [b41, up_ne (by omega), a41, up_at]; omega, by omega, by rw [b41, up_at]; rfl, by rw [st_at, w3 10 (by omega), s3 10 (by omega), p4]; rfl, by rw [c111 11 (by omega), w3 11 (by omega)]; exact bad1, p6.frame (bq 42 (by omega) (by omega) (by omega)) (bq 44 (by omega) (by omega) (by omega)) (bq 45 (by omega) (by omega) (by omega)) (bq 46 (by omega) (by omega) (by omega)), w4.frame (c111 5 (by omega)) (st_ne (by omega)), ?_, ?_⟩, bj 4 (by omega) (by omega)⟩⟩
        · refine ecls _ ?_
          rw [c3, if_neg (by decide), if_pos (by first | omega | (unfold w32; omega)), lt_v, ← hτ4, a5, ag_nat cd (by decide), lt_v]
          rw [show st τ4 48 d x 41 = τ4 41 from st_ne (by omega), a5, ag_nat cd (by decide), a3, lt_v]
          rw [show st (st τ4 48 d x) 49 d (τ 41 3) 41 5 = (d : Int) by rw [st_ne (by omega), st_ne (by omega)]; exact a5, lt_v, ← hτ5]
        · unfold RT
          rw [c111 6 (by omega), c111 7 (by omega), c111 8 (by omega), c111 9 (by omega)]
          exact w5
        · unfold RW at p9 ⊢
          rw [bj 4 (by omega) (by omega), bj 3 (by omega) (by omega), c111 13 (by omega), w3 13 (by omega), s3 13 (by omega), bq 47 (by omega) (by omega) (by omega), st_ne (show (116 : Nat) ≠ 111 by omega), w2 116 (by omega), s2 116 (by omega)]
          exact p9
      · rw [c3, if_neg (by decide), if_pos (by first | omega | (unfold w32; omega))] at eop
        exact no (ecls _ (by rw [c3, if_neg (by decide), if_neg (by first | omega | (unfold w32; omega))])) eop
    · rw [if_pos (by rw [w32_id (by omega) (by omega)]; exact c3)] at eop
      exact no (ecls _ (by rw [if_pos (by rw [w32_id (by omega) (by omega)]; exact c3)])) eop
