/-! a bar is read by both sides -/
def BAD (B : Nat → Int) (n T : Nat) (τ' ρ' : Mem) : Prop := ρ' 111 11 = 1 ∧ ∃ k', k' ≤ T ∧ τ' 41 1 = ((k' : Nat) : Int) ∧ ρ' 111 6 = ((tS B n k' : Nat) : Int) ∧ TK B n T τ'
theorem m_bar_bad {ρ : Mem} {idx : Nat} (hb : ρ 111 11 = 1) (hr : 0 ≤ ρ 111 13 ∧ ρ 111 13 ≤ 64) : X11_readBar_L112 5000 ρ idx = some (fnR ρ) := by
  show X11_readBar_B112 _ _ _ = _
  unfold X11_readBar_B112 fnR
  rw [bdk ((m_bad hb).1 4 6), if_pos (by decide)]
  by_cases c : 64 ≤ ρ 111 13
  · rw [if_pos (by first | omega | (unfold w32; omega)), lt_v, if_pos c]
  · rw [if_neg (by first | omega | (unfold w32; omega)), lt_v, if_neg c]
/-- behind hand, room and beats -/
theorem bar_tail {B : Nat → Int} {n T : Nat} {τ ρ : Mem} (hw : RW τ ρ) {idx k d : Nat} (hidx : (idx : Int) = 4 * (if 64 ≤ ρ 111 13 then 63 else ρ 111 13)) {τ5 ρ5 : Mem} {x c bt : Int} (hx : 1 ≤ x ∧ x ≤ 60) (hc : 0 ≤ c ∧ c ≤ 2) (hbt : 1 ≤ bt ∧ bt ≤ 12) (hk : k ≤ T) (hk1 : 1 ≤ k) (a1 : τ5 41 1 = k) (a2 : ∀ j, j ≠ 1 → τ5 41 j = τ 41 j) (a3 : τ5 47 = τ 47) (a4 : τ5 41 5 = d) (tk : TK B n T τ5) (rb : rbR ρ5 B n) (rt : RT B n ρ5 k) (hb0 : ρ5 111 11 = 0) (hd : ρ5 111 10 = d) (r1 : ρ5 111 13 = ρ 111 13) (r2 : ∀ j, j < idx ∨ idx + 3 < j → ρ5 116 j = ρ 116 j) (v0 : ρ5 116 idx = x) (v1 : ρ5 116 (idx + 1) = c) (v2 : ρ5 116 (idx + 2) = bt) (v3 : ρ5 116 (idx + 3) = 0) : ∃ (τ' ρ' : Mem) (k' : Nat), X9_takeBar_B117 τ5 c x bt = some (1, τ') ∧ X11_readBar_L112 5000 ρ5 idx = some ρ' ∧ k ≤ k' ∧ PR B n T τ' ρ' k' d ∧ (∀ q, q ≠ 41 → q ≠ 47 → τ' q = τ5 q) ∧ (∀ q, q ≠ 111 → q ≠ 116 → ρ' q = ρ5 q) ∧ (∀ j, j < 6 ∨ j = 12 ∨ 13 < j → ρ' 111 j = ρ5 111 j) ∧ (τ 41 4 = 1 → τ' 41 4 = 1) ∧ ρ 111 13 ≤ ρ' 111 13 := by
  have hrd := hw.read
  have hi3 : idx + 3 < 256 := by
    split at hidx <;> omega
  have hn := tk.2.2.1
  have hTn := tk.2.1
  obtain ⟨τ6, ρ6, k', mk, t1, t2, t3, t4, t5, t6, t7, t8, t9, t10, t11, t12, t13, t14⟩ := marks_sim (B := B) (n := n) (T := T) hi3 (T - k) k 5000 5000 0 0 τ5 ρ5 (by omega) (by omega) (by omega) (by omega) a1 tk rb rt hb0 (by omega) v3 (by rw [r1]; exact hrd.1) (by rw [r1]; exact hrd.2)
  obtain ⟨τ7, s1, s2, s3, s4, s5, s6⟩ := bar_end hw (τ2 := τ6) (ρ2 := ρ6) (idx := idx) hidx (x := x) (c := c) (bt := bt) (mk := (mk : Int)) hx hc hbt (by omega) (fun j hj => by rw [t11 j hj, a2 j hj]) (by rw [t10 47 (by omega)]; exact a3) (by rw [t13 13 (by omega)]; exact r1) (fun j hj => by rw [t14 j (by omega)]; exact r2 j hj) (by rw [t14 idx (by omega)]; exact v0) (by rw [t14 (idx + 1) (by omega)]; exact v1) (by rw [t14 (idx + 2) (by omega)]; exact v2) t4
  have f111 : ∀ j, j ≠ 13 → fnR ρ6 111 j = ρ6 111 j := fun j hj => by unfold fnR; rw [st_self, up_ne hj]
  have fq : ∀ q, q ≠ 111 → fnR ρ6 q = ρ6 q := fun q hq => st_ne hq
  refine ⟨τ7, fnR ρ6, k', ?_, t2, t6, ⟨by rw [s3 1 (by omega) (by omega)]; exact t5, t7, by rw [s3 5 (by omega) (by omega), t11 5 (by omega)]; exact a4, by rw [f111 10 (by omega), t13 10 (by omega)]; exact hd, by rw [f111 11 (by omega), t13 11 (by omega)]; exact hb0, (tk.frame (t10 42 (by omega)) (t10 44 (by omega)) (t10 45 (by omega)) (t10 46 (by omega))).frame (s2 42 (by omega) (by omega)) (s2 44 (by omega) (by omega)) (s2 45 (by omega) (by omega)) (s2 46 (by omega) (by omega)), t8.frame (f111 5 (by omega)) (fq 115 (by omega)), by
    unfold RT
    rw [f111 6 (by omega), f111 7 (by omega), f111 8 (by omega), f111 9 (by omega)]
    exact t9, s4⟩, fun q q1 q2 => by rw [s2 q q1 q2, t10 q q1], fun q q1 q2 => by rw [fq q q1, t12 q q1 q2], fun j hj => by rw [f111 j (by omega), t13 j (by omega)], s5, s6⟩
  unfold X9_takeBar_B117
  have t1' : X9_takeMarks τ5 = some ((mk : Int), τ6) := t1
  rw [bd2k t1', bdk s1]
theorem bar_sim {B : Nat → Int} {n T : Nat} {τ ρ : Mem} {k d : Nat} (h : PR B n T τ ρ k d) (hkT : k < T) (hk1 : kdP B n (tS B n k) = 1) {c : Int} (hc : 0 ≤ c ∧ c ≤ 2) (hval : X8_valueOf τ k = some c) (h9 : ρ 111 9 = c) : ∃ (τ' ρ' : Mem), FR τ τ' ρ ρ' ∧ (∀ i, τ' 48 i = τ 48 i ∧ τ' 49 i = τ 49 i) ∧ X11_readBar ρ = some ρ' ∧ ((X9_takeBar τ = some (0, τ') ∧ BAD B n T τ' ρ') ∨ (X9_takeBar τ = some (1, τ') ∧ (∃ k', k < k' ∧ PR B n T τ' ρ' k' d) ∧ (τ 41 4 = 1 → τ' 41 4 = 1) ∧ ρ 111 13 ≤ ρ' 111 13)) := by
  obtain ⟨p1, p2, p3, p4, p5, p6, p7, p8, p9⟩ := h
  have hrd := p9.read
  have hn := p6.2.2.1
  have hTn := p6.2.1
  obtain ⟨idx, hidx⟩ : ∃ idx : Nat, (idx : Int) = 4 * (if 64 ≤ ρ 111 13 then 63 else ρ 111 13) := ⟨(4 * (if 64 ≤ ρ 111 13 then 63 else ρ 111 13)).toNat, by split <;> omega⟩
  have hi3 : idx + 3 < 256 := by split at hidx <;> omega
  -- the hand
  have q111 : st ρ 116 (idx + 1) c 111 = ρ 111 := st_ne (by omega)
  have q116 : st ρ 116 (idx + 1) c 116 = up (ρ 116) (idx + 1) c := st_self _ _ _ _
  obtain ⟨ρ1, s1, s2, s3, s4, s5⟩ := m_next (ρ := st ρ 116 (idx + 1) c) (k := k) (p7.frame (by rw [q111]) (st_ne (by omega))) (by unfold RT; rw [q111]; exact p8)
  -- the room
  obtain ⟨ρ2, hρ2⟩ : ∃ ρ2, ρ2 = st ρ1 116 idx (ρ1 111 9) := ⟨_, rfl⟩
  have u111 : ρ2 111 = ρ1 111 := by rw [hρ2]; exact st_ne (by omega)
  have u116 : ρ2 116 = up (ρ1 116) idx (ρ1 111 9) := by rw [hρ2]; exact st_self _ _ _ _
  have uq : ∀ q, q ≠ 116 → ρ2 q = ρ1 q := fun q hq => by rw [hρ2]; exact st_ne hq
  have rt2 : RT B n ρ2 (k + 1) := by unfold RT; rw [u111]; exact s5
  have rb2 : rbR ρ2 B n := s4.frame (by rw [u111]) (uq 115 (by omega))
  have bad2 : ρ2 111 11 = 0 := by rw [u111, s3 11 (by omega), q111]; exact p5
  have k2 : st τ 41 1 ((k : Int) + 1) 41 1 = ((k + 1 : Nat) : Int) := by rw [st_at]; rfl
  have tk2 : TK B n T (st τ 41 1 ((k : Int) + 1)) := p6.frame (st_ne (by omega)) (st_ne (by omega)) (st_ne (by omega)) (st_ne (by omega))
  obtain ⟨b1, n1, n2, n3⟩ := num_at tk2 (show k + 1 ≤ T by omega) k2 rt2 bad2 (lo := 1) (hi := 60) (by omega) (by omega)
  have eR : ∀ X, (bd (X11_need ρ2 b1) fun s10 => ag 256 ((idx : Int) + 2) fun j11 => lt (st s10 116 j11 4) fun s12 => ag 256 ((idx : Int) + 3) fun j13 => lt (st s12 116 j13 0) fun s14 => bd (X11_isWord s14 3 3) fun r15 => if w32 r15 = 0 then X11_readBar_L112 5000 s14 idx else bd (X11_step s14) fun s17 => ag 256 ((idx : Int) + 2) fun j18 => lt (st s17 116 j18 (s17 111 9)) fun s19 => bd (X11_isNumber s19 1 12) fun r20 => bd (X11_need s19 r20) fun s22 => X11_readBar_L112 5000 s22 idx) = X → X11_readBar ρ = X := by
    intro X hX
    have e : X11_readBar ρ = X11_readBar_B19 ρ 4 (if 64 ≤ ρ 111 13 then 63 else ρ 111 13) := by
      unfold X11_readBar
      by_cases cc : 64 ≤ ρ 111 13
      · rw [if_pos (by first | omega | (unfold w32; omega)), if_pos cc]
      · rw [if_neg (by first | omega | (unfold w32; omega)), if_neg cc]
    rw [e]
    unfold X11_readBar_B19
    rw [lt_v, ← hidx, show (idx : Int) + 1 = ((idx + 1 : Nat) : Int) by omega, ag_nat (by omega) (by decide), lt_v, h9, bdk s1, ag_nat (by omega) (by decide), lt_v, ← hρ2, bdk n2]
    exact hX
  have clsv : X8_valueOf τ (τ 41 1) = some c := by rw [p1]; exact hval
  have rowsOf : ∀ (ρa : Mem), ρa 116 = up (up (up (up (ρ 116) (idx + 1) c) idx (ρ2 111 9)) (idx + 2) 4) (idx + 3) 0 → (∀ j, j < idx ∨ idx + 3 < j → ρa 116 j = ρ 116 j) ∧ ρa 116 idx = ρ2 111 9 ∧ ρa 116 (idx + 1) = c ∧ ρa 116 (idx + 2) = 4 ∧ ρa 116 (idx + 3) = 0 := fun ρa e => ⟨fun j hj => by rw [e, up_ne (by omega), up_ne (by omega), up_ne (by omega), up_ne (by omega)], by rw [e, up_ne (by omega), up_ne (by omega), up_at], by rw [e, up_ne (by omega), up_ne (by omega), up_ne (by omega), up_at], by rw [e, up_ne (by omega), up_at], by rw [e, up_at]⟩
  have b116 : ρ2 116 = up (up (ρ 116) (idx + 1) c) idx (ρ2 111 9) := by rw [u116, s2 116 (by omega), q116, u111]
  have b111 : ∀ j, j < 6 ∨ 9 < j → ρ2 111 j = ρ 111 j := fun j hj => by rw [u111, s3 j hj, q111]
  have bq : ∀ q, q ≠ 111 → q ≠ 116 → ρ2 q = ρ q := fun q q1 q2 => by rw [uq q q2, s2 q q1, st_ne q2]
  rcases n3 with ⟨n3, _⟩ | ⟨n3, n4, x, x1, x2, x3, x4⟩
  · -- no room
    have e111 : st (st (st ρ2 111 11 1) 116 (idx + 2) 4) 116 (idx + 3) 0 111 = up (ρ2 111) 11 1 := by rw [st_ne (by omega), st_ne (by omega), st_self]
    have ebad : st (st (st ρ2 111 11 1) 116 (idx + 2) 4) 116 (idx + 3) 0 111 11 = 1 := by rw [e111, up_at]
    have e13 : st (st (st ρ2 111 11 1) 116 (idx + 2) 4) 116 (idx + 3) 0 111 13 = ρ 111 13 := by rw [e111, up_ne (by omega), b111 13 (by omega)]
    have hL := m_bar_bad (idx := idx) ebad (by rw [e13]; exact hrd)
    have f111 : ∀ j, j ≠ 13 → fnR (st (st (st ρ2 111 11 1) 116 (idx + 2) 4) 116 (idx + 3) 0) 111 j = up (ρ2 111) 11 1 j := fun j hj => by unfold fnR; rw [st_self, up_ne hj, e111]
    refine ⟨st τ 41 1 ((k : Int) + 1), fnR (st (st (st ρ2 111 11 1) 116 (idx + 2) 4) 116 (idx + 3) 0), ⟨fun q q1 _ _ _ => st_ne q1, fun q q1 q2 => by unfold fnR; rw [st_ne q1, st_ne q2, st_ne q2, st_ne q1, bq q q1 q2], fun j hj => by rw [f111 j (by omega), up_ne (by omega), b111 j (by omega)]⟩, fun i => ⟨by rw [st_ne (by omega)], by rw [st_ne (by omega)]⟩, ?_, Or.inl ⟨?_, by rw [f111 11 (by omega), up_at], k + 1, by omega, k2, by rw [f111 6 (by omega), up_ne (by omega)]; exact rt2.1, tk2⟩⟩
    · refine eR _ ?_
      rw [n3, bdk (m_need0 ρ2), show (idx : Int) + 2 = ((idx + 2 : Nat) : Int) by omega, show (idx : Int) + 3 = ((idx + 3 : Nat) : Int) by omega, ag_nat (by omega) (by decide), lt_v, ag_nat (by omega) (by decide), lt_v, bdk ((m_bad ebad).1 3 3), if_pos (by decide)]
      exact hL
    · unfold X9_takeBar
      rw [bdk clsv, if_pos (by first | omega | (unfold w32; omega)), p1, lt_v, bdk n1, n3, if_neg (by decide)]
  · obtain ⟨ρ3, w1, w2, w3, w4, w5⟩ := m_need1 rb2 rt2 bad2
    have hT1 : k + 1 < T := by
      by_cases cc : k + 1 = T
      · exfalso
        rw [cc, p6.2.2.2.1] at n4
        unfold kdP at n4
        rw [if_pos (Nat.le_refl n)] at n4
        omega
      · omega
    have e111 : st (st ρ3 116 (idx + 2) 4) 116 (idx + 3) 0 111 = ρ3 111 := by rw [st_ne (by omega), st_ne (by omega)]
    have e116 : st (st ρ3 116 (idx + 2) 4) 116 (idx + 3) 0 116 = up (up (up (up (ρ 116) (idx + 1) c) idx (ρ2 111 9)) (idx + 2) 4) (idx + 3) 0 := by rw [st_self, st_self, w2 116 (by omega), b116]
    obtain ⟨y1, y2, y3, y4, y5⟩ := rowsOf _ e116
    have eq4 : ∀ q, q ≠ 111 → q ≠ 116 → st (st ρ3 116 (idx + 2) 4) 116 (idx + 3) 0 q = ρ q := fun q q1 q2 => by rw [st_ne q2, st_ne q2, w2 q q1, bq q q1 q2]
    have ej4 : ∀ j, j < 6 ∨ 9 < j → st (st ρ3 116 (idx + 2) 4) 116 (idx + 3) 0 111 j = ρ 111 j := fun j hj => by rw [e111, w3 j hj, b111 j hj]
    have rt4 : RT B n (st (st ρ3 116 (idx + 2) 4) 116 (idx + 3) 0) (k + 2) := by unfold RT; rw [e111]; exact w5
    have rb4 : rbR (st (st ρ3 116 (idx + 2) 4) 116 (idx + 3) 0) B n := w4.frame (by rw [e111]) (by rw [st_ne (by omega), st_ne (by omega)])
    have bad4 : st (st ρ3 116 (idx + 2) 4) 116 (idx + 3) 0 111 11 = 0 := by rw [ej4 11 (by omega)]; exact p5
    obtain ⟨ρ4, hρ4⟩ : ∃ ρ4, ρ4 = st (st ρ3 116 (idx + 2) 4) 116 (idx + 3) 0 := ⟨_, rfl⟩
    rw [← hρ4] at e111 e116 y1 y2 y3 y4 y5 eq4 ej4 rt4 rb4 bad4
    obtain ⟨τ5, hτ5⟩ : ∃ τ5, τ5 = st (st τ 41 1 ((k : Int) + 1)) 41 1 ((k : Int) + 1 + 1) := ⟨_, rfl⟩
    have g1 : τ5 41 1 = ((k + 2 : Nat) : Int) := by rw [hτ5, st_at]; omega
    have g2 : ∀ j, j ≠ 1 → τ5 41 j = τ 41 j := fun j hj => by rw [hτ5, st_self, up_ne hj, st_self, up_ne hj]
    have g3 : ∀ q, q ≠ 41 → τ5 q = τ q := fun q hq => by rw [hτ5, st_ne hq, st_ne hq]
    have tk5 : TK B n T τ5 := p6.frame (g3 42 (by omega)) (g3 44 (by omega)) (g3 45 (by omega)) (g3 46 (by omega))
    have ecls : ∀ X, (bd (X9_isWord τ5 3) fun r6 => if w32 r6 = 0 then X9_takeBar_B117 τ5 c x 4 else lt (st τ5 41 1 ((τ5 41 1) + 1)) fun s7 => bd (X9_isNumber s7 1 12) fun r8 => if w32 r8 ≠ 0 then bd (X8_valueOf s7 (s7 41 1)) fun r9 => lt (st s7 41 1 ((s7 41 1) + 1)) fun s10 => X9_takeBar_B117 s10 c x r9 else some (0, s7)) = X → X9_takeBar τ = X := by
      intro X hX
      unfold X9_takeBar
      rw [bdk clsv, if_pos (by first | omega | (unfold w32; omega)), p1, lt_v, bdk n1, n3, if_pos (by decide), k2, bdk x3, show (((k + 1 : Nat) : Int)) + 1 = (k : Int) + 1 + 1 by omega, lt_v, ← hτ5]
      exact hX
    have eref : ∀ X, (bd (X11_isWord ρ4 3 3) fun r15 => if w32 r15 = 0 then X11_readBar_L112 5000 ρ4 idx else bd (X11_step ρ4) fun s17 => ag 256 ((idx : Int) + 2) fun j18 => lt (st s17 116 j18 (s17 111 9)) fun s19 => bd (X11_isNumber s19 1 12) fun r20 => bd (X11_need s19 r20) fun s22 => X11_readBar_L112 5000 s22 idx) = X → X11_readBar ρ = X := by
      intro X hX
      refine eR X ?_
      rw [n3, bdk w1, show (idx : Int) + 2 = ((idx + 2 : Nat) : Int) by omega, ag_nat (by omega) (by decide), lt_v, show (idx : Int) + 3 = ((idx + 3 : Nat) : Int) by omega, ag_nat (by omega) (by decide), lt_v, ← hρ4]
      rw [show (idx : Int) + 2 = ((idx + 2 : Nat) : Int) by omega] at hX
      exact hX
    -- no beats told
    have plain : X9_isWord τ5 3 = some 0 → X11_isWord ρ4 3 3 = some 0 → ∃ (τ' ρ' : Mem), FR τ τ' ρ ρ' ∧ (∀ i, τ' 48 i = τ 48 i ∧ τ' 49 i = τ 49 i) ∧ X11_readBar ρ = some ρ' ∧ ((X9_takeBar τ = some (0, τ') ∧ BAD B n T τ' ρ') ∨ (X9_takeBar τ = some (1, τ') ∧ (∃ k', k < k' ∧ PR B n T τ' ρ' k' d) ∧ (τ 41 4 = 1 → τ' 41 4 = 1) ∧ ρ 111 13 ≤ ρ' 111 13)) := by
      intro z1 z2
      obtain ⟨τ', ρ', k', t1, t2, t3, t4, t5, t6, t7, t8, t9⟩ := bar_tail (B := B) (n := n) (T := T) p9 (idx := idx) (k := k + 2) (d := d) hidx (τ5 := τ5) (ρ5 := ρ4) (x := x) (c := c) (bt := 4) ⟨x1, x2⟩ hc (by omega) (by omega) (by omega) g1 g2 (g3 47 (by omega)) (by rw [g2 5 (by omega)]; exact p3) tk5 rb4 rt4 bad4 (by rw [ej4 10 (by omega)]; exact p4) (ej4 13 (by omega)) y1 (by rw [y2]; exact x4) y3 y4 y5
      refine ⟨τ', ρ', ⟨fun q q1 q2 _ _ => by rw [t5 q q1 q2, g3 q q1], fun q q1 q2 => by rw [t6 q q1 q2, eq4 q q1 q2], fun j hj => by rw [t7 j hj, ej4 j (by omega)]⟩, fun i => ⟨by rw [t5 48 (by omega) (by omega), g3 48 (by omega)], by rw [t5 49 (by omega) (by omega), g3 49 (by omega)]⟩, eref _ (by rw [bdk z2, if_pos (by decide)]; exact t2), Or.inr ⟨ecls _ (by rw [bdk z1, if_pos (by decide)]; exact t1), ⟨k', by omega, t4⟩, t8, t9⟩⟩
    have cw := c_isWord tk5 (show k + 2 ≤ T by omega) g1 (w := 3) (by omega)
    have mw := m_isWord rt4 bad4 (lo := 3) (hi := 3) (by omega) (by omega)
    by_cases kw : kdP B n (tS B n (k + 2)) = 1
    · obtain ⟨c', a1, a2, a3, a4⟩ := wrd_at tk5 (show k + 2 ≤ T by omega) rt4 kw
      have z1 := cw.2 c' a1 a2 (by omega) kw
      have z2 := mw.2 (by omega) (by omega) kw
      by_cases c3 : c' = 3
      · rw [if_pos c3] at z1
        rw [if_pos (by omega)] at z2
        have hT2 : k + 2 < T := by
          by_cases cc : k + 2 = T
          · exfalso
            rw [cc, p6.2.2.2.1] at kw
            unfold kdP at kw
            rw [if_pos (Nat.le_refl n)] at kw
            omega
          · omega
        obtain ⟨ρ5, d1, d2, d3, d4, d5⟩ := m_next rb4 rt4
        obtain ⟨ρ6, hρ6⟩ : ∃ ρ6, ρ6 = st ρ5 116 (idx + 2) (ρ5 111 9) := ⟨_, rfl⟩
        have m111 : ρ6 111 = ρ5 111 := by rw [hρ6]; exact st_ne (by omega)
        have m116 : ρ6 116 = up (ρ4 116) (idx + 2) (ρ5 111 9) := by rw [hρ6, st_self, d2 116 (by omega)]
        have mq : ∀ q, q ≠ 111 → q ≠ 116 → ρ6 q = ρ q := fun q q1 q2 => by rw [hρ6, st_ne q2, d2 q q1, eq4 q q1 q2]
        have mj : ∀ j, j < 6 ∨ 9 < j → ρ6 111 j = ρ 111 j := fun j hj => by rw [m111, d3 j hj, ej4 j hj]
        have rt6 : RT B n ρ6 (k + 3) := by unfold RT; rw [m111]; exact d5
        have rb6 : rbR ρ6 B n := d4.frame (by rw [m111]) (by rw [hρ6]; exact st_ne (by omega))
        have bad6 : ρ6 111 11 = 0 := by rw [mj 11 (by omega)]; exact p5
        obtain ⟨τ7, hτ7⟩ : ∃ τ7, τ7 = st τ5 41 1 (((k + 2 : Nat) : Int) + 1) := ⟨_, rfl⟩
        have f1 : τ7 41 1 = ((k + 3 : Nat) : Int) := by rw [hτ7, st_at]; omega
        have f2 : ∀ j, j ≠ 1 → τ7 41 j = τ 41 j := fun j hj => by rw [hτ7, st_self, up_ne hj, g2 j hj]
        have f3 : ∀ q, q ≠ 41 → τ7 q = τ q := fun q hq => by rw [hτ7, st_ne hq, g3 q hq]
        have tk7 : TK B n T τ7 := p6.frame (f3 42 (by omega)) (f3 44 (by omega)) (f3 45 (by omega)) (f3 46 (by omega))
        obtain ⟨b3, l1, l2, l3⟩ := num_at tk7 (show k + 3 ≤ T by omega) f1 rt6 bad6 (lo := 1) (hi := 12) (by omega) (by omega)
        rcases l3 with ⟨l3, _⟩ | ⟨l3, l4, y, yy1, yy2, yy3, yy4⟩
        · have e11 : st ρ6 111 11 1 111 = up (ρ6 111) 11 1 := st_self _ _ _ _
          have ebad : st ρ6 111 11 1 111 11 = 1 := st_at _ _ _ _
          have e13 : st ρ6 111 11 1 111 13 = ρ 111 13 := by rw [e11, up_ne (by omega), mj 13 (by omega)]
          have hL := m_bar_bad (idx := idx) ebad (by rw [e13]; exact hrd)
          have f111 : ∀ j, j ≠ 13 → fnR (st ρ6 111 11 1) 111 j = up (ρ6 111) 11 1 j := fun j hj => by unfold fnR; rw [st_self, up_ne hj, e11]
          refine ⟨τ7, fnR (st ρ6 111 11 1), ⟨fun q q1 _ _ _ => f3 q q1, fun q q1 q2 => by unfold fnR; rw [st_ne q1, st_ne q1, mq q q1 q2], fun j hj => by rw [f111 j (by omega), up_ne (by omega), mj j (by omega)]⟩, fun i => ⟨by rw [f3 48 (by omega)], by rw [f3 49 (by omega)]⟩, ?_, Or.inl ⟨?_, by rw [f111 11 (by omega), up_at], k + 3, by omega, f1, by rw [f111 6 (by omega), up_ne (by omega)]; exact rt6.1, tk7⟩⟩
          · refine eref _ ?_
            rw [bdk z2, if_neg (by decide), bdk d1, show (idx : Int) + 2 = ((idx + 2 : Nat) : Int) by omega, ag_nat (by omega) (by decide), lt_v, ← hρ6, bdk l2, l3, bdk (m_need0 ρ6)]
            exact hL
          · refine ecls _ ?_
            rw [bdk z1, if_neg (by decide), g1, lt_v, ← hτ7, bdk l1, l3, if_neg (by decide)]
        · have hT3 : k + 3 < T := by
            by_cases cc : k + 3 = T
            · exfalso
              rw [cc, p6.2.2.2.1] at l4
              unfold kdP at l4
              rw [if_pos (Nat.le_refl n)] at l4
              omega
            · omega
          obtain ⟨ρ7, h1, h2, h3, h4, h5⟩ := m_need1 rb6 rt6 bad6
          obtain ⟨τ8, hτ8⟩ : ∃ τ8, τ8 = st τ7 41 1 (((k + 3 : Nat) : Int) + 1) := ⟨_, rfl⟩
          have i1 : τ8 41 1 = ((k + 4 : Nat) : Int) := by rw [hτ8, st_at]; omega
          have i2 : ∀ j, j ≠ 1 → τ8 41 j = τ 41 j := fun j hj => by rw [hτ8, st_self, up_ne hj, f2 j hj]
          have i3 : ∀ q, q ≠ 41 → τ8 q = τ q := fun q hq => by rw [hτ8, st_ne hq, f3 q hq]
          have tk8 : TK B n T τ8 := p6.frame (i3 42 (by omega)) (i3 44 (by omega)) (i3 45 (by omega)) (i3 46 (by omega))
          have o116 : ρ7 116 = up (ρ4 116) (idx + 2) (ρ5 111 9) := by rw [h2 116 (by omega), m116]
          have o59 : ρ5 111 9 = y := by rw [← m111]; exact yy4
          obtain ⟨τ', ρ', k', t1, t2, t3, t4, t5, t6, t7, t8, t9⟩ := bar_tail (B := B) (n := n) (T := T) p9 (idx := idx) (k := k + 4) (d := d) hidx (τ5 := τ8) (ρ5 := ρ7) (x := x) (c := c) (bt := y) ⟨x1, x2⟩ hc ⟨yy1, yy2⟩ (by omega) (by omega) i1 i2 (i3 47 (by omega)) (by rw [i2 5 (by omega)]; exact p3) tk8 h4 h5 (by rw [h3 11 (by omega)]; exact bad6) (by rw [h3 10 (by omega), mj 10 (by omega)]; exact p4) (by rw [h3 13 (by omega), mj 13 (by omega)]) (fun j hj => by rw [o116, up_ne (by omega)]; exact y1 j hj) (by rw [o116, up_ne (by omega), y2]; exact x4) (by rw [o116, up_ne (by omega)]; exact y3) (by rw [o116, up_at]; exact o59) (by rw [o116, up_ne (by omega)]; exact y5)
          refine ⟨τ', ρ', ⟨fun q q1 q2 _ _ => by rw [t5 q q1 q2, i3 q q1], fun q q1 q2 => by rw [t6 q q1 q2, h2 q q1, mq q q1 q2], fun j hj => by rw [t7 j hj, h3 j (by omega), mj j (by omega)]⟩, fun i => ⟨by rw [t5 48 (by omega) (by omega), i3 48 (by omega)], by rw [t5 49 (by omega) (by omega), i3 49 (by omega)]⟩, ?_, Or.inr ⟨?_, ⟨k', by omega, t4⟩, t8, t9⟩⟩
          · refine eref _ ?_
            rw [bdk z2, if_neg (by decide), bdk d1, show (idx : Int) + 2 = ((idx + 2 : Nat) : Int) by omega, ag_nat (by omega) (by decide), lt_v, ← hρ6, bdk l2, l3, bdk h1]
            exact t2
          · refine ecls _ ?_
            rw [bdk z1, if_neg (by decide), g1, lt_v, ← hτ7, bdk l1, l3, if_pos (by decide), f1, bdk yy3, lt_v, ← hτ8]
            exact t1
      · rw [if_neg c3] at z1
        rw [if_neg (by omega)] at z2
        exact plain z1 z2
    · exact plain (cw.1 kw) (mw.1 kw)
