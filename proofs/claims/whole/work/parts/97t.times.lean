/-! a repeated group -/
def OUTT (B : Nat → Int) (n T d : Nat) (τ ρ : Mem) (bare : Int) (step k : Nat) (ρ' : Mem) : Prop := (∃ (τ' : Mem) (k' : Nat), X9_findFault_L31 (5000 - step) τ bare step = some (((tS B n k' : Nat) : Int), τ') ∧ k' ≤ T ∧ ρ' 111 11 = 1 ∧ ρ' 111 6 = ((tS B n k' : Nat) : Int) ∧ FR τ τ' ρ ρ') ∨ (∃ (τ' : Mem) (k' step' : Nat), X9_findFault_L31 (5000 - step) τ bare step = X9_findFault_L31 (5000 - step') τ' 0 step' ∧ step' ≤ k' ∧ k ≤ k' ∧ PR B n T τ' ρ' k' d ∧ noIt B n τ' k' ∧ FR τ τ' ρ ρ' ∧ (∀ i, i < d → τ' 48 i = τ 48 i ∧ τ' 49 i = τ 49 i) ∧ (τ 41 4 = 1 → τ' 41 4 = 1) ∧ ρ 111 13 ≤ ρ' 111 13)
theorem bad_L111 {recT : Mem → Option Mem} {ρ : Mem} {l1 l2 l3 : Int} (h : ρ 111 11 = 1) : X11_readTimes_L111 recT 5000 ρ l1 l2 l3 0 = some ρ := by
  show X11_readTimes_B111 _ _ _ _ _ _ _ = _
  unfold X11_readTimes_B111
  split
  · rfl
  · split
    · rfl
    · rw [h, if_neg (by decide)]
theorem bad_text {D : Nat} {ρ : Mem} (h : ρ 111 11 = 1) : X11_readTextD (D + 1) ρ = some ρ := by
  show X11_readText _ _ = _
  unfold X11_readText
  rw [h, if_neg (by decide)]
def rst (recT : Mem → Option Mem) (l1 l2 : Int) (ρ2 : Mem) : Option Mem := lt (st ρ2 111 10 ((ρ2 111 10) + 1)) fun s3 => bd (recT s3) fun s5 => if w32 (s5 111 11) ≠ 0 then X11_readTimes_B88 recT s5 l1 l2 0 else if w32 (s5 111 8) ≠ w32 4 then X11_readTimes_B88 recT s5 l1 l2 0 else X11_readTimes_B88 recT s5 l1 l2 1
theorem times_eq {recT : Mem → Option Mem} {ρ ρ' : Mem} {b : Int} (h1 : X11_isNumber ρ 1 9 = some b) (h2 : opn ρ b = some ρ') : X11_readTimes recT ρ = rst recT (ρ 111 9) (ρ 111 13) ρ' := by
  unfold opn at h2
  obtain ⟨s5, e1, e2⟩ := bd_inv h2
  have hB : ∀ fl : Int, X11_need s5 fl = some ρ' → X11_readTimes_B50 recT s5 (ρ 111 9) (ρ 111 13) fl = rst recT (ρ 111 9) (ρ 111 13) ρ' := fun fl hf => by
    unfold X11_readTimes_B50 X11_readTimes_B87 rst
    rw [bdk hf]
  unfold X11_readTimes X11_readTimes_B49
  rw [lt_v, lt_v, bdk h1, bdk e1]
  by_cases c1 : w32 (s5 111 11) ≠ 0
  · rw [if_pos c1] at e2 ⊢
    exact hB 0 e2
  · rw [if_neg c1] at e2 ⊢
    by_cases c2 : w32 (s5 111 8) ≠ w32 3
    · rw [if_pos c2] at e2 ⊢
      exact hB 0 e2
    · rw [if_neg c2] at e2 ⊢
      by_cases c3 : w32 4 ≤ w32 (s5 111 10)
      · rw [if_pos c3] at e2 ⊢
        exact hB 0 e2
      · rw [if_neg c3] at e2 ⊢
        exact hB 1 e2
theorem bad_B88 {recT : Mem → Option Mem} {ρ : Mem} {l1 l2 : Int} : ∃ ρ', X11_readTimes_B88 recT ρ l1 l2 0 = some ρ' ∧ (∀ q, q ≠ 111 → ρ' q = ρ q) ∧ (∀ j, j ≠ 10 → j ≠ 11 → ρ' 111 j = ρ 111 j) ∧ ρ' 111 11 = 1 := by
  have e11 : st (st ρ 111 11 1) 111 10 (st ρ 111 11 1 111 10 - 1) 111 11 = 1 := by rw [st_self, up_ne (by omega), st_at]
  refine ⟨st (st ρ 111 11 1) 111 10 (st ρ 111 11 1 111 10 - 1), ?_, fun q hq => by rw [st_ne hq, st_ne hq], fun j j1 j2 => by rw [st_self, up_ne j1, st_self, up_ne j2], e11⟩
  unfold X11_readTimes_B88
  rw [bdk (m_need0 ρ), lt_v, lt_v]
  exact bad_L111 e11
theorem item_times {B : Nat → Int} {n T D : Nat} {τ ρ : Mem} {k d step : Nat} {bare : Int} (h : PR B n T τ ρ k d) (hd : d ≤ 4) (hD : 6 ≤ d + (D + 2)) (hs : step ≤ k) (hk2 : kdP B n (tS B n k) = 2) (ih : ∀ (τ ρ : Mem) (k step : Nat), d < 4 → PR B n T τ ρ k (d + 1) → step ≤ k → ∃ ρ', X11_readTextD (D + 1) ρ = some ρ' ∧ OUTT B n T (d + 1) τ ρ 1 step k ρ') : ∃ ρ', X11_readItem (X11_readTextD (D + 1)) ρ = some ρ' ∧ OUT B n T d τ ρ bare step k ρ' := by
  obtain ⟨p1, p2, p3, p4, p5, p6, p7, p8, p9⟩ := id h
  have hkT := p6.lt p2 (by omega)
  obtain ⟨b, τ1, ρ1, o1, o2, o3, o4, o5, o6, o7⟩ := open_sim h hd hk2
  have hT := times_eq (recT := X11_readTextD (D + 1)) o1 o2
  have hw := (m_isWord p8 p5 (lo := 0) (hi := 2) (by omega) (by omega)).1 (by omega)
  have hitem : ∀ ρ', rst (X11_readTextD (D + 1)) (ρ 111 9) (ρ 111 13) ρ1 = some ρ' → X11_readItem (X11_readTextD (D + 1)) ρ = some ρ' := fun ρ' hr => by
    unfold X11_readItem
    rw [bdk hw, if_pos (by decide), p5, if_neg (by decide), p8.2.2.1, hk2, if_neg (by decide), hT, bdk hr]
  have hloop : ∀ r, X9_takeOpening τ = some (r, τ1) → X9_findFault_L31 (5000 - step) τ bare step = X9_findFault_B112 (X9_findFault_L31 (5000 - (step + 1))) τ1 step 2 r := fun r hr => by
    rw [c_turn p6 p2 p1 hs, if_neg (fun x => by omega), hk2]
    unfold X9_findFault_B66
    rw [if_neg (by decide), bd2k hr]
  rcases o7 with ⟨g1, b1, k', b2, b3, b4, b5⟩ | ⟨g1, g2, ⟨t, t1, t2, t3, t4⟩, g4, g5, g6, g7⟩
  · -- the opening is wrong
    have q11 : st ρ1 111 10 ((ρ1 111 10) + 1) 111 11 = 1 := by rw [st_self, up_ne (by omega)]; exact b1
    obtain ⟨ρ', r1, r2, r3, r4⟩ := bad_B88 (recT := X11_readTextD (D + 1)) (ρ := st ρ1 111 10 ((ρ1 111 10) + 1)) (l1 := ρ 111 9) (l2 := ρ 111 13)
    refine ⟨ρ', hitem ρ' ?_, Or.inl ⟨τ1, k', ?_, b2, r4, by rw [r3 6 (by omega) (by omega), st_self, up_ne (by omega)]; exact b4, ⟨fun q q1 _ q3 q4 => o3 q q1 q3 q4, fun q q1 _ => by rw [r2 q q1, st_ne q1, o4 q q1], fun j hj => by rw [r3 j (by omega) (by omega), st_self, up_ne (by omega), o5 j (by omega)]⟩⟩⟩
    · unfold rst
      rw [lt_v, bdk (bad_text q11), q11, if_pos (by decide)]
      exact r1
    · rw [hloop 0 g1]
      unfold X9_findFault_B112
      rw [if_neg (by decide)]
      exact b137 b5 b2 b3
  · obtain ⟨ρ2, hρ2⟩ : ∃ ρ2, ρ2 = st ρ1 111 10 ((ρ1 111 10) + 1) := ⟨_, rfl⟩
    rw [← hρ2] at g6
    have x111 : ∀ j, j ≠ 10 → ρ2 111 j = ρ1 111 j := fun j hj => by rw [hρ2, st_self, up_ne hj]
    have xq : ∀ q, q ≠ 111 → ρ2 q = ρ1 q := fun q hq => by rw [hρ2, st_ne hq]
    have fr12 : FR τ τ1 ρ ρ2 := ⟨fun q q1 _ q3 q4 => o3 q q1 q3 q4, fun q q1 _ => by rw [xq q q1, o4 q q1], fun j hj => by rw [x111 j (by omega), o5 j (by omega)]⟩
    have e13 : ρ2 111 13 = ρ 111 13 := by rw [x111 13 (by omega), o5 13 (by omega)]
    obtain ⟨ρ3, y1, y2⟩ := ih τ1 ρ2 (k + 2) (step + 1) g2 g6 (by omega)
    have hl1 : X9_findFault_L31 (5000 - step) τ bare step = X9_findFault_L31 (5000 - (step + 1)) τ1 1 ((step + 1 : Nat) : Int) := by
      rw [hloop 1 g1]
      unfold X9_findFault_B112 X9_findFault_B130
      rw [if_pos (by decide), if_neg (by decide), lt_v]
      rfl
    have hrst : rst (X11_readTextD (D + 1)) (ρ 111 9) (ρ 111 13) ρ1 = if w32 (ρ3 111 11) ≠ 0 then X11_readTimes_B88 (X11_readTextD (D + 1)) ρ3 (ρ 111 9) (ρ 111 13) 0 else if w32 (ρ3 111 8) ≠ w32 4 then X11_readTimes_B88 (X11_readTextD (D + 1)) ρ3 (ρ 111 9) (ρ 111 13) 0 else X11_readTimes_B88 (X11_readTextD (D + 1)) ρ3 (ρ 111 9) (ρ 111 13) 1 := by
      unfold rst
      rw [lt_v, ← hρ2, bdk y1]
    rcases y2 with ⟨τ3, k3, z1, z2, z3, z4, z5⟩ | ⟨τ3, k3, step3, z1, z2, z3, z4, z5, z6, z7, z8, z9⟩
    · obtain ⟨ρ', r1, r2, r3, r4⟩ := bad_B88 (recT := X11_readTextD (D + 1)) (ρ := ρ3) (l1 := ρ 111 9) (l2 := ρ 111 13)
      have fr := fr12.trans z5
      refine ⟨ρ', hitem ρ' ?_, Or.inl ⟨τ3, k3, hl1.trans z1, z2, r4, by rw [r3 6 (by omega) (by omega)]; exact z4, ⟨fr.1, fun q q1 q2 => by rw [r2 q q1, fr.2.1 q q1 q2], fun j hj => by rw [r3 j (by omega) (by omega), fr.2.2 j hj]⟩⟩⟩
      rw [hrst, z3, if_pos (by decide)]
      exact r1
    · obtain ⟨a1, a2, a3, a4, a5, a6, a7, a8, a9⟩ := id z4
      have fr := fr12.trans z6
      have hki := kdP_in (B := B) (n := n) (s := tS B n k3)
      by_cases c4 : kdP B n (tS B n k3) = 4
      · have hk3T := a6.lt a2 (by omega)
        have hrd := p9.read
        obtain ⟨b0, hb0⟩ : ∃ b0 : Nat, ρ 111 13 = b0 := ⟨(ρ 111 13).toNat, by omega⟩
        have s48 := z7 d (by omega)
        obtain ⟨τ4, ρ4, ρ', u1, u2, u3, u4, u5, u6, u7, u8⟩ := close_sim z4 hk3T g2 (t := t) (b0 := b0) (by rw [s48.1]; exact t4) ⟨t1, t2⟩ (by rw [← hb0, ← e13]; exact z9) (fun ho => by
          rw [s48.2, g4]
          have o0 : τ 41 4 = 0 := by
            rcases p9 with ⟨w0, _⟩ | ⟨w1, _⟩
            · exact w0
            · exfalso
              have := z8 (by rw [g7]; exact w1)
              omega
          rcases p9 with ⟨w0, R, w1, w2, w3, _⟩ | ⟨w1, _⟩
          · omega
          · omega) (X11_readTextD (D + 1))
        refine ⟨ρ', hitem ρ' ?_, Or.inr ⟨τ4, k3 + 1, step3 + 1, ?_, by omega, by omega, u4, fr.trans u5, fun i hi => ?_, fun ho => u7 (z8 (by rw [g7]; exact ho)), by rw [e13] at z9; omega⟩⟩
        · rw [hrst, a5, if_neg (by decide), a8.2.2.1, c4, if_neg (by decide)]
          unfold X11_readTimes_B88
          rw [bdk u2, lt_v, lt_v, t3, hb0]
          exact u3
        · rw [hl1, z1, c_turn a6 a2 a1 z2, if_neg (fun x => by omega), c4]
          unfold X9_findFault_B66
          rw [if_pos (by decide), if_pos (by decide), if_neg (by decide), if_neg (by decide), bd2k u1]
          unfold X9_findFault_B112 X9_findFault_B130
          rw [if_pos (by decide), if_pos (by decide), lt_v]
          rfl
        · have q1 := u6 i
          have q2 := z7 i (by omega)
          have q3 := o6 i hi
          exact ⟨by rw [q1.1, q2.1, q3.1], by rw [q1.2, q2.2, q3.2]⟩
      · obtain ⟨ρ', r1, r2, r3, r4⟩ := bad_B88 (recT := X11_readTextD (D + 1)) (ρ := ρ3) (l1 := ρ 111 9) (l2 := ρ 111 13)
        refine ⟨ρ', hitem ρ' ?_, Or.inl ⟨τ3, k3, hl1.trans (z1.trans (c_fault a6 a2 a1 z2 z5 (fun x => absurd x c4) (fun _ => Or.inl (by rw [a3]; exact (by first | omega | (unfold w32; omega)))))), a2, r4, by rw [r3 6 (by omega) (by omega)]; exact a8.1, ⟨fr.1, fun q q1 q2 => by rw [r2 q q1, fr.2.1 q q1 q2], fun j hj => by rw [r3 j (by omega) (by omega), fr.2.2 j hj]⟩⟩⟩
        rw [hrst, a5, if_neg (by decide), a8.2.2.1, if_pos (by rw [w32_id (by omega) (by omega)]; exact c4)]
        exact r1
