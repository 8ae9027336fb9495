/-! the class's images -/
theorem ac_ok {α : Type} {n0 n1 n : Nat} {k : Option α} (h0 : n ≤ n0) (h1 : n ≤ n1) (h2 : n0 < 2147483648) : ac n0 n1 0 0 (n : Int) k = k := by
  unfold ac
  rw [w32_nat (by omega)]
  exact if_pos ⟨by decide, by decide, by omega, by show 0 + n ≤ n0; omega, by show 0 + n ≤ n1; omega⟩
theorem cpy_in {σ : Mem} {a b n j : Nat} (h : j < n) : cpy σ a 0 b 0 n b j = σ a j := by
  show (if b = b ∧ 0 ≤ j ∧ j < 0 + n then σ a (0 + (j - 0)) else σ b j) = σ a j
  rw [if_pos ⟨rfl, by omega, by omega⟩, show 0 + (j - 0) = j by omega]
theorem part_become {σ : Mem} {a b : Nat} (hd : a + 2 < b ∨ b + 2 < a) (hn : 0 ≤ σ b 2 ∧ σ b 2 ≤ 40) : ∃ τ, X5_become σ a b = some τ ∧ (∀ k, k < a ∨ a + 2 < k → τ k = σ k) ∧ (∀ j, j < 4 → τ (a + 1) j = σ (b + 1) j) ∧ (∀ j : Nat, (j : Int) < 4 * σ b 2 → τ (a + 2) j = σ (b + 2) j) ∧ τ a 2 = σ b 2 := by
  obtain ⟨N, hN⟩ : ∃ N : Nat, σ b 2 = N := ⟨(σ b 2).toNat, by omega⟩
  unfold X5_become
  rw [ac_ok (by decide) (by decide) (by decide), lt_v]
  generalize e1 : cpy σ (b + 1) (w32 0).toNat (a + 1) (w32 0).toNat (w32 ((4 : Nat) : Int)).toNat = s1
  have f1 : s1 = cpy σ (b + 1) 0 (a + 1) 0 4 := e1.symm
  have g1 : s1 b 2 = N := by rw [f1, cpy_ne (by omega)]; exact hN
  rw [g1, show (N : Int) * 4 = ((N * 4 : Nat) : Int) by omega, ac_ok (by omega) (by omega) (by decide), lt_v, w32_nat (by omega)]
  refine ⟨_, rfl, ?_, ?_, ?_, ?_⟩
  · intro k hk
    rw [st_ne (by omega), cpy_ne (by omega), f1, cpy_ne (by omega)]
  · intro j hj
    rw [st_ne (by omega), cpy_ne (by omega), f1, cpy_in hj]
  · intro j hj
    rw [st_ne (by omega)]
    show cpy s1 (b + 2) 0 (a + 2) 0 (N * 4) (a + 2) j = _
    rw [cpy_in (by omega), f1, cpy_ne (by omega)]
  · rw [st_at, cpy_ne (by omega)]
    rw [g1, hN]
theorem breaks_become {σ : Mem} {a b : Nat} (hd : a + 4 < b ∨ b + 4 < a) : ∃ τ, X0_become σ a b = some τ ∧ (∀ k, k < a ∨ a + 4 < k → τ k = σ k) ∧ (∀ q, q < 3 → ∀ j, j < 30 → τ (a + 1 + q) j = σ (b + 1 + q) j) ∧ (∀ j, j < 10 → τ (a + 4) j = σ (b + 4) j) ∧ τ a 3 = σ b 3 := by
  unfold X0_become
  rw [show (30 : Int) = ((30 : Nat) : Int) from rfl, show (10 : Int) = ((10 : Nat) : Int) from rfl, ac_ok (by decide) (by decide) (by decide), lt_v, ac_ok (by decide) (by decide) (by decide), lt_v, ac_ok (by decide) (by decide) (by decide), lt_v, ac_ok (by decide) (by decide) (by decide), lt_v]
  refine ⟨_, rfl, ?_, ?_, ?_, ?_⟩
  · intro k hk
    rw [st_ne (by omega), cpy_ne (by omega), cpy_ne (by omega), cpy_ne (by omega), cpy_ne (by omega)]
  · intro q hq j hj
    rcases (show q = 0 ∨ q = 1 ∨ q = 2 by omega) with rfl | rfl | rfl
    · rw [st_ne (by omega), cpy_ne (by omega), cpy_ne (by omega), cpy_ne (by omega)]
      exact cpy_in hj
    · rw [st_ne (by omega), cpy_ne (by omega), cpy_ne (by omega)]
      refine (cpy_in hj).trans ?_
      rw [cpy_ne (by omega)]
    · rw [st_ne (by omega), cpy_ne (by omega)]
      refine (cpy_in hj).trans ?_
      rw [cpy_ne (by omega), cpy_ne (by omega)]
  · intro j hj
    rw [st_ne (by omega)]
    refine (cpy_in hj).trans ?_
    rw [cpy_ne (by omega), cpy_ne (by omega), cpy_ne (by omega)]
  · rw [st_at, cpy_ne (by omega), cpy_ne (by omega), cpy_ne (by omega), cpy_ne (by omega)]
/-- i parts of the state at A have become those of the state at B -/
def bec (σ τ : Mem) (A B i : Nat) : Prop := (∀ k, k < A + 8 ∨ A + 20 ≤ k → τ k = σ k) ∧ (∀ p, p < i → (∀ j, j < 4 → τ (A + 9 + 3 * p) j = σ (B + 9 + 3 * p) j) ∧ (∀ j : Nat, (j : Int) < 4 * σ (B + 8 + 3 * p) 2 → τ (A + 10 + 3 * p) j = σ (B + 10 + 3 * p) j) ∧ τ (A + 8 + 3 * p) 2 = σ (B + 8 + 3 * p) 2)
theorem become_step {σ τ : Mem} {A B i n : Nat} (hd : A + 20 ≤ B ∨ B + 20 ≤ A) (hi : i < 4) (hn : ∀ p, p < 4 → 0 ≤ σ (B + 8 + 3 * p) 2 ∧ σ (B + 8 + 3 * p) 2 ≤ 40) (h : bec σ τ A B i) : ∃ τ', X7_become_L2 (n + 1) τ A B (i : Int) = X7_become_L2 n τ' A B ((i + 1 : Nat) : Int) ∧ bec σ τ' A B (i + 1) := by
  have hB : ∀ k, B ≤ k → k < B + 20 → τ k = σ k := fun k h1 h2 => h.1 k (by omega)
  obtain ⟨τ', e, f1, f2, f3, f4⟩ := part_become (σ := τ) (a := A + 8 + 3 * i) (b := B + 8 + 3 * i) (by omega) (by rw [hB _ (by omega) (by omega)]; exact hn i hi)
  refine ⟨τ', ?_, ?_, ?_⟩
  · show X7_become_B2 (X7_become_L2 n) τ A B (i : Int) = _
    unfold X7_become_B2
    rw [w32_id (x := 4) (by decide) (by decide), w32_nat (by omega), if_neg (by omega), ag_nat hi (by decide), ag_nat hi (by decide), show A + 1 + 7 + 3 * i = A + 8 + 3 * i by omega, show B + 1 + 7 + 3 * i = B + 8 + 3 * i by omega, e]
    rfl
  · intro k hk
    rw [f1 k (by omega)]
    exact h.1 k hk
  · intro p hp
    by_cases hpi : p = i
    · subst hpi
      refine ⟨fun j hj => ?_, fun j hj => ?_, ?_⟩
      · have := f2 j hj
        rw [show A + 8 + 3 * p + 1 = A + 9 + 3 * p by omega, show B + 8 + 3 * p + 1 = B + 9 + 3 * p by omega] at this
        rw [this, hB _ (by omega) (by omega)]
      · have := f3 j (by rw [hB _ (by omega) (by omega)]; exact hj)
        rw [show A + 8 + 3 * p + 2 = A + 10 + 3 * p by omega, show B + 8 + 3 * p + 2 = B + 10 + 3 * p by omega] at this
        rw [this, hB _ (by omega) (by omega)]
      · rw [f4, hB _ (by omega) (by omega)]
    · have := h.2 p (by omega)
      rw [f1 _ (by omega), f1 _ (by omega), f1 _ (by omega)]
      exact this
theorem become_ok {σ : Mem} {A B : Nat} (hd : A + 20 ≤ B ∨ B + 20 ≤ A) {r : Nat → Int} (hn : ∀ p, p < 4 → 0 ≤ r (9 + 165 * p) ∧ r (9 + 165 * p) ≤ 40) (h : CRB B r σ) : ∃ τ, X7_become σ A B = some τ ∧ (∀ k, k < A ∨ A + 20 ≤ k → τ k = σ k) ∧ CRB A r τ := by
  obtain ⟨h1, h2, h3, h4, h5, h6, h7⟩ := h
  have hn' : ∀ p, p < 4 → 0 ≤ σ (B + 8 + 3 * p) 2 ∧ σ (B + 8 + 3 * p) 2 ≤ 40 := fun p hp => by rw [h3 p hp]; exact hn p hp
  have b0 : bec σ σ A B 0 := ⟨fun _ _ => rfl, fun p hp => absurd hp (Nat.not_lt_zero p)⟩
  obtain ⟨τ1, e1, b1⟩ := become_step (n := 4999) hd (by decide) hn' b0
  obtain ⟨τ2, e2, b2⟩ := become_step (n := 4998) hd (by decide) hn' b1
  obtain ⟨τ3, e3, b3⟩ := become_step (n := 4997) hd (by decide) hn' b2
  obtain ⟨τ4, e4, b4⟩ := become_step (n := 4996) hd (by decide) hn' b3
  obtain ⟨τ5, e5, f1, f2, f3, f4⟩ := breaks_become (σ := cpy τ4 (B + 2) 0 (A + 2) 0 5) (a := A + 3) (b := B + 3) (by omega)
  have hE : X7_become σ A B = some τ5 := by
    show X7_become_L2 (4999 + 1) σ A B ((0 : Nat) : Int) = _
    rw [e1, show 4999 = 4998 + 1 from rfl, e2, show 4998 = 4997 + 1 from rfl, e3, show 4997 = 4996 + 1 from rfl, e4]
    show X7_become_B2 (X7_become_L2 4995) τ4 A B ((4 : Nat) : Int) = _
    unfold X7_become_B2
    rw [w32_id (x := 4) (by decide) (by decide), w32_nat (by decide), if_pos (by decide), ac_ok (by decide) (by decide) (by decide), lt_v]
    show bd (X0_become (cpy τ4 (B + 2) 0 (A + 2) 0 5) (A + 3) (B + 3)) _ = _
    rw [e5, bd_some]
  have hg : ∀ k, k < A ∨ A + 20 ≤ k → τ5 k = σ k := fun k hk => by rw [f1 k (by omega), cpy_ne (by omega)]; exact b4.1 k (by omega)
  have hp : ∀ k, A + 8 ≤ k → k < A + 20 → τ5 k = τ4 k := fun k hk1 hk2 => by rw [f1 k (by omega), cpy_ne (by omega)]
  refine ⟨τ5, hE, hg, fun i hi => ?_, fun p hp4 w hw => ?_, fun p hp4 => ?_, fun p hp4 j hj0 hj => ?_, ?_, fun k hk0 hk q hq => ?_, fun s hs => ?_⟩
  · rw [f1 _ (by omega), cpy_in hi, b4.1 _ (by omega)]
    exact h1 i hi
  · rw [hp _ (by omega) (by omega), (b4.2 p hp4).1 w hw]
    exact h2 p hp4 w hw
  · rw [hp _ (by omega) (by omega), (b4.2 p hp4).2.2]
    exact h3 p hp4
  · rw [hp _ (by omega) (by omega), (b4.2 p hp4).2.1 j (by rw [h3 p hp4]; exact hj)]
    exact h4 p hp4 j hj0 hj
  · rw [f4, cpy_ne (by omega), b4.1 _ (by omega)]
    exact h5
  · have := f2 q hq k hk0
    rw [show A + 3 + 1 + q = A + 4 + q by omega, show B + 3 + 1 + q = B + 4 + q by omega, cpy_ne (by omega), b4.1 _ (by omega)] at this
    rw [this]
    exact h6 k hk0 hk q hq
  · have := f3 s hs
    rw [show A + 3 + 4 = A + 7 by omega, show B + 3 + 4 = B + 7 by omega, cpy_ne (by omega), b4.1 _ (by omega)] at this
    rw [this]
    exact h7 s hs
theorem c_image {σ : Mem} {r : Nat → Int} (hw : WF r) (h : CRB 1 r σ) : ∃ τ, X10_image σ = some (1, st τ 0 2 1) ∧ (∀ k, k < 21 ∨ 41 ≤ k → τ k = σ k) ∧ CRB 21 r τ := by
  obtain ⟨τ, e, f, g⟩ := become_ok (A := 21) (B := 1) (Or.inr (by decide)) (fun p hp => (hw.2.1 p hp).2.2.2.2) h
  refine ⟨τ, ?_, f, g⟩
  unfold X10_image
  rw [e, bd_some]
  rfl
theorem c_undo_ok {σ : Mem} {r : Nat → Int} (hw : WF r) (hk : σ 0 2 = 1) (h : CRB 21 r σ) : ∃ τ, X10_undo σ = some (r 9 + r 174 + r 339 + r 504, fga τ) ∧ (∀ k, k < 1 ∨ 21 ≤ k → τ k = σ k) ∧ CRB 1 r τ := by
  obtain ⟨τ, e, f, g⟩ := become_ok (A := 1) (B := 21) (Or.inl (by decide)) (fun p hp => (hw.2.1 p hp).2.2.2.2) h
  refine ⟨τ, ?_, f, g⟩
  unfold X10_undo
  rw [hk, if_pos (by decide), e, bd_some, forgetAll_eq, bd_some, cAll, bd_some, fga_ne (by omega), fga_ne (by omega), fga_ne (by omega), fga_ne (by omega)]
  have g0 := g.2.2.1 0 (by decide)
  have g1 := g.2.2.1 1 (by decide)
  have g2 := g.2.2.1 2 (by decide)
  have g3 := g.2.2.1 3 (by decide)
  rw [show τ (1 + 8) 2 = r 9 from g0, show τ (1 + 11) 2 = r 174 from g1, show τ (1 + 14) 2 = r 339 from g2, show τ (1 + 17) 2 = r 504 from g3]
theorem c_undo_no {σ : Mem} (h : σ 0 2 = 0) : X10_undo σ = some (-1000004, tel σ 3) := by
  unfold X10_undo
  rw [h, if_neg (by decide), tell_3, bd2_some]
