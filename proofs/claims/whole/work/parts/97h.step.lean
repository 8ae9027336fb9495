/-! one step of the reference; the class splits its tape -/
theorem m_stepAt {B : Nat → Int} {n s : Nat} {ρ : Mem} (h : rbR ρ B n) (hs : s ≤ n) (h6 : ρ 111 6 = s) (hns : ¬ pS B n s = true) : ∃ ρ', X11_step_B46 ρ = some ρ' ∧ (∀ q, q ≠ 111 → ρ' q = ρ q) ∧ (∀ j, j < 7 ∨ 9 < j → ρ' 111 j = ρ 111 j) ∧ ρ' 111 7 = ((tE B n s : Nat) : Int) ∧ ρ' 111 8 = kdP B n s ∧ (kdP B n s = 1 → WM B s (tE B n s - s) (ρ' 111 9)) ∧ (kdP B n s = 2 → ρ' 111 9 = rnum B (tE B n s - s) s 0) := by
  have hn := h.2.1
  have e6 : st ρ 111 7 (s : Int) 111 6 = s := by rw [st_self, up_ne (by omega)]; exact h6
  have e7 : st ρ 111 7 (s : Int) 111 7 = s := st_at _ _ _ _
  have e5 : st ρ 111 7 (s : Int) 111 5 = n := by rw [st_self, up_ne (by omega)]; exact h.1
  have h1 : rbR (st ρ 111 7 (s : Int)) B n := h.frame (by rw [st_self, up_ne (by omega)]) (st_ne (by omega))
  unfold X11_step_B46
  rw [h6, lt_v, e6, e5]
  by_cases hsn : s = n
  · have hE : tE B n s = s := tE_end (by omega)
    have hK : kdP B n s = 0 := if_pos (by omega)
    rw [if_neg (by first | omega | (unfold w32; omega)), lt_v, hE, hK]
    exact ⟨_, rfl, fun q hq => by rw [st_ne hq, st_ne hq], fun j hj => by rw [st_self, up_ne (by omega), st_self, up_ne (by omega)], by rw [st_self, up_ne (by omega)]; exact e7, st_at _ _ _ _, fun x => by omega, fun x => by omega⟩
  · have hlt : s < n := by omega
    have hb := h.2.2 s hlt
    have hl := m_isLetter h1 (i := s) hs
    have hd := m_isDigit h1 (i := s) hs
    rw [if_pos (by first | omega | (unfold w32; omega)), bdk hl]
    by_cases cl : pL B n s = true
    · have hE : tE B n s = run1 (pL B n) (n - s) s := if_pos cl
      have hK : kdP B n s = 1 := by unfold kdP; rw [if_neg (by omega), if_pos cl]
      rw [if_pos cl, if_neg (by decide), hE, hK]
      obtain ⟨ρ', t1, t2, t3, t4, t5, t6⟩ := m_wordL (B := B) (n := n) (s := s) (n - s) s 5000 (st ρ 111 7 (s : Int)) 0 (by omega) (by omega) (Or.inr ⟨rfl, cl⟩) h1 e7 e6 (fun j j1 j2 => by omega) (fun _ => by rw [Nat.sub_self]; rfl)
      exact ⟨ρ', t1, fun q hq => by rw [t2 q hq, st_ne hq], fun j hj => by rw [t3 j hj, st_self, up_ne (by omega)], t4, t5, fun _ => t6, fun x => by omega⟩
    · rw [if_neg cl, if_pos (by decide), bdk hd]
      by_cases cd : pD B n s = true
      · have hE : tE B n s = run1 (pD B n) (n - s) s := by unfold tE; rw [if_neg cl, if_pos cd]
        have hK : kdP B n s = 2 := by unfold kdP; rw [if_neg (by omega), if_neg cl, if_pos cd]
        rw [if_pos cd, if_neg (by decide), lt_v, lt_v, hE, hK]
        have e111 : st (st (st ρ 111 7 (s : Int)) 111 8 2) 111 9 0 111 = up (up (up (ρ 111) 7 s) 8 2) 9 0 := by rw [st_self, st_self, st_self]
        obtain ⟨ρ', t1, t2, t3, t4, t5⟩ := m_numL (B := B) (n := n) (n - s) s 5000 (st (st (st ρ 111 7 (s : Int)) 111 8 2) 111 9 0) 0 (by omega) (by omega) (h1.frame (by rw [e111, up_ne (by omega), up_ne (by omega), up_ne (by omega), st_self, up_ne (by omega)]) (by rw [st_ne (by omega), st_ne (by omega)])) (by rw [e111, up_ne (by omega), up_ne (by omega), up_at]) (by rw [e111, up_at]) (by omega) (by omega)
        exact ⟨ρ', t1, fun q hq => by rw [t2 q hq, st_ne hq, st_ne hq, st_ne hq], fun j hj => by rw [t3 j (by omega) (by omega), e111, up_ne (by omega), up_ne (by omega), up_ne (by omega)], t4, by rw [t3 8 (by omega) (by omega), e111, up_ne (by omega), up_at], fun x => by omega, fun _ => t5⟩
      · have hE : tE B n s = s + 1 := by unfold tE; rw [if_neg cl, if_neg cd, if_pos hlt]
        have e115 : st ρ 111 7 (s : Int) 115 s = B s := by rw [st_ne (by omega)]; exact hb.1
        have fin : ∀ k : Int, kdP B n s = k → k ≠ 1 → k ≠ 2 → ∃ ρ', X11_step_B304 (st ρ 111 7 (s : Int)) k = some ρ' ∧ (∀ q, q ≠ 111 → ρ' q = ρ q) ∧ (∀ j, j < 7 ∨ 9 < j → ρ' 111 j = ρ 111 j) ∧ ρ' 111 7 = ((tE B n s : Nat) : Int) ∧ ρ' 111 8 = kdP B n s ∧ (kdP B n s = 1 → WM B s (tE B n s - s) (ρ' 111 9)) ∧ (kdP B n s = 2 → ρ' 111 9 = rnum B (tE B n s - s) s 0) := by
          intro k hk k1 k2
          have q7 : st (st ρ 111 7 (s : Int)) 111 8 k 111 7 = s := by rw [st_self, up_ne (by omega)]; exact e7
          unfold X11_step_B304
          rw [lt_v, q7, lt_v]
          exact ⟨_, rfl, fun q hq => by rw [st_ne hq, st_ne hq, st_ne hq], fun j hj => by rw [st_self, up_ne (by omega), st_self, up_ne (by omega), st_self, up_ne (by omega)], by rw [st_at, hE]; rfl, by rw [st_self, up_ne (by omega), st_at, hk], fun x => absurd (hk.symm.trans x) k1, fun x => absurd (hk.symm.trans x) k2⟩
        rw [if_neg cd, if_pos (by decide), ag_nat (by omega) (by decide), e115]
        by_cases c40 : B s = 40
        · rw [if_neg (by first | omega | (unfold w32; omega))]
          exact fin 3 (by unfold kdP; rw [if_neg (by omega), if_neg cl, if_neg cd, if_pos c40]) (by decide) (by decide)
        · rw [if_pos (by first | omega | (unfold w32; omega)), ag_nat (by omega) (by decide), e115]
          by_cases c41 : B s = 41
          · rw [if_neg (by first | omega | (unfold w32; omega))]
            exact fin 4 (by unfold kdP; rw [if_neg (by omega), if_neg cl, if_neg cd, if_neg c40, if_pos c41]) (by decide) (by decide)
          · rw [if_pos (by first | omega | (unfold w32; omega))]
            exact fin 5 (by unfold kdP; rw [if_neg (by omega), if_neg cl, if_neg cd, if_neg c40, if_neg c41]) (by decide) (by decide)
theorem m_step {B : Nat → Int} {n i : Nat} {ρ : Mem} (h : rbR ρ B n) (hi : i ≤ n) (h7 : ρ 111 7 = i) : ∃ ρ', X11_step ρ = some ρ' ∧ (∀ q, q ≠ 111 → ρ' q = ρ q) ∧ (∀ j, j < 6 ∨ 9 < j → ρ' 111 j = ρ 111 j) ∧ ρ' 111 6 = ((nsp B n i : Nat) : Int) ∧ ρ' 111 7 = ((tE B n (nsp B n i) : Nat) : Int) ∧ ρ' 111 8 = kdP B n (nsp B n i) ∧ (kdP B n (nsp B n i) = 1 → WM B (nsp B n i) (tE B n (nsp B n i) - nsp B n i) (ρ' 111 9)) ∧ (kdP B n (nsp B n i) = 2 → ρ' 111 9 = rnum B (tE B n (nsp B n i) - nsp B n i) (nsp B n i) 0) := by
  have hn := h.2.1
  have key : ∀ (m j f : Nat) (υ : Mem), j + m = n → m < f → (∀ q, q ≠ 111 → υ q = ρ q) → (∀ t, t ≠ 6 → υ 111 t = ρ 111 t) → υ 111 6 = j → ∃ ρ', X11_step_L8 f υ = some ρ' ∧ (∀ q, q ≠ 111 → ρ' q = ρ q) ∧ (∀ j, j < 6 ∨ 9 < j → ρ' 111 j = ρ 111 j) ∧ ρ' 111 6 = ((nsp B n j : Nat) : Int) ∧ ρ' 111 7 = ((tE B n (nsp B n j) : Nat) : Int) ∧ ρ' 111 8 = kdP B n (nsp B n j) ∧ (kdP B n (nsp B n j) = 1 → WM B (nsp B n j) (tE B n (nsp B n j) - nsp B n j) (ρ' 111 9)) ∧ (kdP B n (nsp B n j) = 2 → ρ' 111 9 = rnum B (tE B n (nsp B n j) - nsp B n j) (nsp B n j) 0) := by
    intro m
    induction m with
    | zero =>
      intro j f υ a1 a2 a3 a4 a5
      obtain ⟨f, rfl⟩ : ∃ x, f = x + 1 := ⟨f - 1, by omega⟩
      have hns : ¬ pS B n j = true := fun c => by have := pS_lt c; omega
      have hr : rbR υ B n := h.frame (a4 5 (by omega)) (a3 115 (by omega))
      rw [nsp_stop hns]
      obtain ⟨ρ', t1, t2, t3, t4, t5, t6, t7⟩ := m_stepAt hr (by omega) a5 hns
      refine ⟨ρ', ?_, fun q hq => by rw [t2 q hq, a3 q hq], fun t ht => by rw [t3 t (by omega), a4 t (by omega)], by rw [t3 6 (by omega)]; exact a5, t4, t5, t6, t7⟩
      show X11_step_B8 _ _ = _
      unfold X11_step_B8
      rw [hr.1, a5, if_pos (by first | omega | (unfold w32; omega))]
      exact t1
    | succ m ih =>
      intro j f υ a1 a2 a3 a4 a5
      obtain ⟨f, rfl⟩ : ∃ x, f = x + 1 := ⟨f - 1, by omega⟩
      have hr : rbR υ B n := h.frame (a4 5 (by omega)) (a3 115 (by omega))
      have hb := hr.2.2 j (by omega)
      by_cases hsp : pS B n j = true
      · have hb32 : B j = 32 := by
          unfold pS at hsp
          rw [Bool.and_eq_true, decide_eq_true_eq, decide_eq_true_eq] at hsp
          exact hsp.2
        rw [nsp_step hsp]
        obtain ⟨ρ', t⟩ := ih (j + 1) f (st υ 111 6 ((j : Int) + 1)) (by omega) (by omega) (fun q hq => by rw [st_ne hq, a3 q hq]) (fun t ht => by rw [st_self, up_ne ht, a4 t ht]) (by rw [st_at]; rfl)
        refine ⟨ρ', ?_, t.2⟩
        show X11_step_B8 _ _ = _
        unfold X11_step_B8
        rw [hr.1, a5, if_neg (by first | omega | (unfold w32; omega)), ag_nat (by omega) (by decide), hb.1, hb32, if_neg (by decide), lt_v]
        exact t.1
      · rw [nsp_stop hsp]
        obtain ⟨ρ', t1, t2, t3, t4, t5, t6, t7⟩ := m_stepAt hr (by omega) a5 hsp
        refine ⟨ρ', ?_, fun q hq => by rw [t2 q hq, a3 q hq], fun t ht => by rw [t3 t (by omega), a4 t (by omega)], by rw [t3 6 (by omega)]; exact a5, t4, t5, t6, t7⟩
        have hb32 : B j ≠ 32 := fun c => hsp (by
          unfold pS
          rw [Bool.and_eq_true, decide_eq_true_eq, decide_eq_true_eq]
          exact ⟨by omega, c⟩)
        show X11_step_B8 _ _ = _
        unfold X11_step_B8
        rw [hr.1, a5, if_neg (by first | omega | (unfold w32; omega)), ag_nat (by omega) (by decide), hb.1, if_pos (by rw [w32_id (by omega) (by omega)]; exact hb32)]
        exact t1
  obtain ⟨ρ', t⟩ := key (n - i) i 5000 (st ρ 111 6 (i : Int)) (by omega) (by omega) (fun q hq => st_ne hq) (fun t ht => by rw [st_self, up_ne ht]) (st_at _ _ _ _)
  refine ⟨ρ', ?_, t.2⟩
  unfold X11_step
  rw [lt_v, h7]
  exact t.1
/-- what the class holds of token k -/
def tokV (B : Nat → Int) (n : Nat) (s : Nat) (c : Int) : Prop := (kdP B n s = 1 → WC B s (tE B n s - s) c) ∧ (kdP B n s = 2 → c = cnum B (tE B n s - s) s 0)
def tokC (B : Nat → Int) (n : Nat) (τ : Mem) (k : Nat) : Prop := τ 44 k = kdP B n (tS B n k) ∧ τ 45 k = ((tS B n k : Nat) : Int) ∧ tokV B n (tS B n k) (τ 46 k) ∧ (0 ≤ τ 46 k ∧ τ 46 k ≤ 10000)
theorem run1_all {P : Nat → Bool} : ∀ f i j, i ≤ j → j < run1 P f i → P j = true
  | 0, i, j, h1, h2 => by
    have : run1 P 0 i = i := rfl
    omega
  | f + 1, i, j, h1, h2 => by
    by_cases c : P i = true
    · rw [run1_ge _ _ c] at h2
      by_cases d : j = i
      · rw [d]; exact c
      · exact run1_all f (i + 1) j (by omega) h2
    · rw [run1_stop _ _ c] at h2
      omega
theorem WC_in {B : Nat → Int} {s L : Nat} {c : Int} (h : WC B s L c) : 0 ≤ c ∧ c ≤ 7 := by
  rcases h with ⟨w, a1, a2, _⟩ | ⟨a1, _⟩ <;> omega
theorem cnum_in {B : Nat → Int} : ∀ (m i : Nat) (a : Int), (∀ j, i ≤ j → j < i + m → 48 ≤ B j ∧ B j ≤ 57) → 0 ≤ a → a ≤ 10000 → 0 ≤ cnum B m i a ∧ cnum B m i a ≤ 10000
  | 0, _, _, _, h1, h2 => ⟨h1, h2⟩
  | m + 1, i, a, hb, h1, h2 => by
    have b := hb i (by omega) (by omega)
    exact cnum_in m (i + 1) _ (fun j j1 j2 => hb j (by omega) (by omega)) (by split <;> omega) (by split <;> omega)
theorem c_addToken {B : Nat → Int} {n k s : Nat} {τ : Mem} (h : byR τ B n) (hs : s < n) (hk : τ 42 5 = k) (hk2 : k < 120) : ∃ τ', X8_addToken τ s ((tE B n s : Nat) : Int) = some τ' ∧ (∀ q, q ≠ 42 → q ≠ 44 → q ≠ 45 → q ≠ 46 → τ' q = τ q) ∧ (∀ j, j ≠ 5 → τ' 42 j = τ 42 j) ∧ τ' 42 5 = (k : Int) + 1 ∧ (∀ j, j ≠ k → τ' 44 j = τ 44 j ∧ τ' 45 j = τ 45 j ∧ τ' 46 j = τ 46 j) ∧ τ' 44 k = kdP B n s ∧ τ' 45 k = s ∧ tokV B n s (τ' 46 k) ∧ (0 ≤ τ' 46 k ∧ τ' 46 k ≤ 10000) := by
  obtain ⟨h1, h2, h3⟩ := id h
  have hte := tE_in (B := B) hs
  have e42 : st τ 45 k (s : Int) 42 = τ 42 := st_ne (by omega)
  have e42b : st (st τ 45 k (s : Int)) 46 k 0 42 = τ 42 := by rw [st_ne (by omega), st_ne (by omega)]
  have hb4 : byR (st (st τ 45 k (s : Int)) 46 k 0) B n := ⟨by rw [e42b]; exact h1, h2, fun i hi => by rw [st_ne (by omega), st_ne (by omega)]; exact h3 i hi⟩
  have hl := c_isLetter hb4 hs
  have hd := c_isDigit hb4 hs
  have hby := h3 s hs
  -- the end of each road
  have fin : ∀ (kd v : Int), kd = kdP B n s → tokV B n s v → 0 ≤ v ∧ v ≤ 10000 → ∃ τ', some (st (st (st (st τ 45 k (s : Int)) 46 k v) 44 k kd) 42 5 ((k : Int) + 1)) = some τ' ∧ (∀ q, q ≠ 42 → q ≠ 44 → q ≠ 45 → q ≠ 46 → τ' q = τ q) ∧ (∀ j, j ≠ 5 → τ' 42 j = τ 42 j) ∧ τ' 42 5 = (k : Int) + 1 ∧ (∀ j, j ≠ k → τ' 44 j = τ 44 j ∧ τ' 45 j = τ 45 j ∧ τ' 46 j = τ 46 j) ∧ τ' 44 k = kdP B n s ∧ τ' 45 k = s ∧ tokV B n s (τ' 46 k) ∧ (0 ≤ τ' 46 k ∧ τ' 46 k ≤ 10000) := by
    intro kd v hkd hv hvi
    have g44 : st (st (st (st τ 45 k (s : Int)) 46 k v) 44 k kd) 42 5 ((k : Int) + 1) 44 = up (τ 44) k kd := by rw [st_ne (by omega), st_self, st_ne (by omega), st_ne (by omega)]
    have g45 : st (st (st (st τ 45 k (s : Int)) 46 k v) 44 k kd) 42 5 ((k : Int) + 1) 45 = up (τ 45) k s := by rw [st_ne (by omega), st_ne (by omega), st_ne (by omega), st_self]
    have g46 : st (st (st (st τ 45 k (s : Int)) 46 k v) 44 k kd) 42 5 ((k : Int) + 1) 46 = up (τ 46) k v := by rw [st_ne (by omega), st_ne (by omega), st_self, st_ne (by omega)]
    refine ⟨_, rfl, fun q q1 q2 q3 q4 => by rw [st_ne q1, st_ne q2, st_ne q4, st_ne q3], fun j hj => by rw [st_self, up_ne hj, st_ne (by omega), st_ne (by omega), st_ne (by omega)], st_at _ _ _ _, fun j hj => by rw [g44, g45, g46, up_ne hj, up_ne hj, up_ne hj]; exact ⟨rfl, rfl, rfl⟩, by rw [g44, up_at, hkd], by rw [g45, up_at], by rw [g46, up_at]; exact hv, by rw [g46, up_at]; exact hvi⟩
  have fin2 : ∀ (kd v : Int), kd = kdP B n s → tokV B n s v → 0 ≤ v ∧ v ≤ 10000 → ∃ τ', some (st (st (st (st (st τ 45 k (s : Int)) 46 k 0) 44 k kd) 46 k v) 42 5 ((k : Int) + 1)) = some τ' ∧ (∀ q, q ≠ 42 → q ≠ 44 → q ≠ 45 → q ≠ 46 → τ' q = τ q) ∧ (∀ j, j ≠ 5 → τ' 42 j = τ 42 j) ∧ τ' 42 5 = (k : Int) + 1 ∧ (∀ j, j ≠ k → τ' 44 j = τ 44 j ∧ τ' 45 j = τ 45 j ∧ τ' 46 j = τ 46 j) ∧ τ' 44 k = kdP B n s ∧ τ' 45 k = s ∧ tokV B n s (τ' 46 k) ∧ (0 ≤ τ' 46 k ∧ τ' 46 k ≤ 10000) := by
    intro kd v hkd hv hvi
    have g44 : st (st (st (st (st τ 45 k (s : Int)) 46 k 0) 44 k kd) 46 k v) 42 5 ((k : Int) + 1) 44 = up (τ 44) k kd := by rw [st_ne (by omega), st_ne (by omega), st_self, st_ne (by omega), st_ne (by omega)]
    have g45 : st (st (st (st (st τ 45 k (s : Int)) 46 k 0) 44 k kd) 46 k v) 42 5 ((k : Int) + 1) 45 = up (τ 45) k s := by rw [st_ne (by omega), st_ne (by omega), st_ne (by omega), st_ne (by omega), st_self]
    have g46 : st (st (st (st (st τ 45 k (s : Int)) 46 k 0) 44 k kd) 46 k v) 42 5 ((k : Int) + 1) 46 = up (up (τ 46) k 0) k v := by rw [st_ne (by omega), st_self, st_ne (by omega), st_self, st_ne (by omega)]
    refine ⟨_, rfl, fun q q1 q2 q3 q4 => by rw [st_ne q1, st_ne q4, st_ne q2, st_ne q4, st_ne q3], fun j hj => by rw [st_self, up_ne hj, st_ne (by omega), st_ne (by omega), st_ne (by omega), st_ne (by omega)], st_at _ _ _ _, fun j hj => by rw [g44, g45, g46, up_ne hj, up_ne hj, up_ne hj, up_ne hj]; exact ⟨rfl, rfl, rfl⟩, by rw [g44, up_at, hkd], by rw [g45, up_at], by rw [g46, up_at]; exact hv, by rw [g46, up_at]; exact hvi⟩
  have k45 : st τ 45 k (s : Int) 42 5 = k := by rw [e42]; exact hk
  have k46 : st (st τ 45 k (s : Int)) 46 k 0 42 5 = k := by rw [e42b]; exact hk
  unfold X8_addToken
  rw [hk, if_pos (by first | omega | (unfold w32; omega)), ag_nat (by omega) (by decide), lt_v, k45, ag_nat (by omega) (by decide), lt_v, bdk hl]
  by_cases cl : pL B n s = true
  · have hK : kdP B n s = 1 := by unfold kdP; rw [if_neg (by omega), if_pos cl]
    have hE : tE B n s = run1 (pL B n) (n - s) s := if_pos cl
    have m17 : ∀ kd : Int, st (st (st τ 45 k (s : Int)) 46 k 0) 44 k kd 42 = τ 42 := fun kd => by rw [st_ne (by omega)]; exact e42b
    have hb17 : byR (st (st (st τ 45 k (s : Int)) 46 k 0) 44 k 1) B n := ⟨by rw [m17]; exact h1, h2, fun i hi => by rw [st_ne (by omega)]; exact hb4.2.2 i hi⟩
    obtain ⟨c, c1, c2⟩ := c_word hb17 (s := s) (L := tE B n s - s) (by omega) (fun j j1 j2 => by
      have := pL_iff (run1_all (n - s) s j j1 (by rw [← hE]; omega))
      omega)
    rw [show s + (tE B n s - s) = tE B n s by omega] at c1
    have ci := WC_in c2
    rw [if_pos cl, if_neg (by decide), k46, ag_nat (by omega) (by decide), lt_v, bdk c1, show st (st (st τ 45 k (s : Int)) 46 k 0) 44 k 1 42 5 = k by rw [m17]; exact hk, ag_nat (by omega) (by decide), lt_v]
    unfold X8_addToken_B151
    rw [show st (st (st (st τ 45 k (s : Int)) 46 k 0) 44 k 1) 46 k c 42 5 = k by rw [st_ne (by omega), m17]; exact hk, lt_v]
    exact fin2 1 c hK.symm ⟨fun _ => c2, fun x => by omega⟩ (by omega)
  · rw [if_neg cl, if_pos (by decide), bdk hd]
    by_cases cd : pD B n s = true
    · have hK : kdP B n s = 2 := by unfold kdP; rw [if_neg (by omega), if_neg cl, if_pos cd]
      have hE : tE B n s = run1 (pD B n) (n - s) s := by unfold tE; rw [if_neg cl, if_pos cd]
      have m17 : ∀ kd : Int, st (st (st τ 45 k (s : Int)) 46 k 0) 44 k kd 42 = τ 42 := fun kd => by rw [st_ne (by omega)]; exact e42b
      have hb17 : byR (st (st (st τ 45 k (s : Int)) 46 k 0) 44 k 2) B n := ⟨by rw [m17]; exact h1, h2, fun i hi => by rw [st_ne (by omega)]; exact hb4.2.2 i hi⟩
      have hdig : ∀ j, s ≤ j → j < tE B n s → 48 ≤ B j ∧ B j ≤ 57 := fun j j1 j2 => pD_iff (run1_all (n - s) s j j1 (by rw [← hE]; omega))
      have c1 := c_number hb17 (e := tE B n s) hte.2 (tE B n s - s) s 5000 0 (by omega) (by omega) hdig (by omega) (by omega)
      have c1' : X8_numberValue (st (st (st τ 45 k (s : Int)) 46 k 0) 44 k 2) s ((tE B n s : Nat) : Int) = some (cnum B (tE B n s - s) s 0) := c1
      have ci := cnum_in (B := B) (tE B n s - s) s 0 (fun j j1 j2 => hdig j j1 (by omega)) (by omega) (by omega)
      rw [if_pos cd, if_neg (by decide), k46, ag_nat (by omega) (by decide), lt_v, bdk c1', show st (st (st τ 45 k (s : Int)) 46 k 0) 44 k 2 42 5 = k by rw [m17]; exact hk, ag_nat (by omega) (by decide), lt_v]
      unfold X8_addToken_B151
      rw [show st (st (st (st τ 45 k (s : Int)) 46 k 0) 44 k 2) 46 k (cnum B (tE B n s - s) s 0) 42 5 = k by rw [st_ne (by omega), m17]; exact hk, lt_v]
      exact fin2 2 _ hK.symm ⟨fun x => by omega, fun _ => rfl⟩ ci
    · have m17 : ∀ kd : Int, st (st (st τ 45 k (s : Int)) 46 k 0) 44 k kd 42 5 = k := fun kd => by rw [st_ne (by omega), e42b]; exact hk
      have e43 : st (st τ 45 k (s : Int)) 46 k 0 43 s = τ 43 s := by rw [st_ne (by omega), st_ne (by omega)]
      have go : ∀ kd : Int, kd = kdP B n s → kd ≠ 1 → kd ≠ 2 → ∃ τ', X8_addToken_B151 (st (st (st τ 45 k (s : Int)) 46 k 0) 44 k kd) = some τ' ∧ (∀ q, q ≠ 42 → q ≠ 44 → q ≠ 45 → q ≠ 46 → τ' q = τ q) ∧ (∀ j, j ≠ 5 → τ' 42 j = τ 42 j) ∧ τ' 42 5 = (k : Int) + 1 ∧ (∀ j, j ≠ k → τ' 44 j = τ 44 j ∧ τ' 45 j = τ 45 j ∧ τ' 46 j = τ 46 j) ∧ τ' 44 k = kdP B n s ∧ τ' 45 k = s ∧ tokV B n s (τ' 46 k) ∧ (0 ≤ τ' 46 k ∧ τ' 46 k ≤ 10000) := by
        intro kd hkd n1 n2
        unfold X8_addToken_B151
        rw [m17 kd, lt_v]
        exact fin kd 0 hkd ⟨fun x => absurd (hkd.trans x) n1, fun x => absurd (hkd.trans x) n2⟩ (by omega)
      rw [if_neg cd, if_pos (by decide), ag_nat (by omega) (by decide), e43, k46]
      unfold X8_addToken_B150
      by_cases c40 : B s = 40
      · rw [if_neg (by first | omega | (unfold w32; omega)), ag_nat (by omega) (by decide), lt_v]
        exact go 3 (by unfold kdP; rw [if_neg (by omega), if_neg cl, if_neg cd, if_pos c40]) (by decide) (by decide)
      · rw [if_pos (by first | omega | (unfold w32; omega)), ag_nat (by omega) (by decide), e43]
        by_cases c41 : B s = 41
        · rw [if_neg (by first | omega | (unfold w32; omega)), ag_nat (by omega) (by decide), lt_v]
          exact go 4 (by unfold kdP; rw [if_neg (by omega), if_neg cl, if_neg cd, if_neg c40, if_pos c41]) (by decide) (by decide)
        · rw [if_pos (by first | omega | (unfold w32; omega)), ag_nat (by omega) (by decide), lt_v]
          exact go 5 (by unfold kdP; rw [if_neg (by omega), if_neg cl, if_neg cd, if_neg c40, if_neg c41]) (by decide) (by decide)
