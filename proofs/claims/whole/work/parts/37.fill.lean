/-! rows filled and copied -/
def fil (σ : Mem) (k n : Nat) (v : Int) : Mem := fun a b => if a = k ∧ b < n then v else σ a b
theorem fil_0 (σ : Mem) (k : Nat) (v : Int) : fil σ k 0 v = σ := by
  funext a b
  simp [fil]
theorem fil_succ (σ : Mem) (k n : Nat) (v : Int) : st (fil σ k n v) k n v = fil σ k (n + 1) v := by
  funext a b
  simp only [st, fil]
  by_cases h : a = k ∧ b = n
  · rw [if_pos h, if_pos ⟨h.1, by omega⟩]
  · rw [if_neg h]
    by_cases h2 : a = k ∧ b < n
    · rw [if_pos h2, if_pos ⟨h2.1, by omega⟩]
    · rw [if_neg h2, if_neg (by omega)]
theorem fil_ne {σ : Mem} {k n a : Nat} {v : Int} (h : a ≠ k) : fil σ k n v a = σ a := by
  funext b
  simp [fil, h]
theorem fil_in {σ : Mem} {k n b : Nat} {v : Int} (h : b < n) : fil σ k n v k b = v := by simp [fil, h]
theorem cpy_0 (σ : Mem) (a s b d : Nat) : cpy σ a s b d 0 = σ := by
  funext k q
  simp only [cpy]
  rw [if_neg (by omega)]
theorem cpy_ne {σ : Mem} {a s b d n k : Nat} (h : k ≠ b) : cpy σ a s b d n k = σ k := by
  funext q
  simp [cpy, h]
theorem cpy_succ (σ : Mem) (a s b d n : Nat) : st (cpy σ a s b d n) b (d + n) (σ a (s + n)) = cpy σ a s b d (n + 1) := by
  funext k q
  simp only [st, cpy]
  by_cases h : k = b ∧ q = d + n
  · rw [if_pos h, if_pos ⟨h.1, by omega, by omega⟩, show s + (q - d) = s + n by omega]
  · rw [if_neg h]
    by_cases h2 : k = b ∧ d ≤ q ∧ q < d + n
    · rw [if_pos h2, if_pos ⟨h2.1, h2.2.1, by omega⟩]
    · rw [if_neg h2, if_neg (by omega)]
theorem fill_loop (σ : Mem) (k : Nat) (v : Int) (N : Nat) (hN : ln k = N) (hN2 : N < 2147483648) : ∀ (r i n : Nat), i + r = N → r < n → J7_fill_53178_L5 n (fil σ k i v) k v (i : Int) (N : Int) = some (fil σ k N v) := by
  intro r
  induction r with
  | zero =>
    intro i n hi hn
    obtain ⟨n, rfl⟩ : ∃ m, n = m + 1 := ⟨n - 1, by omega⟩
    show J7_fill_53178_B5 (J7_fill_53178_L5 n) _ k v _ _ = _
    unfold J7_fill_53178_B5
    rw [w32_nat (by omega), w32_nat (by omega), if_pos (by omega), show i = N by omega]
  | succ r ih =>
    intro i n hi hn
    obtain ⟨n, rfl⟩ : ∃ m, n = m + 1 := ⟨n - 1, by omega⟩
    show J7_fill_53178_B5 (J7_fill_53178_L5 n) _ k v _ _ = _
    unfold J7_fill_53178_B5
    rw [w32_nat (by omega), w32_nat (by omega), if_neg (by omega), hN, ag_nat (by omega) (by omega), lt_v, lt_v, fil_succ]
    exact ih (i + 1) n (by omega) (by omega)
theorem fill_eq (σ : Mem) (k : Nat) (v : Int) (h : ln k < 4999) : J7_fill_53178 σ k v = some (fil σ k (ln k) v) := by
  have := fill_loop σ k v (ln k) rfl (by omega) (ln k) 0 5000 (by omega) (by omega)
  rw [fil_0] at this
  exact this
/-- a loop that copies a row of the reference -/
theorem image_loop (σ : Mem) : ∀ (r i n : Nat), i + r = 766 → r < n → X11_image_L2 n (cpy σ 112 0 113 0 i) (i : Int) = some (1, st (cpy σ 112 0 113 0 766) 111 2 1) := by
  intro r
  induction r with
  | zero =>
    intro i n hi hn
    obtain ⟨n, rfl⟩ : ∃ m, n = m + 1 := ⟨n - 1, by omega⟩
    show X11_image_B2 (X11_image_L2 n) _ _ = _
    unfold X11_image_B2
    rw [w32_nat (by omega), w32_id (x := 766) (by decide) (by decide), if_pos (by omega), lt_v, show i = 766 by omega]
  | succ r ih =>
    intro i n hi hn
    obtain ⟨n, rfl⟩ : ∃ m, n = m + 1 := ⟨n - 1, by omega⟩
    show X11_image_B2 (X11_image_L2 n) _ _ = _
    unfold X11_image_B2
    have e := cpy_succ σ 112 0 113 0 i
    rw [Nat.zero_add] at e
    rw [w32_nat (by omega), w32_id (x := 766) (by decide) (by decide), if_neg (by omega), ag_nat (by omega) (by decide), ag_nat (by omega) (by decide), lt_v, lt_v, cpy_ne (by decide), e]
    exact ih (i + 1) n (by omega) (by omega)
theorem m_image (σ : Mem) : X11_image σ = some (1, st (cpy σ 112 0 113 0 766) 111 2 1) := by
  have := image_loop σ 766 0 5000 (by omega) (by omega)
  rw [cpy_0] at this
  exact this
/-- the sum of the bars -/
theorem mAll_step (n : Nat) (σ : Mem) (a : Int) (i : Nat) (h : i < 4) : X11_barsInAll_L4 σ (n + 1) a (i : Int) = X11_barsInAll_L4 σ n (a + σ 112 (9 + 165 * i)) ((i + 1 : Nat) : Int) := by
  show X11_barsInAll_B4 (X11_barsInAll_L4 σ n) σ a (i : Int) = _
  unfold X11_barsInAll_B4
  rw [w32_id (x := 4) (by decide) (by decide), w32_nat (by omega), if_neg (by omega), mbars (by omega)]
  rfl
theorem mAll (σ : Mem) : X11_barsInAll σ = some (σ 112 9 + σ 112 174 + σ 112 339 + σ 112 504) := by
  show X11_barsInAll_L4 σ (4999 + 1) 0 ((0 : Nat) : Int) = _
  rw [mAll_step _ _ _ 0 (by decide), show 4999 = 4998 + 1 from rfl, mAll_step _ _ _ 1 (by decide), show 4998 = 4997 + 1 from rfl, mAll_step _ _ _ 2 (by decide), show 4997 = 4996 + 1 from rfl, mAll_step _ _ _ 3 (by decide), Int.zero_add]
  rfl
theorem cAll_step (n : Nat) (σ : Mem) (B : Nat) (a : Int) (i : Nat) (h : i < 4) : X7_barsInAll_L4 σ (n + 1) B a (i : Int) = X7_barsInAll_L4 σ n B (a + σ (B + 8 + 3 * i) 2) ((i + 1 : Nat) : Int) := by
  show X7_barsInAll_B4 (X7_barsInAll_L4 σ n) σ B a (i : Int) = _
  unfold X7_barsInAll_B4
  rw [w32_id (x := 4) (by decide) (by decide), w32_nat (by omega), if_neg (by omega), ag_nat h (by decide), show B + 1 + 7 + 3 * i = B + 8 + 3 * i by omega]
  rfl
theorem cAll (σ : Mem) (B : Nat) : X7_barsInAll σ B = some (σ (B + 8) 2 + σ (B + 11) 2 + σ (B + 14) 2 + σ (B + 17) 2) := by
  show X7_barsInAll_L4 σ (4999 + 1) B 0 ((0 : Nat) : Int) = _
  rw [cAll_step _ _ _ _ 0 (by decide), show 4999 = 4998 + 1 from rfl, cAll_step _ _ _ _ 1 (by decide), show 4998 = 4997 + 1 from rfl, cAll_step _ _ _ _ 2 (by decide), show 4997 = 4996 + 1 from rfl, cAll_step _ _ _ _ 3 (by decide), Int.zero_add]
  rfl
theorem undo_loop (σ : Mem) : ∀ (r i n : Nat), i + r = 766 → r < n → X11_undo_L15 n (cpy σ 113 0 112 0 i) (i : Int) = some ((cpy σ 113 0 112 0 766) 112 9 + (cpy σ 113 0 112 0 766) 112 174 + (cpy σ 113 0 112 0 766) 112 339 + (cpy σ 113 0 112 0 766) 112 504, cpy σ 113 0 112 0 766) := by
  intro r
  induction r with
  | zero =>
    intro i n hi hn
    obtain ⟨n, rfl⟩ : ∃ m, n = m + 1 := ⟨n - 1, by omega⟩
    show X11_undo_B15 (X11_undo_L15 n) _ _ = _
    unfold X11_undo_B15
    rw [w32_nat (by omega), w32_id (x := 766) (by decide) (by decide), if_pos (by omega), show i = 766 by omega, mAll, bd_some]
  | succ r ih =>
    intro i n hi hn
    obtain ⟨n, rfl⟩ : ∃ m, n = m + 1 := ⟨n - 1, by omega⟩
    show X11_undo_B15 (X11_undo_L15 n) _ _ = _
    unfold X11_undo_B15
    have e := cpy_succ σ 113 0 112 0 i
    rw [Nat.zero_add] at e
    rw [w32_nat (by omega), w32_id (x := 766) (by decide) (by decide), if_neg (by omega), ag_nat (by omega) (by decide), ag_nat (by omega) (by decide), lt_v, lt_v, cpy_ne (by decide), e]
    exact ih (i + 1) n (by omega) (by omega)
theorem m_undo_ok {σ : Mem} (h : σ 111 2 = 1) : X11_undo σ = some (σ 113 9 + σ 113 174 + σ 113 339 + σ 113 504, cpy σ 113 0 112 0 766) := by
  unfold X11_undo
  rw [h, if_pos (by decide)]
  have := undo_loop σ 766 0 5000 (by omega) (by omega)
  rw [cpy_0] at this
  exact this
theorem m_undo_no {σ : Mem} (h : σ 111 2 = 0) : X11_undo σ = some (-1000004, fnd σ 3) := by
  unfold X11_undo
  rw [h, if_neg (by decide), finds_3, bd2_some]
