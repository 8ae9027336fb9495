/-! bits -/
theorem ian_nat (x : Int) (y : Nat) (hy : y < 2147483648) : ian x (y : Int) = (((x % 4294967296).toNat &&& y : Nat) : Int) := by
  unfold ian i32
  show ((Int32.ofInt x).toBitVec &&& (Int32.ofInt (y : Int)).toBitVec).toInt = _
  have h1 : (Int32.ofInt x).toBitVec.toNat = (x % 4294967296).toNat := by
    rw [Int32.toBitVec_ofInt, BitVec.toNat_ofInt]
    rfl
  have h2 : (Int32.ofInt (y : Int)).toBitVec.toNat = y := by
    rw [Int32.toBitVec_ofInt, BitVec.toNat_ofInt]
    show ((y : Int) % 4294967296).toNat = y
    omega
  have h3 : ((Int32.ofInt x).toBitVec &&& (Int32.ofInt (y : Int)).toBitVec).toNat = (x % 4294967296).toNat &&& y := by
    rw [BitVec.toNat_and, h1, h2]
  have h4 : (x % 4294967296).toNat &&& y ≤ y := Nat.and_le_right
  rw [BitVec.toInt_eq_toNat_of_lt (by rw [h3]; omega), h3]
theorem ian_255 (x : Int) : ian x 255 = x % 256 := by
  have := ian_nat x 255 (by decide)
  rw [show (255 : Nat) = 2 ^ 8 - 1 by decide, Nat.and_two_pow_sub_one_eq_mod] at this
  have e : ian x 255 = (((x % 4294967296).toNat % 2 ^ 8 : Nat) : Int) := this
  rw [e]
  omega
theorem ian_65535 (x : Int) : ian x 65535 = x % 65536 := by
  have := ian_nat x 65535 (by decide)
  rw [show (65535 : Nat) = 2 ^ 16 - 1 by decide, Nat.and_two_pow_sub_one_eq_mod] at this
  have e : ian x 65535 = (((x % 4294967296).toNat % 2 ^ 16 : Nat) : Int) := this
  rw [e]
  omega
theorem ib8_eq (x : Int) : ib8 x = (x + 128) % 256 - 128 := by
  unfold ib8
  rw [Int8.toInt_toInt32, Int32.toInt_toInt8, i32_toInt, Int.bmod_def]
  unfold w32
  omega
theorem is16_eq (x : Int) : is16 x = (x + 32768) % 65536 - 32768 := by
  unfold is16
  rw [Int16.toInt_toInt32, Int32.toInt_toInt16, i32_toInt, Int.bmod_def]
  unfold w32
  omega
theorem ib8_ib8 (x : Int) : ib8 (ib8 x) = ib8 x := by
  rw [ib8_eq, ib8_eq]
  omega
/-- numbers of sheets of both sides: the same, or both none of 0 to 60 -/
def nrel (c m : Int) : Prop := inR c ∧ inR m ∧ (c = m ∨ ((c < 0 ∨ 60 < c) ∧ (m < 0 ∨ 60 < m)))
theorem nrel_8 {v : Int} : nrel (ian v 255) (ib8 v) := by
  unfold nrel inR
  rw [ian_255, ib8_eq]
  omega
theorem nrel_16 {v : Int} : nrel (ian v 65535) (is16 v) := by
  unfold nrel inR
  rw [ian_65535, is16_eq]
  omega
theorem nrel_32 {v : Int} (h : inR v) : nrel v v := ⟨h, h, Or.inl rfl⟩
/-! sheet, write, copy of the reference -/
def fir (σ : Mem) (k d n : Nat) (v : Int) : Mem := fun a b => if a = k ∧ d ≤ b ∧ b < d + n then v else σ a b
theorem fir_0 (σ : Mem) (k d : Nat) (v : Int) : fir σ k d 0 v = σ := by
  funext a b
  simp only [fir]
  rw [if_neg (by omega)]
theorem fir_succ (σ : Mem) (k d n : Nat) (v : Int) : st (fir σ k d n v) k (d + n) v = fir σ k d (n + 1) v := by
  funext a b
  simp only [st, fir]
  by_cases h : a = k ∧ b = d + n
  · rw [if_pos h, if_pos ⟨h.1, by omega, by omega⟩]
  · rw [if_neg h]
    by_cases h2 : a = k ∧ d ≤ b ∧ b < d + n
    · rw [if_pos h2, if_pos ⟨h2.1, h2.2.1, by omega⟩]
    · rw [if_neg h2, if_neg (by omega)]
theorem fir_ne {σ : Mem} {k d n a : Nat} {v : Int} (h : a ≠ k) : fir σ k d n v a = σ a := by
  funext b
  simp [fir, h]
theorem msheet_loop (σ : Mem) (s : Nat) (hs : s < 4) : ∀ (r i n : Nat), i + r = 40 → r < n → X11_sheet_L83 n (fir σ 136 (40 * s) i 0) (s : Int) (i : Int) = some (σ 135 s, fir σ 136 (40 * s) 40 0) := by
  intro r
  induction r with
  | zero =>
    intro i n hi hn
    obtain ⟨n, rfl⟩ : ∃ m, n = m + 1 := ⟨n - 1, by omega⟩
    show X11_sheet_B83 (X11_sheet_L83 n) _ _ _ = _
    unfold X11_sheet_B83
    rw [w32_nat (by omega), w32_id (x := 40) (by decide) (by decide), if_pos (by omega), ag_nat hs (by decide), fir_ne (by decide), show i = 40 by omega]
  | succ r ih =>
    intro i n hi hn
    obtain ⟨n, rfl⟩ : ∃ m, n = m + 1 := ⟨n - 1, by omega⟩
    show X11_sheet_B83 (X11_sheet_L83 n) _ _ _ = _
    unfold X11_sheet_B83
    rw [w32_nat (by omega), w32_id (x := 40) (by decide) (by decide), if_neg (by omega), ag_ok (by omega) (by omega) (by decide), show (40 * (s : Int) + (i : Int)).toNat = 40 * s + i by omega, lt_v, lt_v, fir_succ]
    exact ih (i + 1) n (by omega) (by omega)
theorem m_sheet_ok {σ : Mem} {s : Nat} {b n : Int} (hs : s < 4) (hb : okBits b) (hn : 0 ≤ n ∧ n ≤ 40) : X11_sheet σ s b n = some (if b = 0 then 0 else n, fir (st (st σ 134 s b) 135 s (if b = 0 then 0 else n)) 136 (40 * s) 40 0) := by
  have e : X11_sheet_B35 σ s b n = some (if b = 0 then 0 else n, fir (st (st σ 134 s b) 135 s (if b = 0 then 0 else n)) 136 (40 * s) 40 0) := by
    have hb2 : w32 b = b := by rcases hb with rfl | rfl | rfl | rfl <;> rfl
    have k : ∀ x : Int, X11_sheet_B79 (st σ 134 s b) s 135 s x = some (x, fir (st (st σ 134 s b) 135 s x) 136 (40 * s) 40 0) := by
      intro x
      unfold X11_sheet_B79
      rw [ag_nat hs (by decide), lt_v]
      have := msheet_loop (st (st σ 134 s b) 135 s x) s hs 40 0 5000 (by omega) (by omega)
      rw [fir_0, st_at] at this
      exact this
    unfold X11_sheet_B35
    rw [w32_id (x := n) (by omega) (by omega), if_pos hn.1, w32_id (x := 40) (by decide) (by decide), if_pos hn.2, ag_nat hs (by decide), lt_v, hb2, k, k]
    by_cases h0 : b = 0
    · rw [if_neg (by omega), if_pos h0]
    · rw [if_pos h0, if_neg h0]
  unfold X11_sheet
  rw [mSheet_t (by omega) (by omega), bd_some, if_neg (by decide)]
  rcases hb with rfl | rfl | rfl | rfl
  · rw [if_pos (by decide)]; exact e
  · rw [if_neg (by decide), if_pos (by decide)]; exact e
  · rw [if_neg (by decide), if_neg (by decide), if_pos (by decide)]; exact e
  · rw [if_neg (by decide), if_neg (by decide), if_neg (by decide), if_pos (by decide)]; exact e
theorem m_sheet_no {σ : Mem} {s b n : Int} (hs : inR s) (hb : inR b) (hn : inR n) : (¬ (0 ≤ s ∧ s ≤ 3) ∨ ¬ okBits b → X11_sheet σ s b n = some (-1000001, fnd σ 0)) ∧ ((0 ≤ s ∧ s ≤ 3) ∧ okBits b → n < 0 → X11_sheet σ s b n = some (-1000007, fnd σ 6)) ∧ ((0 ≤ s ∧ s ≤ 3) ∧ okBits b → 40 < n → X11_sheet σ s b n = some (-1000001, fnd σ 0)) := by
  have e1 : n < 0 → X11_sheet_B35 σ s b n = some (-1000007, fnd σ 6) := by
    intro h
    unfold X11_sheet_B35
    rw [inR_w hn, if_neg (by omega), finds_6, bd2_some]
  have e2 : 40 < n → X11_sheet_B35 σ s b n = some (-1000001, fnd σ 0) := by
    intro h
    unfold X11_sheet_B35
    rw [inR_w hn, w32_id (x := 40) (by decide) (by decide), if_pos (by omega), if_neg (by omega), finds_0, bd2_some]
  have e0 : X11_sheet_B29 σ = some (-1000001, fnd σ 0) := by
    unfold X11_sheet_B29
    rw [finds_0, bd2_some]
  unfold X11_sheet okBits
  rw [mSheet_if hs, bd_some, wif0, inR_w hb, w32_id (x := 8) (by decide) (by decide), w32_id (x := 16) (by decide) (by decide), w32_id (x := 32) (by decide) (by decide), e0]
  have all : ∀ y : Option (Int × Mem), X11_sheet_B35 σ s b n = y → (b = 0 ∨ b = 8 ∨ b = 16 ∨ b = 32) → (if b = 0 then X11_sheet_B35 σ s b n else if b = 8 then X11_sheet_B35 σ s b n else if b = 16 then X11_sheet_B35 σ s b n else if b = 32 then X11_sheet_B35 σ s b n else some (-1000001, fnd σ 0)) = y := by
    intro y hy h
    rw [hy]
    by_cases h0 : b = 0
    · rw [if_pos h0]
    · rw [if_neg h0]
      by_cases h8 : b = 8
      · rw [if_pos h8]
      · rw [if_neg h8]
        by_cases h16 : b = 16
        · rw [if_pos h16]
        · rw [if_neg h16, if_pos (by omega)]
  refine ⟨fun h => ?_, fun h hn0 => ?_, fun h hn0 => ?_⟩
  · by_cases h1 : 0 ≤ s ∧ s ≤ 3
    · rw [if_pos h1]
      rcases h with h | h
      · exact absurd h1 h
      · rw [if_neg (by omega), if_neg (by omega), if_neg (by omega), if_neg (by omega)]
    · rw [if_neg h1]
  · rw [if_pos h.1]
    exact all _ (e1 hn0) h.2
  · rw [if_pos h.1]
    exact all _ (e2 hn0) h.2
