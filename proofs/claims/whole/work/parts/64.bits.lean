/-! bits of twelve -/
theorem i32_bv (x : Int) : (i32 x).toBitVec = BitVec.ofInt 32 x := Int32.toBitVec_ofInt x
theorem isr_eq (x : Int) {k : Nat} (hk : k < 32) : isr x k = w32 x / 2 ^ k := by
  have h1 : ∀ k : Fin 32, ((i32 ((k : Nat) : Int) &&& 31).toBitVec.smod 32).toNat = (k : Nat) := by decide
  have h2 := h1 ⟨k, hk⟩
  unfold isr
  show (BitVec.sshiftRight (i32 x).toBitVec ((i32 (k : Int) &&& 31).toBitVec.smod 32).toNat).toInt = _
  rw [h2, BitVec.toInt_sshiftRight, Int.shiftRight_eq_div_pow]
  show (i32 x).toInt / _ = _
  rw [i32_toInt]
  norm_cast
theorem isr2 {x : Int} (h1 : -1000000 ≤ x) (h2 : x ≤ 2147483647) : isr x 2 = x / 4 := by
  have := isr_eq x (k := 2) (by omega)
  rw [w32_id (by omega) (by omega)] at this
  exact this
theorem ian_3 (x : Int) : ian x 3 = x % 4 := by
  have := ian_nat x 3 (by decide)
  rw [show (3 : Nat) = 2 ^ 2 - 1 by decide, Nat.and_two_pow_sub_one_eq_mod] at this
  have e : ian x 3 = (((x % 4294967296).toNat % 2 ^ 2 : Nat) : Int) := this
  rw [e]
  omega
theorem ian_1 (x : Int) : ian x 1 = x % 2 := by
  have := ian_nat x 1 (by decide)
  rw [show (1 : Nat) = 2 ^ 1 - 1 by decide, Nat.and_two_pow_sub_one_eq_mod] at this
  have e : ian x 1 = (((x % 4294967296).toNat % 2 ^ 1 : Nat) : Int) := this
  rw [e]
  omega
theorem ian_nn {x y : Nat} (hx : x < 2147483648) (hy : y < 2147483648) : ian (x : Int) (y : Int) = ((x &&& y : Nat) : Int) := by
  rw [ian_nat _ _ hy, show ((x : Int) % 4294967296).toNat = x by omega]
theorem iro_nn {x y : Nat} (hx : x < 2147483648) (hy : y < 2147483648) : iro (x : Int) (y : Int) = ((x ||| y : Nat) : Int) := by
  have h1 : ∀ x : Nat, x < 2147483648 → (i32 (x : Int)).toBitVec.toNat = x := fun x hx => by
    rw [i32_bv, BitVec.toNat_ofInt]
    show ((x : Int) % 4294967296).toNat = x
    omega
  have h3 : ((i32 (x : Int)).toBitVec ||| (i32 (y : Int)).toBitVec).toNat = x ||| y := by
    rw [BitVec.toNat_or, h1 x hx, h1 y hy]
  have h4 : x ||| y < 2 ^ 31 := Nat.or_lt_two_pow (by omega) (by omega)
  unfold iro
  show ((i32 (x : Int)).toBitVec ||| (i32 (y : Int)).toBitVec).toInt = _
  rw [BitVec.toInt_eq_toNat_of_lt (by rw [h3]; omega), h3]
/-- bit k of a number -/
theorem bit_nat {x k : Nat} (hx : x < 2147483648) (hk : k < 32) : ian (isr (x : Int) k) 1 = if x.testBit k then 1 else 0 := by
  rw [isr_eq _ hk, w32_id (by omega) (by omega), ian_1, Nat.testBit_eq_decide_div_mod_eq]
  have : ((x : Int) / 2 ^ k) % 2 = ((x / 2 ^ k % 2 : Nat) : Int) := by norm_cast
  rw [this]
  by_cases h : x / 2 ^ k % 2 = 1
  · rw [h]; rfl
  · have h0 : x / 2 ^ k % 2 = 0 := by omega
    rw [h0]; rfl
/-- the class's mask of turning pages -/
def trn (x : Nat) : Nat := 1365 &&& (4294967295 ^^^ x)
theorem trn_eq {x : Nat} (hx : x < 1024) : ian 1365 (ixr (x : Int) (-1)) = ((trn x : Nat) : Int) := by
  have h1 : (i32 (x : Int)).toBitVec.toNat = x := by
    rw [i32_bv, BitVec.toNat_ofInt]
    show ((x : Int) % 4294967296).toNat = x
    omega
  have h2 : (i32 (-1 : Int)).toBitVec.toNat = 4294967295 := by decide
  have h3 : (ixr (x : Int) (-1) % 4294967296).toNat = 4294967295 ^^^ x := by
    have h4 : ((i32 (x : Int)).toBitVec ^^^ (i32 (-1 : Int)).toBitVec).toNat = 4294967295 ^^^ x := by
      rw [BitVec.toNat_xor, h1, h2, Nat.xor_comm]
    have h5 : ixr (x : Int) (-1) = ((i32 (x : Int)).toBitVec ^^^ (i32 (-1 : Int)).toBitVec).toInt := rfl
    have h6 := BitVec.toInt_eq_toNat_cond ((i32 (x : Int)).toBitVec ^^^ (i32 (-1 : Int)).toBitVec)
    have h7 := ((i32 (x : Int)).toBitVec ^^^ (i32 (-1 : Int)).toBitVec).isLt
    rw [h5, h6, h4]
    rw [h4] at h7
    split <;> omega
  have h8 := ian_nat (ixr (x : Int) (-1)) 1365 (by decide)
  rw [h3] at h8
  have h9 : ian 1365 (ixr (x : Int) (-1)) = ian (ixr (x : Int) (-1)) 1365 := by
    unfold ian
    rw [Int32.and_comm]
  rw [h9]
  show ian (ixr (x : Int) (-1)) ((1365 : Nat) : Int) = _
  rw [h8]
  unfold trn
  rw [Nat.and_comm]
theorem trn_lt (x : Nat) : trn x ≤ 1365 := Nat.and_le_left
theorem trn_bit {x q : Nat} (hq : q < 12) : (trn x).testBit q = (decide (q % 2 = 0) && !x.testBit q) := by
  have h1 : ∀ q : Fin 12, Nat.testBit 1365 q = decide ((q : Nat) % 2 = 0) := by decide
  have h2 : ∀ q : Fin 12, Nat.testBit 4294967295 q = true := by decide
  unfold trn
  rw [Nat.testBit_and, Nat.testBit_xor]
  rw [h1 ⟨q, hq⟩, h2 ⟨q, hq⟩]
  cases x.testBit q <;> rfl
/-- does page g turn: the reference's rule -/
def tnP (x g : Nat) : Prop := g % 2 = 0 ∧ (9 < g ∨ x.testBit g = false)
/-- the class's state for page g -/
def qst (g : Nat) : Nat := if g < 12 then g else 10 + g % 2
theorem qst_lt (g : Nat) : qst g < 12 := by unfold qst; split <;> omega
theorem qst_s (g : Nat) : qst (qst g + 1) = qst (g + 1) := by
  unfold qst
  by_cases h : g < 12
  · rw [if_pos h]
  · rw [if_neg h]
    by_cases h1 : 10 + g % 2 + 1 < 12
    · rw [if_pos h1, if_neg (by omega)]; omega
    · rw [if_neg h1, if_neg (by omega)]; omega
theorem big_bit {x g : Nat} (hx : x < 1024) (hg : 10 ≤ g) : x.testBit g = false := Nat.testBit_lt_two_pow (Nat.lt_of_lt_of_le hx (by
  show 2 ^ 10 ≤ 2 ^ g
  exact Nat.pow_le_pow_right (by omega) hg))
theorem tnP_q {x g : Nat} (hx : x < 1024) : (trn x).testBit (qst g) = true ↔ tnP x g := by
  rw [trn_bit (qst_lt g)]
  unfold tnP qst
  by_cases h : g < 12
  · rw [if_pos h]
    by_cases h9 : 9 < g
    · rw [big_bit hx (by omega)]
      simp [h9]
    · simp [h9]
  · rw [if_neg h, big_bit hx (by omega)]
    simp
    omega
theorem tnP_qst {x g : Nat} (hx : x < 1024) : tnP x (qst g) ↔ tnP x g := by
  have h : qst (qst g) = qst g := if_pos (qst_lt g)
  rw [← tnP_q hx, ← tnP_q hx, h]
theorem c_following {σ : Mem} {q : Nat} (hq : q < 12) : X1_following σ q = some ((qst (q + 1) : Nat) : Int) := by
  unfold X1_following qst
  by_cases h : q = 11
  · rw [if_pos (by first | omega | (unfold w32; omega)), if_neg (by omega), h]; rfl
  · rw [if_neg (by first | omega | (unfold w32; omega)), if_pos (by omega)]; rfl
/-- the set of following states -/
def fst12 (x : Nat) : Nat := ((2 * x) &&& 4095) ||| (if x.testBit 11 then 1024 else 0)
