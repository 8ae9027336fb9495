/-! numbers: the pure side counts in Int; i32, i64 are what the machine holds; w32, w64 what it means -/
def w32 (x : Int) : Int := (x + 2147483648) % 4294967296 - 2147483648
def w64 (x : Int) : Int := (x + 9223372036854775808) % 18446744073709551616 - 9223372036854775808
def i32 (x : Int) : Int32 := Int32.ofInt x
def i64 (x : Int) : Int64 := Int64.ofInt x
theorem w32_bmod (x : Int) : x.bmod (2 ^ 32) = w32 x := by
  unfold w32
  rw [Int.bmod_def]
  omega
theorem w64_bmod (x : Int) : x.bmod (2 ^ 64) = w64 x := by
  unfold w64
  rw [Int.bmod_def]
  omega
theorem i32_toInt (x : Int) : (i32 x).toInt = w32 x := by
  unfold i32
  rw [Int32.toInt_ofInt]
  exact w32_bmod x
theorem i64_toInt (x : Int) : (i64 x).toInt = w64 x := by
  unfold i64
  rw [Int64.toInt_ofInt]
  exact w64_bmod x
theorem i32_of (x : Int32) : i32 x.toInt = x := Int32.ofInt_toInt x
theorem i64_of (x : Int64) : i64 x.toInt = x := Int64.ofInt_toInt x
theorem i32_inj {x y : Int} : i32 x = i32 y ↔ w32 x = w32 y := by
  rw [← Int32.toInt_inj, i32_toInt, i32_toInt]
theorem i64_inj {x y : Int} : i64 x = i64 y ↔ w64 x = w64 y := by
  rw [← Int64.toInt_inj, i64_toInt, i64_toInt]
theorem w32_w (x : Int) : w32 (w32 x) = w32 x := by unfold w32; omega
theorem w32_id {x : Int} (h1 : -2147483648 ≤ x) (h2 : x < 2147483648) : w32 x = x := by unfold w32; omega
theorem w64_id {x : Int} (h1 : -9223372036854775808 ≤ x) (h2 : x < 9223372036854775808) : w64 x = x := by unfold w64; omega
theorem w32_lo (x : Int) : -2147483648 ≤ w32 x := by unfold w32; omega
theorem w32_hi (x : Int) : w32 x < 2147483648 := by unfold w32; omega
theorem w64_32 (x : Int) : w64 (w32 x) = w32 x := w64_id (by have := w32_lo x; omega) (by have := w32_hi x; omega)
theorem i32_w (x : Int) : i32 (w32 x) = i32 x := i32_inj.mpr (w32_w x)
theorem i32_add (x y : Int) : i32 x + i32 y = i32 (x + y) := (Int32.ofInt_add x y).symm
theorem i32_sub (x y : Int) : i32 x - i32 y = i32 (x - y) := (Int32.ofInt_sub x y).symm
theorem i32_mul (x y : Int) : i32 x * i32 y = i32 (x * y) := (Int32.ofInt_mul x y).symm
theorem i64_add (x y : Int) : i64 x + i64 y = i64 (x + y) := (Int64.ofInt_add x y).symm
theorem i64_sub (x y : Int) : i64 x - i64 y = i64 (x - y) := (Int64.ofInt_sub x y).symm
theorem i64_mul (x y : Int) : i64 x * i64 y = i64 (x * y) := (Int64.ofInt_mul x y).symm
theorem i32_lt {x y : Int} : i32 x < i32 y ↔ w32 x < w32 y := by rw [Int32.lt_iff_toInt_lt, i32_toInt, i32_toInt]
theorem i32_le {x y : Int} : i32 x ≤ i32 y ↔ w32 x ≤ w32 y := by rw [Int32.le_iff_toInt_le, i32_toInt, i32_toInt]
theorem i64_lt {x y : Int} : i64 x < i64 y ↔ w64 x < w64 y := by rw [Int64.lt_iff_toInt_lt, i64_toInt, i64_toInt]
theorem i32_0 : (0 : Int32) = i32 0 := rfl
theorem w32_0 : w32 0 = 0 := rfl
theorem i32_lt0 {x : Int} : i32 x < 0 ↔ w32 x < 0 := by rw [i32_0, i32_lt, w32_0]
theorem i32_le0 {x : Int} : i32 x ≤ 0 ↔ w32 x ≤ 0 := by rw [i32_0, i32_le, w32_0]
theorem i32_gt0 {x : Int} : 0 < i32 x ↔ 0 < w32 x := by rw [i32_0, i32_lt, w32_0]
theorem i32_ge0 {x : Int} : 0 ≤ i32 x ↔ 0 ≤ w32 x := by rw [i32_0, i32_le, w32_0]
theorem i32_eq0 {x : Int} : i32 x = 0 ↔ w32 x = 0 := by rw [i32_0, i32_inj, w32_0]
theorem i32_nat (x : Int) : (i32 x).toNatClampNeg = (w32 x).toNat := by rw [← i32_toInt]; rfl
theorem i32_ofNat (n : Nat) : Int32.ofNat n = i32 (n : Int) := rfl
def idv (x y : Int) : Int := Int.tdiv (w32 x) (w32 y)
def irm (x y : Int) : Int := x - Int.tdiv (w32 x) (w32 y) * y
theorem i32_div (x y : Int) : i32 x / i32 y = i32 (idv x y) := by
  apply Int32.toInt_inj.mp
  rw [Int32.toInt_div, i32_toInt, i32_toInt, i32_toInt]
  exact w32_bmod _
theorem i32_rem (x y : Int) : i32 x - i32 x / i32 y * i32 y = i32 (irm x y) := by
  rw [i32_div, i32_mul, i32_sub]
  rfl
def imx (x y : Int) : Int := if w32 x < w32 y then y else x
def imn (x y : Int) : Int := if w32 y < w32 x then y else x
theorem i32_max (x y : Int) : (if i32 x < i32 y then i32 y else i32 x) = i32 (imx x y) := by
  unfold imx
  simp only [i32_lt]
  split <;> rfl
theorem i32_min (x y : Int) : (if i32 y < i32 x then i32 y else i32 x) = i32 (imn x y) := by
  unfold imn
  simp only [i32_lt]
  split <;> rfl
def ian (x y : Int) : Int := (i32 x &&& i32 y).toInt
def iro (x y : Int) : Int := (i32 x ||| i32 y).toInt
def ixr (x y : Int) : Int := (i32 x ^^^ i32 y).toInt
def isl (x y : Int) : Int := (i32 x <<< (i32 y &&& 31)).toInt
def isr (x y : Int) : Int := (i32 x >>> (i32 y &&& 31)).toInt
def ius (x y : Int) : Int := ((i32 x).toUInt32 >>> ((i32 y).toUInt32 &&& Int32.toUInt32 31)).toInt32.toInt
def ib8 (x : Int) : Int := (i32 x).toInt8.toInt32.toInt
def is16 (x : Int) : Int := (i32 x).toInt16.toInt32.toInt
def ic16 (x : Int) : Int := ((i32 x).toUInt32 % 65536).toInt32.toInt
def lro (x y : Int) : Int := (i64 x ||| i64 y).toInt
def lsl (x y : Int) : Int := (i64 x <<< ((i32 y).toInt64 &&& 63)).toInt
theorem i32_and (x y : Int) : i32 x &&& i32 y = i32 (ian x y) := (i32_of _).symm
theorem i32_or (x y : Int) : i32 x ||| i32 y = i32 (iro x y) := (i32_of _).symm
theorem i32_xor (x y : Int) : i32 x ^^^ i32 y = i32 (ixr x y) := (i32_of _).symm
theorem i32_shl (x y : Int) : i32 x <<< (i32 y &&& 31) = i32 (isl x y) := (i32_of _).symm
theorem i32_shr (x y : Int) : i32 x >>> (i32 y &&& 31) = i32 (isr x y) := (i32_of _).symm
theorem i32_ushr (x y : Int) : ((i32 x).toUInt32 >>> ((i32 y).toUInt32 &&& Int32.toUInt32 31)).toInt32 = i32 (ius x y) := (i32_of _).symm
theorem i32_b8 (x : Int) : (i32 x).toInt8.toInt32 = i32 (ib8 x) := (i32_of _).symm
theorem i32_s16 (x : Int) : (i32 x).toInt16.toInt32 = i32 (is16 x) := (i32_of _).symm
theorem i32_c16 (x : Int) : ((i32 x).toUInt32 % 65536).toInt32 = i32 (ic16 x) := (i32_of _).symm
theorem i64_or (x y : Int) : i64 x ||| i64 y = i64 (lro x y) := (i64_of _).symm
theorem i64_shl (x y : Int) : i64 x <<< ((i32 y).toInt64 &&& 63) = i64 (lsl x y) := (i64_of _).symm
theorem i64_i2l (x : Int) : (i32 x).toInt64 = i64 (w32 x) := by
  apply Int64.toInt_inj.mp
  rw [Int32.toInt_toInt64, i32_toInt, i64_toInt, w64_32]
theorem i32_l2i (x : Int) : (i64 x).toInt32 = i32 x := Int64.toInt32_ofInt
theorem i32_in {i : Int} {n : Nat} : vp_in (i32 i) n ↔ (0 ≤ w32 i ∧ w32 i < (n : Int)) := by rw [vp_in_iff, i32_toInt]
/-! the memory of the pure side: cell, place, number -/
abbrev Mem : Type := Nat → Nat → Int
def st (σ : Mem) (k j : Nat) (v : Int) : Mem := fun a b => if a = k ∧ b = j then v else σ a b
theorem st_row_ne {σ : Mem} {k j a : Nat} {v : Int} (h : a ≠ k) : st σ k j v a = σ a := by
  funext b
  simp [st, h]
theorem st_row (σ : Mem) (k j : Nat) (v : Int) : st σ k j v k = fun b => if b = j then v else σ k b := by
  funext b
  simp [st]
def cpy (σ : Mem) (a i b j n : Nat) : Mem := fun k q => if k = b ∧ j ≤ q ∧ q < j + n then σ a (i + (q - j)) else σ k q
/-- what System.arraycopy asks -/
def acg (n0 n1 : Nat) (i j n : Int) : Prop := 0 ≤ w32 i ∧ 0 ≤ w32 j ∧ 0 ≤ w32 n ∧ (w32 i).toNat + (w32 n).toNat ≤ n0 ∧ (w32 j).toNat + (w32 n).toNat ≤ n1
def ac {α : Type} (n0 n1 : Nat) (i j n : Int) (k : Option α) : Option α := if 0 ≤ w32 i ∧ 0 ≤ w32 j ∧ 0 ≤ w32 n ∧ (w32 i).toNat + (w32 n).toNat ≤ n0 ∧ (w32 j).toNat + (w32 n).toNat ≤ n1 then k else none
theorem ac_inv {α : Type} {n0 n1 : Nat} {i j n : Int} {k : Option α} {r : α} (h : ac n0 n1 i j n k = some r) : acg n0 n1 i j n ∧ k = some r := by
  unfold ac at h
  split at h
  · exact ⟨by assumption, h⟩
  · cases h
/-! combinators: each is none where the machine would throw -/
def ag {α : Type} (n : Nat) (i : Int) (k : Nat → Option α) : Option α := if 0 ≤ w32 i ∧ w32 i < (n : Int) then k (w32 i).toNat else none
def dg {α : Type} (y : Int) (k : Option α) : Option α := if w32 y = 0 then none else k
def bg {α : Type} (x : Int) (k : Option α) : Option α := if w32 x = 0 ∨ w32 x = 1 then k else none
def lt {α β : Type} (v : α) (k : α → Option β) : Option β := k v
def bd {α β : Type} (x : Option α) (k : α → Option β) : Option β := match x with
  | none => none
  | some a => k a
def bd2 {α β γ : Type} (x : Option (α × β)) (k : α → β → Option γ) : Option γ := match x with
  | none => none
  | some q => k q.1 q.2
theorem ag_inv {α : Type} {n : Nat} {i : Int} {k : Nat → Option α} {r : α} (h : ag n i k = some r) : ∃ j, (0 ≤ w32 i ∧ w32 i < (n : Int)) ∧ (w32 i).toNat = j ∧ j < n ∧ k j = some r := by
  unfold ag at h
  split at h
  · rename_i hi
    exact ⟨(w32 i).toNat, hi, rfl, by omega, h⟩
  · cases h
theorem dg_inv {α : Type} {y : Int} {k : Option α} {r : α} (h : dg y k = some r) : (¬ w32 y = 0) ∧ k = some r := by
  unfold dg at h
  split at h
  · cases h
  · exact ⟨by assumption, h⟩
theorem bg_inv {α : Type} {x : Int} {k : Option α} {r : α} (h : bg x k = some r) : (w32 x = 0 ∨ w32 x = 1) ∧ k = some r := by
  unfold bg at h
  split at h
  · exact ⟨by assumption, h⟩
  · cases h
theorem lt_inv {α β : Type} {v : α} {k : α → Option β} {r : β} (h : lt v k = some r) : ∃ x, v = x ∧ k x = some r := ⟨v, rfl, h⟩
theorem bd_inv {α β : Type} {x : Option α} {k : α → Option β} {r : β} (h : bd x k = some r) : ∃ a, x = some a ∧ k a = some r := by
  cases x with
  | none => cases h
  | some a => exact ⟨a, rfl, h⟩
theorem bd2_inv {α β γ : Type} {x : Option (α × β)} {k : α → β → Option γ} {r : γ} (h : bd2 x k = some r) : ∃ a b, x = some (a, b) ∧ k a b = some r := by
  cases x with
  | none => cases h
  | some q => exact ⟨q.1, q.2, rfl, h⟩
theorem it_inv {α : Type} {c : Prop} {i : Decidable c} {a b r : Option α} (hc : c) (h : (if c then a else b) = r) : a = r := (if_pos hc).symm.trans h
theorem ie_inv {α : Type} {c : Prop} {i : Decidable c} {a b r : Option α} (hc : ¬ c) (h : (if c then a else b) = r) : b = r := (if_neg hc).symm.trans h
theorem so_inv {α : Type} {a b : α} (h : some a = some b) : a = b := Option.some.inj h
theorem so2_inv {α β : Type} {a c : α} {b d : β} (h : some (a, b) = some (c, d)) : a = c ∧ b = d := by cases h; exact ⟨rfl, rfl⟩
