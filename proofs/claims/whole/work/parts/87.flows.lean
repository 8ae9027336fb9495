/-! a laying without a stop -/
theorem bst_le {x y : Option T4} {w : T4} (h : x = some w ∨ y = some w) : ∃ u, bst x y = some u ∧ u.1 ≤ w.1 := by
  cases x with
  | none =>
    rcases h with h | h
    · cases h
    · exact ⟨w, h, by omega⟩
  | some a =>
    cases y with
    | none =>
      rcases h with h | h
      · exact ⟨w, h, by omega⟩
      · cases h
    | some b =>
      by_cases c : b.1 < a.1 ∨ b.1 = a.1 ∧ (b.2.1 < a.2.1 ∨ b.2.1 = a.2.1 ∧ b.2.2.1 < a.2.2.1)
      · refine ⟨b, if_pos c, ?_⟩
        rcases h with h | h
        · rw [← Option.some.inj h]; omega
        · rw [← Option.some.inj h]; omega
      · refine ⟨a, if_neg c, ?_⟩
        rcases h with h | h
        · rw [← Option.some.inj h]; omega
        · rw [← Option.some.inj h]; omega
theorem bfl_le {f : Nat → Option T4} : ∀ (n k : Nat) (x : Option T4) (w : T4), (x = some w ∨ ∃ j, k ≤ j ∧ j < k + n ∧ f j = some w) → ∃ u, bfl f n k x = some u ∧ u.1 ≤ w.1
  | 0, k, x, w, h => by
    rcases h with h | ⟨j, j1, j2, _⟩
    · exact ⟨w, h, by omega⟩
    · omega
  | n + 1, k, x, w, h => by
    rcases h with h | ⟨j, j1, j2, j3⟩
    · obtain ⟨u, u1, u2⟩ := bst_le (y := f k) (Or.inl h)
      obtain ⟨v, v1, v2⟩ := bfl_le n (k + 1) (bst x (f k)) u (Or.inl u1)
      exact ⟨v, v1, by omega⟩
    · by_cases hj : j = k
      · rw [hj] at j3
        obtain ⟨u, u1, u2⟩ := bst_le (x := x) (Or.inr j3)
        obtain ⟨v, v1, v2⟩ := bfl_le n (k + 1) (bst x (f k)) u (Or.inl u1)
        exact ⟨v, v1, by omega⟩
      · exact bfl_le n (k + 1) (bst x (f k)) w (Or.inr ⟨j, by omega, by omega, j3⟩)
def nf (N : Nat) (pk : Nat → Nat → Option Int) (pp : Int) (tn sp : Nat → Bool) (g b : Nat) : Prop := ∃ w, bW N pk pp tn sp g b = some w ∧ w.1 = 0
section
variable {N : Nat} {pk : Nat → Nat → Option Int} {pp : Int} {tn sp : Nat → Bool}
theorem nf_end {g b : Nat} (h : N ≤ b) : nf N pk pp tn sp g b := ⟨(0, 0, 0, 0), bW_end h, rfl⟩
theorem nf_step (hpk : ∀ b k, b ≤ k → k < N → bnd (pk b k)) (hpp : 0 ≤ pp ∧ pp ≤ 999) {g b : Nat} (hb : b < N) : nf N pk pp tn sp g b ↔ ∃ k, b ≤ k ∧ k < N ∧ pk b k ≠ none ∧ ¬ (k + 1 < N ∧ tn g = true ∧ sp k = true) ∧ nf N pk pp tn sp (g + 1) (k + 1) := by
  constructor
  · rintro ⟨w, h1, h2⟩
    obtain ⟨v, u, k, k1, k2, k3, k4, k5⟩ := bW_sel hb h1
    have i := bW_in hpk hpp 0 0 N (g + 1) (k + 1) u (by omega) k4
    rw [k5] at h2
    simp only at h2
    refine ⟨k, k1, k2, by rw [k3]; simp, ?_, u, k4, ?_⟩
    · intro c
      rw [if_pos c] at h2
      omega
    · split at h2 <;> omega
  · rintro ⟨k, k1, k2, k3, k4, u, u1, u2⟩
    cases hv : pk b k with
    | none => exact absurd hv k3
    | some v =>
      have hc : cnd N pk pp tn sp g b k (bW N pk pp tn sp (g + 1) (k + 1)) = some (u.1 + (if k + 1 < N ∧ tn g = true ∧ sp k = true then 1 else 0), v / 4 + pp + u.2.1, 1 + u.2.2.1, k) := by
        rw [u1]; unfold cnd; rw [hv]
      obtain ⟨w, w1, w2⟩ := bfl_le (f := fun k => cnd N pk pp tn sp g b k (bW N pk pp tn sp (g + 1) (k + 1))) (N - b) b none _ (Or.inr ⟨k, k1, by omega, hc⟩)
      rw [← bW_eq hb] at w1
      have i := bW_in hpk hpp 0 0 N g b w (by omega) w1
      rw [if_neg k4] at w2
      simp only at w2
      exact ⟨w, w1, by omega⟩
theorem nf_q (ht : ∀ g, tn (qst g) = tn g) (g b : Nat) : nf N pk pp tn sp (qst g) b ↔ nf N pk pp tn sp g b := by
  unfold nf
  rw [bW_q ht]
end
/-! sets of twelve states -/
theorem isl_nn {x k : Nat} (hk : k < 32) (hx : x * 2 ^ k < 2147483648) (hx2 : x < 2147483648) : isl (x : Int) k = ((x * 2 ^ k : Nat) : Int) := by
  have h1 : ∀ k : Fin 32, ((i32 ((k : Nat) : Int) &&& 31).toBitVec.smod 32).toNat = (k : Nat) := by decide
  have h2 : ((i32 (k : Int) &&& 31).toBitVec.smod 32).toNat = k := h1 ⟨k, hk⟩
  have h3 : (i32 (x : Int)).toBitVec.toNat = x := by
    rw [i32_bv, BitVec.toNat_ofInt]
    show ((x : Int) % 4294967296).toNat = x
    omega
  have h4 : ((i32 (x : Int)).toBitVec <<< ((i32 (k : Int) &&& 31).toBitVec.smod 32).toNat).toNat = x * 2 ^ k := by
    rw [h2, BitVec.toNat_shiftLeft, h3, Nat.shiftLeft_eq]
    exact Nat.mod_eq_of_lt (by omega)
  unfold isl
  show ((i32 (x : Int)).toBitVec <<< ((i32 (k : Int) &&& 31).toBitVec.smod 32).toNat).toInt = _
  rw [BitVec.toInt_eq_toNat_of_lt (by rw [h4]; omega), h4]
theorem fst12_bit {x q : Nat} (hx : x < 4096) : (fst12 x).testBit q = true ↔ ∃ j, j < 12 ∧ x.testBit j = true ∧ qst (j + 1) = q := by
  have h11 : ∀ j, 12 ≤ j → x.testBit j = false := fun j hj => Nat.testBit_lt_two_pow (Nat.lt_of_lt_of_le hx (by
    show 2 ^ 12 ≤ 2 ^ j
    exact Nat.pow_le_pow_right (by omega) hj))
  have h4095 : ∀ q, Nat.testBit 4095 q = decide (q < 12) := fun q => by
    have := Nat.testBit_two_pow_sub_one 12 q
    exact this
  have h2x : (2 * x).testBit q = (decide (1 ≤ q) && x.testBit (q - 1)) := by
    rw [Nat.mul_comm, show x * 2 = x <<< 1 by rw [Nat.shiftLeft_eq], Nat.testBit_shiftLeft]
  unfold fst12
  rw [Nat.testBit_or, Nat.testBit_and, h4095, h2x]
  have h1024 : ∀ q, (if x.testBit 11 = true then 1024 else 0 : Nat).testBit q = (x.testBit 11 && decide (q = 10)) := fun q => by
    cases hb : x.testBit 11
    · simp
    · have : Nat.testBit 1024 q = decide (10 = q) := by
        have := Nat.testBit_two_pow (n := 10) (m := q)
        exact this
      simp only [if_true, Bool.true_and]
      rw [this]
      by_cases c : q = 10
      · simp [c]
      · simp [c]; omega
  rw [h1024]
  constructor
  · intro h
    simp only [Bool.or_eq_true, Bool.and_eq_true, decide_eq_true_eq] at h
    rcases h with ⟨⟨h1, h2⟩, h3⟩ | ⟨h1, h2⟩
    · refine ⟨q - 1, by omega, h2, ?_⟩
      unfold qst
      rw [if_pos (by omega)]
      omega
    · refine ⟨11, by omega, h1, ?_⟩
      rw [h2]; rfl
  · rintro ⟨j, j1, j2, j3⟩
    simp only [Bool.or_eq_true, Bool.and_eq_true, decide_eq_true_eq]
    unfold qst at j3
    by_cases c : j + 1 < 12
    · rw [if_pos c] at j3
      refine Or.inl ⟨⟨by omega, ?_⟩, by omega⟩
      rw [show q - 1 = j by omega]; exact j2
    · rw [if_neg c] at j3
      have : j = 11 := by omega
      rw [this] at j2 j3
      exact Or.inr ⟨j2, by omega⟩
theorem fst12_lt {x : Nat} : fst12 x < 4096 := by
  have h1 : (2 * x) &&& 4095 < 2 ^ 12 := Nat.lt_of_le_of_lt Nat.and_le_right (by decide)
  have h2 : (if x.testBit 11 = true then 1024 else 0 : Nat) < 2 ^ 12 := by split <;> decide
  exact Nat.or_lt_two_pow h1 h2
theorem c_followingSet {σ : Mem} {x : Nat} (hx : x < 4096) : X1_followingSet σ x = some ((fst12 x : Nat) : Int) := by
  have e1 : ian (isr (x : Int) 11) 1 = if x.testBit 11 = true then 1 else 0 := bit_nat (k := 11) (by omega) (by decide)
  have e2 : isl (x : Int) 1 = ((2 * x : Nat) : Int) := by
    have := isl_nn (x := x) (k := 1) (by omega) (by omega) (by omega)
    rw [show x * 2 ^ 1 = 2 * x by omega] at this
    exact this
  have e3 : ian ((2 * x : Nat) : Int) 4095 = (((2 * x) &&& 4095 : Nat) : Int) := ian_nn (y := 4095) (by omega) (by decide)
  have e4 : isl (if x.testBit 11 = true then 1 else 0) 10 = (((if x.testBit 11 = true then 1024 else 0 : Nat)) : Int) := by
    split
    · decide
    · decide
  have h1 : (2 * x) &&& 4095 < 4096 := Nat.lt_of_le_of_lt Nat.and_le_right (by decide)
  unfold X1_followingSet
  rw [lt_v, e1, e2, e3, e4, iro_nn (by omega) (by split <;> omega)]
  rfl
theorem ian_not {s t : Nat} (hs : s < 2147483648) (ht : t < 2147483648) : ian (s : Int) (ixr (t : Int) (-1)) = ((s &&& (4294967295 ^^^ t) : Nat) : Int) := by
  have h1 : (i32 (t : Int)).toBitVec.toNat = t := by
    rw [i32_bv, BitVec.toNat_ofInt]
    show ((t : Int) % 4294967296).toNat = t
    omega
  have h2 : (i32 (-1 : Int)).toBitVec.toNat = 4294967295 := by decide
  have h3 : (ixr (t : Int) (-1) % 4294967296).toNat = 4294967295 ^^^ t := by
    have h4 : ((i32 (t : Int)).toBitVec ^^^ (i32 (-1 : Int)).toBitVec).toNat = 4294967295 ^^^ t := by
      rw [BitVec.toNat_xor, h1, h2, Nat.xor_comm]
    have h5 : ixr (t : Int) (-1) = ((i32 (t : Int)).toBitVec ^^^ (i32 (-1 : Int)).toBitVec).toInt := rfl
    have h6 := BitVec.toInt_eq_toNat_cond ((i32 (t : Int)).toBitVec ^^^ (i32 (-1 : Int)).toBitVec)
    have h7 := ((i32 (t : Int)).toBitVec ^^^ (i32 (-1 : Int)).toBitVec).isLt
    rw [h5, h6, h4]
    rw [h4] at h7
    split <;> omega
  have h8 := ian_nat (ixr (t : Int) (-1)) s hs
  rw [h3] at h8
  have h9 : ian (s : Int) (ixr (t : Int) (-1)) = ian (ixr (t : Int) (-1)) (s : Int) := by
    unfold ian
    rw [Int32.and_comm]
  rw [h9, h8, Nat.and_comm]
theorem not_bit {s t q : Nat} (hq : q < 12) : (s &&& (4294967295 ^^^ t)).testBit q = (s.testBit q && !t.testBit q) := by
  have h2 : ∀ q : Fin 12, Nat.testBit 4294967295 q = true := by decide
  rw [Nat.testBit_and, Nat.testBit_xor, h2 ⟨q, hq⟩]
  cases t.testBit q <;> rfl
