/-! words -/
def spW (B : Nat → Int) (s L w : Nat) : Prop := L = sLen.getD w 0 ∧ ∀ i, i < sLen.getD w 0 → B (s + i) = sch w i
def WC (B : Nat → Int) (s L : Nat) (c : Int) : Prop := (∃ w : Nat, w < 7 ∧ c = (w : Int) ∧ spW B s L w ∧ ∀ v, v < w → ¬ spW B s L v) ∨ (c = 7 ∧ ∀ w, w < 7 → ¬ spW B s L w)
theorem WC_eq {B : Nat → Int} {s L : Nat} {c d : Int} (h1 : WC B s L c) (h2 : WC B s L d) : c = d := by
  rcases h1 with ⟨w, a1, a2, a3, a4⟩ | ⟨a1, a2⟩
  · rcases h2 with ⟨v, b1, b2, b3, b4⟩ | ⟨b1, b2⟩
    · rcases Nat.lt_trichotomy w v with x | x | x
      · exact absurd a3 (b4 w x)
      · rw [a2, b2, x]
      · exact absurd b3 (a4 v x)
    · exact absurd a3 (b2 w a1)
  · rcases h2 with ⟨v, b1, b2, b3, b4⟩ | ⟨b1, b2⟩
    · exact absurd b3 (a2 v b1)
    · rw [a1, b1]
theorem sLen_in : ∀ w : Fin 7, 4 ≤ sLen.getD w 0 ∧ sLen.getD w 0 ≤ 6 := by decide
theorem sch_in : ∀ w : Fin 7, ∀ i : Fin 6, 0 ≤ sch w i ∧ sch w i ≤ 122 := by decide +kernel
theorem c_spellsL {B : Nat → Int} {n : Nat} {τ : Mem} (h : byR τ B n) {s w : Nat} (hw : w < 7) (hs : s + sLen.getD w 0 ≤ n) : ∀ (m i f : Nat), i + m = sLen.getD w 0 → m < f → (∀ j, j < i → B (s + j) = sch w j) → (∀ j, s ≤ j → j < s + sLen.getD w 0 → 0 ≤ B j ∧ B j < 128) → ∃ v, X8_spells_L15 τ f s w i = some v ∧ (((∀ j, j < sLen.getD w 0 → B (s + j) = sch w j) ∧ v = 1) ∨ (¬ (∀ j, j < sLen.getD w 0 → B (s + j) = sch w j) ∧ v = 0)) := by
  obtain ⟨h1, h2, h3⟩ := id h
  have hl : 4 ≤ sLen.getD w 0 ∧ sLen.getD w 0 ≤ 6 := sLen_in ⟨w, hw⟩
  intro m
  induction m with
  | zero =>
    intro i f a b c d
    obtain ⟨f, rfl⟩ : ∃ x, f = x + 1 := ⟨f - 1, by omega⟩
    refine ⟨1, ?_, Or.inl ⟨fun j hj => c j (by omega), rfl⟩⟩
    show X8_spells_B15 _ _ _ _ _ = _
    unfold X8_spells_B15 sln
    rw [if_pos (by first | omega | (unfold w32; omega))]
  | succ m ih =>
    intro i f a b c d
    obtain ⟨f, rfl⟩ : ∃ x, f = x + 1 := ⟨f - 1, by omega⟩
    have hb := h3 (s + i) (by omega)
    have hd := d (s + i) (by omega) (by omega)
    have ec : τ 43 (s + i) = B (s + i) := by omega
    have hc : 0 ≤ sch w i ∧ sch w i ≤ 122 := sch_in ⟨w, hw⟩ ⟨i, by omega⟩
    have e : X8_spells_L15 τ (f + 1) s w i = if B (s + i) = sch w i then X8_spells_L15 τ f s w ((i + 1 : Nat) : Int) else some 0 := by
      show X8_spells_B15 _ _ _ _ _ = _
      unfold X8_spells_B15 sln
      rw [if_neg (by first | omega | (unfold w32; omega)), show (s : Int) + i = ((s + i : Nat) : Int) by omega, ag_nat (by omega) (by decide), ag_nat (by omega) (by omega), ec, lt_v]
      by_cases x : B (s + i) = sch w i
      · rw [if_pos (by rw [x]), if_pos x]; rfl
      · rw [if_neg (by rw [w32_id (by omega) (by omega), w32_id (by omega) (by omega)]; exact x), if_neg x]
    rw [e]
    by_cases x : B (s + i) = sch w i
    · rw [if_pos x]
      exact ih (i + 1) f (by omega) (by omega) (fun j hj => by
        by_cases hji : j = i
        · rw [hji]; exact x
        · exact c j (by omega)) d
    · rw [if_neg x]
      exact ⟨0, rfl, Or.inr ⟨fun q => x (q i (by omega)), rfl⟩⟩
theorem c_spells {B : Nat → Int} {n : Nat} {τ : Mem} (h : byR τ B n) {s L w : Nat} (hw : w < 7) (hs : s + L ≤ n) (hd : ∀ j, s ≤ j → j < s + L → 0 ≤ B j ∧ B j < 128) : ∃ v, X8_spells τ s ((s + L : Nat) : Int) w = some v ∧ ((spW B s L w ∧ v = 1) ∨ (¬ spW B s L w ∧ v = 0)) := by
  obtain ⟨h1, h2, h3⟩ := id h
  have hl : 4 ≤ sLen.getD w 0 ∧ sLen.getD w 0 ≤ 6 := sLen_in ⟨w, hw⟩
  unfold X8_spells sln
  rw [show ((s + L : Nat) : Int) - s = (L : Int) by omega]
  by_cases c : L = sLen.getD w 0
  · rw [if_pos (by rw [c])]
    obtain ⟨v, v1, v2⟩ := c_spellsL h hw (by omega) (sLen.getD w 0) 0 5000 (by omega) (by omega) (fun j hj => by omega) (fun j j1 j2 => hd j j1 (by omega))
    refine ⟨v, v1, ?_⟩
    rcases v2 with ⟨a, b⟩ | ⟨a, b⟩
    · exact Or.inl ⟨⟨c, a⟩, b⟩
    · exact Or.inr ⟨fun q => a q.2, b⟩
  · rw [if_neg (by rw [w32_id (by omega) (by omega), w32_id (by omega) (by omega)]; omega)]
    exact ⟨0, rfl, Or.inr ⟨fun q => c q.1, rfl⟩⟩
theorem c_word {B : Nat → Int} {n : Nat} {τ : Mem} (h : byR τ B n) {s L : Nat} (hs : s + L ≤ n) (hd : ∀ j, s ≤ j → j < s + L → 0 ≤ B j ∧ B j < 128) : ∃ c, X8_wordNumber τ s ((s + L : Nat) : Int) = some c ∧ WC B s L c := by
  obtain ⟨v0, a0, b0⟩ := c_spells h (w := 0) (by omega) hs hd
  obtain ⟨v1, a1, b1⟩ := c_spells h (w := 1) (by omega) hs hd
  obtain ⟨v2, a2, b2⟩ := c_spells h (w := 2) (by omega) hs hd
  obtain ⟨v3, a3, b3⟩ := c_spells h (w := 3) (by omega) hs hd
  obtain ⟨v4, a4, b4⟩ := c_spells h (w := 4) (by omega) hs hd
  obtain ⟨v5, a5, b5⟩ := c_spells h (w := 5) (by omega) hs hd
  obtain ⟨v6, a6, b6⟩ := c_spells h (w := 6) (by omega) hs hd
  unfold X8_wordNumber
  rw [bdk a0]
  rcases b0 with ⟨p0, q0⟩ | ⟨p0, q0⟩
  · rw [q0, if_neg (by decide)]
    exact ⟨0, rfl, Or.inl ⟨0, by omega, rfl, p0, fun v hv => by omega⟩⟩
  · rw [q0, if_pos (by decide), bdk a1]
    rcases b1 with ⟨p1, q1⟩ | ⟨p1, q1⟩
    · rw [q1, if_neg (by decide)]
      refine ⟨1, rfl, Or.inl ⟨1, by omega, rfl, p1, fun v hv => ?_⟩⟩
      rw [show v = 0 by omega]; exact p0
    · rw [q1, if_pos (by decide), bdk a2]
      rcases b2 with ⟨p2, q2⟩ | ⟨p2, q2⟩
      · rw [q2, if_neg (by decide)]
        refine ⟨2, rfl, Or.inl ⟨2, by omega, rfl, p2, fun v hv => ?_⟩⟩
        rcases (by omega : v = 0 ∨ v = 1) with rfl | rfl <;> assumption
      · rw [q2, if_pos (by decide), bdk a3]
        rcases b3 with ⟨p3, q3⟩ | ⟨p3, q3⟩
        · rw [q3, if_neg (by decide)]
          refine ⟨3, rfl, Or.inl ⟨3, by omega, rfl, p3, fun v hv => ?_⟩⟩
          rcases (by omega : v = 0 ∨ v = 1 ∨ v = 2) with rfl | rfl | rfl <;> assumption
        · rw [q3, if_pos (by decide), bdk a4]
          rcases b4 with ⟨p4, q4⟩ | ⟨p4, q4⟩
          · rw [q4, if_neg (by decide)]
            refine ⟨4, rfl, Or.inl ⟨4, by omega, rfl, p4, fun v hv => ?_⟩⟩
            rcases (by omega : v = 0 ∨ v = 1 ∨ v = 2 ∨ v = 3) with rfl | rfl | rfl | rfl <;> assumption
          · rw [q4, if_pos (by decide), bdk a5]
            rcases b5 with ⟨p5, q5⟩ | ⟨p5, q5⟩
            · rw [q5, if_neg (by decide)]
              refine ⟨5, rfl, Or.inl ⟨5, by omega, rfl, p5, fun v hv => ?_⟩⟩
              rcases (by omega : v = 0 ∨ v = 1 ∨ v = 2 ∨ v = 3 ∨ v = 4) with rfl | rfl | rfl | rfl | rfl <;> assumption
            · rw [q5, if_pos (by decide), bdk a6]
              rcases b6 with ⟨p6, q6⟩ | ⟨p6, q6⟩
              · rw [q6, if_neg (by decide)]
                refine ⟨6, rfl, Or.inl ⟨6, by omega, rfl, p6, fun v hv => ?_⟩⟩
                rcases (by omega : v = 0 ∨ v = 1 ∨ v = 2 ∨ v = 3 ∨ v = 4 ∨ v = 5) with rfl | rfl | rfl | rfl | rfl | rfl <;> assumption
              · rw [q6, if_pos (by decide)]
                refine ⟨7, rfl, Or.inr ⟨rfl, fun v hv => ?_⟩⟩
                rcases (by omega : v = 0 ∨ v = 1 ∨ v = 2 ∨ v = 3 ∨ v = 4 ∨ v = 5 ∨ v = 6) with rfl | rfl | rfl | rfl | rfl | rfl | rfl <;> assumption
/-! the reference's words: letters of five bits -/
def vfd (B : Nat → Int) : Nat → Nat → Int → Int
  | 0, _, a => a
  | m + 1, i, a => vfd B m (i + 1) (32 * a + (B i - 96))
theorem lsl5 {x : Nat} (hx : x < 1099511627776) : lsl (x : Int) 5 = ((32 * x : Nat) : Int) := by
  have h3 : (i64 (x : Int)).toBitVec.toNat = x := by
    show (Int64.ofInt (x : Int)).toBitVec.toNat = x
    rw [Int64.toBitVec_ofInt, BitVec.toNat_ofInt]
    show ((x : Int) % 18446744073709551616).toNat = x
    omega
  have h2 : (((i32 5).toInt64 &&& 63).toBitVec.smod 64).toNat = 5 := by decide
  have h4 : ((i64 (x : Int)).toBitVec <<< (((i32 5).toInt64 &&& 63).toBitVec.smod 64).toNat).toNat = 32 * x := by
    rw [h2, BitVec.toNat_shiftLeft, h3, Nat.shiftLeft_eq]
    show x * 32 % 18446744073709551616 = 32 * x
    omega
  unfold lsl
  show ((i64 (x : Int)).toBitVec <<< (((i32 5).toInt64 &&& 63).toBitVec.smod 64).toNat).toInt = _
  rw [BitVec.toInt_eq_toNat_of_lt (by rw [h4]; omega), h4]
theorem lro5 {x y : Nat} (hx : x < 1099511627776) (hy : y < 32) : lro ((32 * x : Nat) : Int) (y : Int) = ((32 * x + y : Nat) : Int) := by
  have h3 : ∀ x : Nat, x < 9223372036854775808 → (i64 (x : Int)).toBitVec.toNat = x := fun x hx => by
    show (Int64.ofInt (x : Int)).toBitVec.toNat = x
    rw [Int64.toBitVec_ofInt, BitVec.toNat_ofInt]
    show ((x : Int) % 18446744073709551616).toNat = x
    omega
  have h5 : (32 * x) ||| y = 32 * x + y := by
    have := Nat.shiftLeft_add_eq_or_of_lt (a := x) (b := y) (i := 5) (by omega)
    rw [Nat.shiftLeft_eq] at this
    rw [show 32 * x = x * 2 ^ 5 by omega]
    exact this.symm
  have h4 : ((i64 ((32 * x : Nat) : Int)).toBitVec ||| (i64 (y : Int)).toBitVec).toNat = 32 * x + y := by
    rw [BitVec.toNat_or, h3 _ (by omega), h3 _ (by omega), h5]
  unfold lro
  show ((i64 ((32 * x : Nat) : Int)).toBitVec ||| (i64 (y : Int)).toBitVec).toInt = _
  rw [BitVec.toInt_eq_toNat_of_lt (by rw [h4]; omega), h4]
