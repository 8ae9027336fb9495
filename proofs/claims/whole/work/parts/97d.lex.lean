/-! tokens of a tape: bytes B, n of them -/
def run1 (P : Nat → Bool) : Nat → Nat → Nat
  | 0, i => i
  | f + 1, i => if P i = true then run1 P f (i + 1) else i
def pS (B : Nat → Int) (n j : Nat) : Bool := decide (j < n) && decide (B j = 32)
def pL (B : Nat → Int) (n j : Nat) : Bool := decide (j < n) && decide (97 ≤ B j ∧ B j ≤ 122)
def pD (B : Nat → Int) (n j : Nat) : Bool := decide (j < n) && decide (48 ≤ B j ∧ B j ≤ 57)
def nsp (B : Nat → Int) (n i : Nat) : Nat := run1 (pS B n) (n - i) i
def tE (B : Nat → Int) (n i : Nat) : Nat := if pL B n i = true then run1 (pL B n) (n - i) i else if pD B n i = true then run1 (pD B n) (n - i) i else if i < n then i + 1 else i
def tS (B : Nat → Int) (n : Nat) : Nat → Nat
  | 0 => nsp B n 0
  | k + 1 => nsp B n (tE B n (tS B n k))
def kdP (B : Nat → Int) (n s : Nat) : Int := if n ≤ s then 0 else if pL B n s = true then 1 else if pD B n s = true then 2 else if B s = 40 then 3 else if B s = 41 then 4 else 5
theorem run1_in (P : Nat → Bool) : ∀ f i, i ≤ run1 P f i ∧ run1 P f i ≤ i + f
  | 0, i => ⟨Nat.le_refl _, Nat.le_refl _⟩
  | f + 1, i => by
    have := run1_in P f (i + 1)
    unfold run1
    split <;> omega
theorem run1_ge {P : Nat → Bool} (f i : Nat) (h : P i = true) : run1 P (f + 1) i = run1 P f (i + 1) := if_pos h
theorem run1_stop {P : Nat → Bool} (f i : Nat) (h : ¬ P i = true) : run1 P f i = i := by
  cases f with
  | zero => rfl
  | succ f => exact if_neg h
section
variable {B : Nat → Int} {n : Nat}
theorem pL_lt {j : Nat} (h : pL B n j = true) : j < n := by
  unfold pL at h
  rw [Bool.and_eq_true] at h
  exact of_decide_eq_true h.1
theorem pD_lt {j : Nat} (h : pD B n j = true) : j < n := by
  unfold pD at h
  rw [Bool.and_eq_true] at h
  exact of_decide_eq_true h.1
theorem pS_lt {j : Nat} (h : pS B n j = true) : j < n := by
  unfold pS at h
  rw [Bool.and_eq_true] at h
  exact of_decide_eq_true h.1
theorem nsp_in {i : Nat} (h : i ≤ n) : i ≤ nsp B n i ∧ nsp B n i ≤ n := by
  have := run1_in (pS B n) (n - i) i
  unfold nsp
  omega
theorem nsp_step {i : Nat} (h : pS B n i = true) : nsp B n i = nsp B n (i + 1) := by
  have hl := pS_lt h
  unfold nsp
  rw [show n - i = (n - (i + 1)) + 1 by omega, run1_ge _ _ h]
theorem nsp_stop {i : Nat} (h : ¬ pS B n i = true) : nsp B n i = i := run1_stop _ _ h
theorem nsp_end : nsp B n n = n := by unfold nsp; rw [Nat.sub_self]; rfl
theorem tE_in {i : Nat} (h : i < n) : i < tE B n i ∧ tE B n i ≤ n := by
  unfold tE
  split
  · rename_i c
    have := run1_in (pL B n) (n - i - 1) (i + 1)
    rw [show n - i = (n - i - 1) + 1 by omega, run1_ge _ _ c]
    omega
  · split
    · rename_i c
      have := run1_in (pD B n) (n - i - 1) (i + 1)
      rw [show n - i = (n - i - 1) + 1 by omega, run1_ge _ _ c]
      omega
    · omega
theorem tE_end {i : Nat} (h : n ≤ i) : tE B n i = i := by
  unfold tE
  rw [if_neg (fun c => by have := pL_lt c; omega), if_neg (fun c => by have := pD_lt c; omega), if_neg (by omega)]
theorem tS_le : ∀ k, tS B n k ≤ n
  | 0 => (nsp_in (Nat.zero_le n)).2
  | k + 1 => by
    have ih := tS_le k
    by_cases h : tS B n k < n
    · exact (nsp_in (tE_in h).2).2
    · show nsp B n (tE B n (tS B n k)) ≤ n
      rw [tE_end (by omega), show tS B n k = n by omega, nsp_end]
      exact Nat.le_refl n
theorem tS_mono (k : Nat) : (tS B n k < n → tS B n k < tS B n (k + 1)) ∧ (tS B n k = n → tS B n (k + 1) = n) := by
  constructor
  · intro h
    have h1 := tE_in (B := B) h
    have h2 := nsp_in (B := B) h1.2
    show _ < nsp B n (tE B n (tS B n k))
    omega
  · intro h
    show nsp B n (tE B n (tS B n k)) = n
    rw [h, tE_end (Nat.le_refl n), nsp_end]
theorem tS_ge : ∀ k, tS B n k = n ∨ k ≤ tS B n k
  | 0 => Or.inr (Nat.zero_le _)
  | k + 1 => by
    have h := tS_mono (B := B) (n := n) k
    rcases tS_ge k with c | c
    · exact Or.inl (h.2 c)
    · by_cases d : tS B n k < n
      · have := h.1 d
        exact Or.inr (by omega)
      · have := tS_le (B := B) (n := n) k
        exact Or.inl (h.2 (by omega))
theorem tS_stay {k : Nat} (h : tS B n k = n) : ∀ j, tS B n (k + j) = n
  | 0 => h
  | j + 1 => (tS_mono (k + j)).2 (tS_stay h j)
end
/-! the class's bytes -/
def byR (τ : Mem) (B : Nat → Int) (n : Nat) : Prop := τ 42 1 = n ∧ n ≤ 120 ∧ ∀ i, i < n → B i = τ 43 i % 256 ∧ -128 ≤ τ 43 i ∧ τ 43 i < 128
section
variable {B : Nat → Int} {n : Nat} {τ : Mem}
theorem c_isLetter (h : byR τ B n) {i : Nat} (hi : i < n) : X8_isLetter τ i = some (if pL B n i = true then 1 else 0) := by
  obtain ⟨h1, h2, h3⟩ := h
  have hb := h3 i hi
  have e : pL B n i = true ↔ 97 ≤ τ 43 i ∧ τ 43 i ≤ 122 := by
    unfold pL
    rw [Bool.and_eq_true, decide_eq_true_eq, decide_eq_true_eq]
    omega
  unfold X8_isLetter
  rw [ag_nat (by omega) (by decide)]
  by_cases c1 : τ 43 i < 97
  · rw [if_pos (by first | omega | (unfold w32; omega)), if_neg (fun c => by have := e.mp c; omega)]
  · rw [if_neg (by first | omega | (unfold w32; omega)), ag_nat (by omega) (by decide)]
    by_cases c2 : 122 < τ 43 i
    · rw [if_pos (by first | omega | (unfold w32; omega)), if_neg (fun c => by have := e.mp c; omega)]
    · rw [if_neg (by first | omega | (unfold w32; omega)), if_pos (e.mpr (by omega))]
theorem c_isDigit (h : byR τ B n) {i : Nat} (hi : i < n) : X8_isDigit τ i = some (if pD B n i = true then 1 else 0) := by
  obtain ⟨h1, h2, h3⟩ := h
  have hb := h3 i hi
  have e : pD B n i = true ↔ 48 ≤ τ 43 i ∧ τ 43 i ≤ 57 := by
    unfold pD
    rw [Bool.and_eq_true, decide_eq_true_eq, decide_eq_true_eq]
    omega
  unfold X8_isDigit
  rw [ag_nat (by omega) (by decide)]
  by_cases c1 : τ 43 i < 48
  · rw [if_pos (by first | omega | (unfold w32; omega)), if_neg (fun c => by have := e.mp c; omega)]
  · rw [if_neg (by first | omega | (unfold w32; omega)), ag_nat (by omega) (by decide)]
    by_cases c2 : 57 < τ 43 i
    · rw [if_pos (by first | omega | (unfold w32; omega)), if_neg (fun c => by have := e.mp c; omega)]
    · rw [if_neg (by first | omega | (unfold w32; omega)), if_pos (e.mpr (by omega))]
theorem c_runL (h : byR τ B n) : ∀ (m i f : Nat), i + m = n → m < f → X8_behindToken_L12 τ f i = some ((run1 (pL B n) m i : Nat) : Int) := by
  obtain ⟨h1, h2, h3⟩ := id h
  intro m
  induction m with
  | zero =>
    intro i f a b
    obtain ⟨f, rfl⟩ : ∃ x, f = x + 1 := ⟨f - 1, by omega⟩
    show X8_behindToken_B12 _ _ _ = _
    unfold X8_behindToken_B12
    rw [h1, if_pos (by first | omega | (unfold w32; omega))]
    rfl
  | succ m ih =>
    intro i f a b
    obtain ⟨f, rfl⟩ : ∃ x, f = x + 1 := ⟨f - 1, by omega⟩
    show X8_behindToken_B12 _ _ _ = _
    unfold X8_behindToken_B12 run1
    rw [h1, if_neg (by first | omega | (unfold w32; omega)), bdk (c_isLetter h (by omega))]
    by_cases c : pL B n i = true
    · rw [if_pos c, if_neg (by decide), if_pos c, lt_v]
      exact ih (i + 1) f (by omega) (by omega)
    · rw [if_neg c, if_pos (by decide), if_neg c]
theorem c_runD (h : byR τ B n) : ∀ (m i f : Nat), i + m = n → m < f → X8_behindToken_L42 τ f i = some ((run1 (pD B n) m i : Nat) : Int) := by
  obtain ⟨h1, h2, h3⟩ := id h
  intro m
  induction m with
  | zero =>
    intro i f a b
    obtain ⟨f, rfl⟩ : ∃ x, f = x + 1 := ⟨f - 1, by omega⟩
    show X8_behindToken_B42 _ _ _ = _
    unfold X8_behindToken_B42
    rw [h1, if_pos (by first | omega | (unfold w32; omega))]
    rfl
  | succ m ih =>
    intro i f a b
    obtain ⟨f, rfl⟩ : ∃ x, f = x + 1 := ⟨f - 1, by omega⟩
    show X8_behindToken_B42 _ _ _ = _
    unfold X8_behindToken_B42 run1
    rw [h1, if_neg (by first | omega | (unfold w32; omega)), bdk (c_isDigit h (by omega))]
    by_cases c : pD B n i = true
    · rw [if_pos c, if_neg (by decide), if_pos c, lt_v]
      exact ih (i + 1) f (by omega) (by omega)
    · rw [if_neg c, if_pos (by decide), if_neg c]
theorem c_behind (h : byR τ B n) {i : Nat} (hi : i < n) : X8_behindToken τ i = some ((tE B n i : Nat) : Int) := by
  obtain ⟨h1, h2, h3⟩ := id h
  unfold X8_behindToken tE
  rw [lt_v, bdk (c_isLetter h hi)]
  by_cases c : pL B n i = true
  · rw [if_pos c, if_neg (by decide), if_pos c, show n - i = (n - (i + 1)) + 1 by omega, run1_ge _ _ c]
    exact c_runL h (n - (i + 1)) (i + 1) 5000 (by omega) (by omega)
  · rw [if_neg c, if_pos (by decide), if_neg c, bdk (c_isDigit h hi)]
    by_cases d : pD B n i = true
    · rw [if_pos d, if_neg (by decide), if_pos d, show n - i = (n - (i + 1)) + 1 by omega, run1_ge _ _ d]
      exact c_runD h (n - (i + 1)) (i + 1) 5000 (by omega) (by omega)
    · rw [if_neg d, if_pos (by decide), if_neg d, if_pos hi]
      rfl
end
/-! numbers -/
def cnum (B : Nat → Int) : Nat → Nat → Int → Int
  | 0, _, a => a
  | m + 1, i, a => cnum B m (i + 1) (if 10 * a + B i - 48 < 10000 then 10 * a + B i - 48 else 10000)
def rnum (B : Nat → Int) : Nat → Nat → Int → Int
  | 0, _, a => a
  | m + 1, i, a => rnum B m (i + 1) (if a ≤ 9999 then 10 * a + B i - 48 else a)
def NR (c v : Int) : Prop := (c = v ∧ 0 ≤ v ∧ v ≤ 9999) ∨ (c = 10000 ∧ 9999 < v ∧ v ≤ 100000)
theorem num_rel {B : Nat → Int} : ∀ (m i : Nat) (c v : Int), (∀ j, i ≤ j → j < i + m → 48 ≤ B j ∧ B j ≤ 57) → NR c v → NR (cnum B m i c) (rnum B m i v)
  | 0, _, _, _, _, h => h
  | m + 1, i, c, v, hb, h => by
    have b := hb i (by omega) (by omega)
    refine num_rel m (i + 1) _ _ (fun j j1 j2 => hb j (by omega) (by omega)) ?_
    rcases h with ⟨h1, h2, h3⟩ | ⟨h1, h2, h3⟩
    · rw [if_pos h3, h1]
      by_cases c1 : 10 * v + B i - 48 < 10000
      · rw [if_pos c1]
        exact Or.inl ⟨rfl, by omega, by omega⟩
      · rw [if_neg c1]
        exact Or.inr ⟨rfl, by omega, by omega⟩
    · rw [if_neg (by omega), if_neg (by omega)]
      exact Or.inr ⟨rfl, h2, h3⟩
theorem c_number {B : Nat → Int} {n : Nat} {τ : Mem} (h : byR τ B n) {e : Nat} (he : e ≤ n) : ∀ (m i f : Nat) (a : Int), i + m = e → m < f → (∀ j, i ≤ j → j < e → 48 ≤ B j ∧ B j ≤ 57) → 0 ≤ a → a ≤ 10000 → X8_numberValue_L5 τ f e a i = some (cnum B m i a) := by
  obtain ⟨h1, h2, h3⟩ := id h
  intro m
  induction m with
  | zero =>
    intro i f a b c d q1 q2
    obtain ⟨f, rfl⟩ : ∃ x, f = x + 1 := ⟨f - 1, by omega⟩
    show X8_numberValue_B5 _ _ _ _ _ = _
    unfold X8_numberValue_B5
    rw [if_pos (by first | omega | (unfold w32; omega))]
    rfl
  | succ m ih =>
    intro i f a b c d q1 q2
    obtain ⟨f, rfl⟩ : ∃ x, f = x + 1 := ⟨f - 1, by omega⟩
    have hb := h3 i (by omega)
    have hd := d i (by omega) (by omega)
    have ec : τ 43 i = B i := by omega
    have e2 : imn 10000 (a * 10 + B i - 48) = if 10 * a + B i - 48 < 10000 then 10 * a + B i - 48 else 10000 := by
      unfold imn
      rw [w32_id (by omega) (by omega), w32_id (by omega) (by omega), show a * 10 + B i - 48 = 10 * a + B i - 48 by omega]
    have k1 : 0 ≤ (if 10 * a + B i - 48 < 10000 then 10 * a + B i - 48 else 10000) ∧ (if 10 * a + B i - 48 < 10000 then 10 * a + B i - 48 else 10000) ≤ 10000 := by split <;> omega
    have k2 : i + 1 + m = e := by omega
    have k3 : m < f := by omega
    have k4 : ¬ w32 (e : Int) ≤ w32 (i : Int) := (by first | omega | (unfold w32; omega))
    have k5 : i < 120 := by omega
    have k6 : ∀ j, i + 1 ≤ j → j < e → 48 ≤ B j ∧ B j ≤ 57 := fun j j1 j2 => d j (by omega) j2
    show X8_numberValue_B5 _ _ _ _ _ = _
    unfold X8_numberValue_B5
    rw [if_neg k4, ag_nat k5 (by decide), lt_v, lt_v, ec, e2]
    exact ih (i + 1) f _ k2 k3 k6 k1.1 k1.2
