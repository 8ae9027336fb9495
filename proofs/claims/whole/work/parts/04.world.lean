def TB : List Cond := lw_tbl.filter goodWord
theorem tb {w : Cond} (h : w ∈ lw_tbl) (hg : goodWord w = true) : w ∈ TB := List.mem_filter.mpr ⟨h, hg⟩
theorem TB_good {w : Cond} (h : w ∈ TB) : (w.onTables && w.keeps) = true ∨ ∃ ty, w = .arrayClass ty := good_of_word (List.mem_filter.mp h).2
theorem TB_in {a b : Cond} (h : b ∈ TB) : GoodIn (a :: TB) (b :: TB) := by
  intro w hw
  rcases List.mem_cons.mp hw with rfl | hw
  · exact ⟨List.mem_cons_of_mem _ h, TB_good h⟩
  · exact ⟨List.mem_cons_of_mem _ hw, TB_good hw⟩
theorem TB_self {b : Cond} (h : b ∈ TB) : GoodIn TB (b :: TB) := by
  intro w hw
  rcases List.mem_cons.mp hw with rfl | hw
  · exact ⟨h, TB_good h⟩
  · exact ⟨hw, TB_good hw⟩
theorem goodIn_s {big a b : List Cond} (ha : GoodIn big a) (hb : GoodIn big b) : GoodIn big (a ++ b) := fun w h => (List.mem_append.mp h).elim (ha w) (hb w)
theorem inTB {C : String} {T : u_T} {N : Nat} (h : ∀ w ∈ u_ws C T N, w ∈ lw_tbl) : ∀ w ∈ u_ws C T N, w ∈ TB := by
  intro w hw
  refine tb (h w hw) ?_
  obtain ⟨k, -, rfl⟩ := List.mem_map.mp hw
  unfold u_lay
  split <;> rfl
/-! the cells: made in the order of the constructors, at h0, h0 + 1, ..; kinds 0 to 11 objects, 12 to 15 rows of numbers, 16 to 19 rows of objects -/
def kdL : List Nat := [10, 7, 18, 13, 0, 13, 13, 13, 13, 5, 13, 13, 5, 13, 13, 5, 13, 13, 5, 13, 13, 7, 18, 13, 0, 13, 13, 13, 13, 5, 13, 13, 5, 13, 13, 5, 13, 13, 5, 13, 13, 9, 8, 12, 13, 13, 13, 13, 13, 13, 19, 17, 16, 1, 3, 13, 13, 13, 13, 13, 14, 12, 13, 6, 13, 6, 13, 6, 13, 6, 13, 4, 13, 2, 13, 13, 13, 13, 13, 13, 13, 4, 13, 2, 13, 13, 13, 13, 13, 13, 13, 4, 13, 2, 13, 13, 13, 13, 13, 13, 13, 4, 13, 2, 13, 13, 13, 13, 13, 13, 13, 11, 13, 13, 13, 13, 13, 13, 13, 13, 15, 13, 13, 13, 13, 13, 13, 13, 13, 13, 13, 13, 13, 13, 13, 13, 13]
def lnL : List Nat := [0, 0, 4, 5, 0, 30, 30, 30, 10, 0, 4, 160, 0, 4, 160, 0, 4, 160, 0, 4, 160, 0, 4, 5, 0, 30, 30, 30, 10, 0, 4, 160, 0, 4, 160, 0, 4, 160, 0, 4, 160, 0, 0, 120, 121, 121, 121, 160, 4, 4, 4, 4, 4, 0, 0, 1600, 40, 287, 40, 41, 492, 480, 7, 0, 40, 0, 40, 0, 40, 0, 40, 0, 1600, 0, 40, 40, 40, 40, 40, 40, 40, 0, 1600, 0, 40, 40, 40, 40, 40, 40, 40, 0, 1600, 0, 40, 40, 40, 40, 40, 40, 40, 0, 1600, 0, 40, 40, 40, 40, 40, 40, 40, 0, 766, 766, 7, 120, 256, 4800, 4800, 287, 40, 1681, 1681, 1681, 1681, 1681, 40, 40, 40, 40, 40, 40, 40, 40, 4, 4, 160]
def kd (k : Nat) : Nat := kdL.getD k 99
def ln (k : Nat) : Nat := lnL.getD k 0
abbrev GT : Type := va_G × (Nat → ClassId) × Nat × (Nat → Nat)
def gD (G : GT) : va_G := G.1
def gC (G : GT) : Nat → ClassId := G.2.1
def gh (G : GT) : Nat := G.2.2.1
def gt (G : GT) : Nat → Nat := G.2.2.2
def AA (G : GT) : Nat → Prop := fun q => gh G ≤ q
/-- what a cell of a kind holds -/
def cEk (G : GT) (r : Nat → Int) (k : Nat) : Nat → va_E
  | 0 => .inr (0, [.ref (gh G + (k + 1)), .ref (gh G + (k + 2)), .ref (gh G + (k + 3)), .int (i32 (r 3)), .ref (gh G + (k + 4))])
  | 1 => .inr (1, [.ref (gh G + (k + 1)), .ref (gh G + (k + 5)), .ref (gh G + (k + 6)), .ref (gh G + (k + 7)), .ref (gh G + (k + 8)), .int (i32 (r 5)), .int (i32 (r 6)), .int (i32 (r 7))])
  | 2 => .inr (2, [.int (i32 (r 0)), .int (i32 (r 1)), .int (i32 (r 2)), .int (i32 (r 3)), .int (i32 (r 4)), .int (i32 (r 5)), .ref (gh G + (k + 1)), .ref (gh G + (k + 2)), .ref (gh G + (k + 3)), .ref (gh G + (k + 4)), .ref (gh G + (k + 5)), .ref (gh G + (k + 6)), .ref (gh G + (k + 7))])
  | 3 => .inr (3, [.ref (gh G + (k + 1)), .ref (gh G + (k + 2)), .ref (gh G + (k + 3))])
  | 4 => .inr (4, [.ref (gh G + (k + 1)), .int (i32 (r 1)), .int (i32 (r 2))])
  | 5 => .inr (5, [.ref (gh G + (k + 1)), .ref (gh G + (k + 2)), .int (i32 (r 2))])
  | 6 => .inr (6, [.ref (gh G + (k + 1)), .int (i32 (r 1)), .int (i32 (r 2))])
  | 7 => .inr (7, [.ref (gh G + (k + 1)), .ref (gh G + (k + 2)), .ref (gh G + (k + 3))])
  | 8 => .inr (8, [.ref (gh G + (k + 1)), .int (i32 (r 1)), .ref (gh G + (k + 2)), .ref (gh G + (k + 3)), .ref (gh G + (k + 4)), .int (i32 (r 5))])
  | 9 => .inr (9, [.ref (gh G + (k + 1)), .int (i32 (r 1)), .ref (gh G + (k + 6)), .int (i32 (r 3)), .int (i32 (r 4)), .int (i32 (r 5)), .ref (gh G + (k + 7)), .ref (gh G + (k + 8))])
  | 10 => .inr (10, [.ref (gh G + (k + 1)), .ref (gh G + (k + 21)), .int (i32 (r 2)), .ref (gh G + (k + 41)), .ref (gh G + (k + 50)), .ref (gh G + (k + 51)), .ref (gh G + (k + 52)), .ref (gh G + (k + 53)), .ref (gh G + (k + 62))])
  | 11 => .inr (11, [.ref (gh G + (k + 1)), .ref (gh G + (k + 2)), .int (i32 (r 2)), .ref (gh G + (k + 3)), .ref (gh G + (k + 4)), .int (i32 (r 5)), .int (i32 (r 6)), .int (i32 (r 7)), .int (i32 (r 8)), .int (i32 (r 9)), .int (i32 (r 10)), .int (i32 (r 11)), .ref (gh G + (k + 5)), .int (i32 (r 13)), .ref (gh G + (k + 6)), .ref (gh G + (k + 7)), .ref (gh G + (k + 8)), .ref (gh G + (k + 9)), .ref (gh G + (k + 10)), .ref (gh G + (k + 11)), .ref (gh G + (k + 12)), .ref (gh G + (k + 13)), .ref (gh G + (k + 14)), .int (i32 (r 23)), .int (i32 (r 24)), .int (i32 (r 25)), .ref (gh G + (k + 15)), .ref (gh G + (k + 16)), .ref (gh G + (k + 17)), .ref (gh G + (k + 18)), .ref (gh G + (k + 19)), .ref (gh G + (k + 20)), .ref (gh G + (k + 21)), .ref (gh G + (k + 22)), .ref (gh G + (k + 23)), .ref (gh G + (k + 24)), .ref (gh G + (k + 25))])
  | 12 => .inl (gC G 12, ln k, .inl (fun j => i32 (r j)))
  | 13 => .inl (gC G 13, ln k, .inl (fun j => i32 (r j)))
  | 15 => .inl (gC G 15, ln k, .inl (fun j => i32 (r j)))
  | 14 => .inl (gC G 14, ln k, .inr (.inl (fun j => i64 (r j))))
  | 16 => .inl (gC G 16, ln k, .inr (.inr (.inr (.inr (fun j => some (gh G + (k + 21 + 10 * j)))))))
  | 17 => .inl (gC G 17, ln k, .inr (.inr (.inr (.inr (fun j => some (gh G + (k + 20 + 10 * j)))))))
  | 18 => .inl (gC G 18, ln k, .inr (.inr (.inr (.inr (fun j => some (gh G + (k + 7 + 3 * j)))))))
  | _ => .inl (gC G 19, ln k, .inr (.inr (.inr (.inr (fun j => some (gh G + (k + 13 + 2 * j)))))))
def cE (G : GT) (σ : Mem) (k : Nat) : va_E := cEk G (σ k) k (kd k)
def wsl (G : GT) (σ : Mem) : va_W := (List.range 137).map (fun k => (gh G + k, cE G σ k))
def PW (G : GT) (σ : Mem) (H : Heap) : Prop := va_P (gD G) vwCl (wsl G σ) H
def gY (G : GT) : List (ClassId × FieldType) := [(gC G 12, .byte), (gC G 13, .int), (gC G 14, .long), (gC G 15, .boolean), (gC G 16, .object "PageTurns$Laying"), (gC G 17, .object "PageTurns$PageTable"), (gC G 18, .object "PageTurns$Part"), (gC G 19, .object "PageTurns$Sheet")]
theorem wsl_at {G : GT} {σ : Mem} {k : Nat} {E : va_E} (hk : k < 137) (hE : cE G σ k = E) : (wsl G σ)[k]? = some (gh G + k, E) := by
  subst hE
  simp [wsl, hk]
theorem wsl_len (G : GT) (σ : Mem) : (wsl G σ).length = 137 := by simp [wsl]
theorem wsl_D (G : GT) (σ : Mem) : va_D (AA G) (wsl G σ) := by
  have key : ∀ (k : Nat) (q : Nat × va_E), (wsl G σ)[k]? = some q → q.1 = gh G + k := by
    intro k q h
    have hl := (List.getElem?_eq_some_iff.mp h).1
    rw [wsl_len] at hl
    rw [wsl_at hl rfl] at h
    cases h
    rfl
  refine ⟨fun i j p q hi hj e => ?_, fun k q h => ?_⟩
  · have h1 := key i p hi
    have h2 := key j q hj
    omega
  · have h1 := key k q h
    show gh G ≤ q.1
    omega
theorem wsl_set {G : GT} {σ τ : Mem} {k : Nat} {E : va_E} (hE : cE G τ k = E) (ho : ∀ a, a ≠ k → τ a = σ a) : (wsl G σ).set k (gh G + k, E) = wsl G τ := by
  subst hE
  apply List.ext_getElem?
  intro i
  by_cases hi : i < 137
  · by_cases hik : i = k
    · subst hik
      rw [List.getElem?_set_self (by rw [wsl_len]; exact hi), wsl_at hi rfl]
    · rw [List.getElem?_set_ne (fun h => hik h.symm), wsl_at hi rfl, wsl_at hi rfl]
      unfold cE
      rw [ho i hik]
  · rw [List.getElem?_eq_none (by rw [List.length_set, wsl_len]; omega), List.getElem?_eq_none (by rw [wsl_len]; omega)]
theorem kd_lt {k n : Nat} (h : kd k = n) (hn : n < 99) : k < 137 := by
  rcases Nat.lt_or_ge k 137 with q | q
  · exact q
  · unfold kd at h
    rw [List.getD_eq_getElem?_getD, List.getElem?_eq_none (Nat.le_trans (by decide +kernel : kdL.length ≤ 137) q), Option.getD_none] at h
    omega
theorem cE_0 {G : GT} {σ : Mem} {k : Nat} (h : kd k = 0) : cE G σ k = .inr (0, [.ref (gh G + (k + 1)), .ref (gh G + (k + 2)), .ref (gh G + (k + 3)), .int (i32 (σ k 3)), .ref (gh G + (k + 4))]) := by unfold cE; rw [h]; rfl
theorem cE_1 {G : GT} {σ : Mem} {k : Nat} (h : kd k = 1) : cE G σ k = .inr (1, [.ref (gh G + (k + 1)), .ref (gh G + (k + 5)), .ref (gh G + (k + 6)), .ref (gh G + (k + 7)), .ref (gh G + (k + 8)), .int (i32 (σ k 5)), .int (i32 (σ k 6)), .int (i32 (σ k 7))]) := by unfold cE; rw [h]; rfl
theorem cE_2 {G : GT} {σ : Mem} {k : Nat} (h : kd k = 2) : cE G σ k = .inr (2, [.int (i32 (σ k 0)), .int (i32 (σ k 1)), .int (i32 (σ k 2)), .int (i32 (σ k 3)), .int (i32 (σ k 4)), .int (i32 (σ k 5)), .ref (gh G + (k + 1)), .ref (gh G + (k + 2)), .ref (gh G + (k + 3)), .ref (gh G + (k + 4)), .ref (gh G + (k + 5)), .ref (gh G + (k + 6)), .ref (gh G + (k + 7))]) := by unfold cE; rw [h]; rfl
theorem cE_3 {G : GT} {σ : Mem} {k : Nat} (h : kd k = 3) : cE G σ k = .inr (3, [.ref (gh G + (k + 1)), .ref (gh G + (k + 2)), .ref (gh G + (k + 3))]) := by unfold cE; rw [h]; rfl
theorem cE_4 {G : GT} {σ : Mem} {k : Nat} (h : kd k = 4) : cE G σ k = .inr (4, [.ref (gh G + (k + 1)), .int (i32 (σ k 1)), .int (i32 (σ k 2))]) := by unfold cE; rw [h]; rfl
theorem cE_5 {G : GT} {σ : Mem} {k : Nat} (h : kd k = 5) : cE G σ k = .inr (5, [.ref (gh G + (k + 1)), .ref (gh G + (k + 2)), .int (i32 (σ k 2))]) := by unfold cE; rw [h]; rfl
theorem cE_6 {G : GT} {σ : Mem} {k : Nat} (h : kd k = 6) : cE G σ k = .inr (6, [.ref (gh G + (k + 1)), .int (i32 (σ k 1)), .int (i32 (σ k 2))]) := by unfold cE; rw [h]; rfl
theorem cE_7 {G : GT} {σ : Mem} {k : Nat} (h : kd k = 7) : cE G σ k = .inr (7, [.ref (gh G + (k + 1)), .ref (gh G + (k + 2)), .ref (gh G + (k + 3))]) := by unfold cE; rw [h]; rfl
theorem cE_8 {G : GT} {σ : Mem} {k : Nat} (h : kd k = 8) : cE G σ k = .inr (8, [.ref (gh G + (k + 1)), .int (i32 (σ k 1)), .ref (gh G + (k + 2)), .ref (gh G + (k + 3)), .ref (gh G + (k + 4)), .int (i32 (σ k 5))]) := by unfold cE; rw [h]; rfl
theorem cE_9 {G : GT} {σ : Mem} {k : Nat} (h : kd k = 9) : cE G σ k = .inr (9, [.ref (gh G + (k + 1)), .int (i32 (σ k 1)), .ref (gh G + (k + 6)), .int (i32 (σ k 3)), .int (i32 (σ k 4)), .int (i32 (σ k 5)), .ref (gh G + (k + 7)), .ref (gh G + (k + 8))]) := by unfold cE; rw [h]; rfl
theorem cE_10 {G : GT} {σ : Mem} {k : Nat} (h : kd k = 10) : cE G σ k = .inr (10, [.ref (gh G + (k + 1)), .ref (gh G + (k + 21)), .int (i32 (σ k 2)), .ref (gh G + (k + 41)), .ref (gh G + (k + 50)), .ref (gh G + (k + 51)), .ref (gh G + (k + 52)), .ref (gh G + (k + 53)), .ref (gh G + (k + 62))]) := by unfold cE; rw [h]; rfl
theorem cE_11 {G : GT} {σ : Mem} {k : Nat} (h : kd k = 11) : cE G σ k = .inr (11, [.ref (gh G + (k + 1)), .ref (gh G + (k + 2)), .int (i32 (σ k 2)), .ref (gh G + (k + 3)), .ref (gh G + (k + 4)), .int (i32 (σ k 5)), .int (i32 (σ k 6)), .int (i32 (σ k 7)), .int (i32 (σ k 8)), .int (i32 (σ k 9)), .int (i32 (σ k 10)), .int (i32 (σ k 11)), .ref (gh G + (k + 5)), .int (i32 (σ k 13)), .ref (gh G + (k + 6)), .ref (gh G + (k + 7)), .ref (gh G + (k + 8)), .ref (gh G + (k + 9)), .ref (gh G + (k + 10)), .ref (gh G + (k + 11)), .ref (gh G + (k + 12)), .ref (gh G + (k + 13)), .ref (gh G + (k + 14)), .int (i32 (σ k 23)), .int (i32 (σ k 24)), .int (i32 (σ k 25)), .ref (gh G + (k + 15)), .ref (gh G + (k + 16)), .ref (gh G + (k + 17)), .ref (gh G + (k + 18)), .ref (gh G + (k + 19)), .ref (gh G + (k + 20)), .ref (gh G + (k + 21)), .ref (gh G + (k + 22)), .ref (gh G + (k + 23)), .ref (gh G + (k + 24)), .ref (gh G + (k + 25))]) := by unfold cE; rw [h]; rfl
theorem cE_12 {G : GT} {σ : Mem} {k : Nat} (h : kd k = 12) : cE G σ k = .inl (gC G 12, ln k, .inl (fun j => i32 (σ k j))) := by unfold cE; rw [h]; rfl
theorem cE_13 {G : GT} {σ : Mem} {k : Nat} (h : kd k = 13) : cE G σ k = .inl (gC G 13, ln k, .inl (fun j => i32 (σ k j))) := by unfold cE; rw [h]; rfl
theorem cE_14 {G : GT} {σ : Mem} {k : Nat} (h : kd k = 14) : cE G σ k = .inl (gC G 14, ln k, .inr (.inl (fun j => i64 (σ k j)))) := by unfold cE; rw [h]; rfl
theorem cE_15 {G : GT} {σ : Mem} {k : Nat} (h : kd k = 15) : cE G σ k = .inl (gC G 15, ln k, .inl (fun j => i32 (σ k j))) := by unfold cE; rw [h]; rfl
theorem cE_16 {G : GT} {σ : Mem} {k : Nat} (h : kd k = 16) : cE G σ k = .inl (gC G 16, ln k, .inr (.inr (.inr (.inr (fun j => some (gh G + (k + 21 + 10 * j))))))) := by unfold cE; rw [h]; rfl
theorem cE_17 {G : GT} {σ : Mem} {k : Nat} (h : kd k = 17) : cE G σ k = .inl (gC G 17, ln k, .inr (.inr (.inr (.inr (fun j => some (gh G + (k + 20 + 10 * j))))))) := by unfold cE; rw [h]; rfl
theorem cE_18 {G : GT} {σ : Mem} {k : Nat} (h : kd k = 18) : cE G σ k = .inl (gC G 18, ln k, .inr (.inr (.inr (.inr (fun j => some (gh G + (k + 7 + 3 * j))))))) := by unfold cE; rw [h]; rfl
theorem cE_19 {G : GT} {σ : Mem} {k : Nat} (h : kd k = 19) : cE G σ k = .inl (gC G 19, ln k, .inr (.inr (.inr (.inr (fun j => some (gh G + (k + 13 + 2 * j))))))) := by unfold cE; rw [h]; rfl
theorem ch_0_0 {k : Nat} (h : kd k = 0) : kd (k + 1) = 13 ∧ ln (k + 1) = 30 := (by decide +kernel : ∀ k, k < 137 → kd k = 0 → kd (k + 1) = 13 ∧ ln (k + 1) = 30) k (kd_lt h (by decide)) h
theorem ch_0_1 {k : Nat} (h : kd k = 0) : kd (k + 2) = 13 ∧ ln (k + 2) = 30 := (by decide +kernel : ∀ k, k < 137 → kd k = 0 → kd (k + 2) = 13 ∧ ln (k + 2) = 30) k (kd_lt h (by decide)) h
theorem ch_0_2 {k : Nat} (h : kd k = 0) : kd (k + 3) = 13 ∧ ln (k + 3) = 30 := (by decide +kernel : ∀ k, k < 137 → kd k = 0 → kd (k + 3) = 13 ∧ ln (k + 3) = 30) k (kd_lt h (by decide)) h
theorem ch_0_4 {k : Nat} (h : kd k = 0) : kd (k + 4) = 13 ∧ ln (k + 4) = 10 := (by decide +kernel : ∀ k, k < 137 → kd k = 0 → kd (k + 4) = 13 ∧ ln (k + 4) = 10) k (kd_lt h (by decide)) h
theorem ch_1_0 {k : Nat} (h : kd k = 1) : kd (k + 1) = 3 ∧ ln (k + 1) = 0 := (by decide +kernel : ∀ k, k < 137 → kd k = 1 → kd (k + 1) = 3 ∧ ln (k + 1) = 0) k (kd_lt h (by decide)) h
theorem ch_1_1 {k : Nat} (h : kd k = 1) : kd (k + 5) = 13 ∧ ln (k + 5) = 40 := (by decide +kernel : ∀ k, k < 137 → kd k = 1 → kd (k + 5) = 13 ∧ ln (k + 5) = 40) k (kd_lt h (by decide)) h
theorem ch_1_2 {k : Nat} (h : kd k = 1) : kd (k + 6) = 13 ∧ ln (k + 6) = 41 := (by decide +kernel : ∀ k, k < 137 → kd k = 1 → kd (k + 6) = 13 ∧ ln (k + 6) = 41) k (kd_lt h (by decide)) h
theorem ch_1_3 {k : Nat} (h : kd k = 1) : kd (k + 7) = 14 ∧ ln (k + 7) = 492 := (by decide +kernel : ∀ k, k < 137 → kd k = 1 → kd (k + 7) = 14 ∧ ln (k + 7) = 492) k (kd_lt h (by decide)) h
theorem ch_1_4 {k : Nat} (h : kd k = 1) : kd (k + 8) = 12 ∧ ln (k + 8) = 480 := (by decide +kernel : ∀ k, k < 137 → kd k = 1 → kd (k + 8) = 12 ∧ ln (k + 8) = 480) k (kd_lt h (by decide)) h
theorem ch_2_6 {k : Nat} (h : kd k = 2) : kd (k + 1) = 13 ∧ ln (k + 1) = 40 := (by decide +kernel : ∀ k, k < 137 → kd k = 2 → kd (k + 1) = 13 ∧ ln (k + 1) = 40) k (kd_lt h (by decide)) h
theorem ch_2_7 {k : Nat} (h : kd k = 2) : kd (k + 2) = 13 ∧ ln (k + 2) = 40 := (by decide +kernel : ∀ k, k < 137 → kd k = 2 → kd (k + 2) = 13 ∧ ln (k + 2) = 40) k (kd_lt h (by decide)) h
theorem ch_2_8 {k : Nat} (h : kd k = 2) : kd (k + 3) = 13 ∧ ln (k + 3) = 40 := (by decide +kernel : ∀ k, k < 137 → kd k = 2 → kd (k + 3) = 13 ∧ ln (k + 3) = 40) k (kd_lt h (by decide)) h
theorem ch_2_9 {k : Nat} (h : kd k = 2) : kd (k + 4) = 13 ∧ ln (k + 4) = 40 := (by decide +kernel : ∀ k, k < 137 → kd k = 2 → kd (k + 4) = 13 ∧ ln (k + 4) = 40) k (kd_lt h (by decide)) h
theorem ch_2_10 {k : Nat} (h : kd k = 2) : kd (k + 5) = 13 ∧ ln (k + 5) = 40 := (by decide +kernel : ∀ k, k < 137 → kd k = 2 → kd (k + 5) = 13 ∧ ln (k + 5) = 40) k (kd_lt h (by decide)) h
theorem ch_2_11 {k : Nat} (h : kd k = 2) : kd (k + 6) = 13 ∧ ln (k + 6) = 40 := (by decide +kernel : ∀ k, k < 137 → kd k = 2 → kd (k + 6) = 13 ∧ ln (k + 6) = 40) k (kd_lt h (by decide)) h
theorem ch_2_12 {k : Nat} (h : kd k = 2) : kd (k + 7) = 13 ∧ ln (k + 7) = 40 := (by decide +kernel : ∀ k, k < 137 → kd k = 2 → kd (k + 7) = 13 ∧ ln (k + 7) = 40) k (kd_lt h (by decide)) h
theorem ch_3_0 {k : Nat} (h : kd k = 3) : kd (k + 1) = 13 ∧ ln (k + 1) = 1600 := (by decide +kernel : ∀ k, k < 137 → kd k = 3 → kd (k + 1) = 13 ∧ ln (k + 1) = 1600) k (kd_lt h (by decide)) h
theorem ch_3_1 {k : Nat} (h : kd k = 3) : kd (k + 2) = 13 ∧ ln (k + 2) = 40 := (by decide +kernel : ∀ k, k < 137 → kd k = 3 → kd (k + 2) = 13 ∧ ln (k + 2) = 40) k (kd_lt h (by decide)) h
theorem ch_3_2 {k : Nat} (h : kd k = 3) : kd (k + 3) = 13 ∧ ln (k + 3) = 287 := (by decide +kernel : ∀ k, k < 137 → kd k = 3 → kd (k + 3) = 13 ∧ ln (k + 3) = 287) k (kd_lt h (by decide)) h
theorem ch_4_0 {k : Nat} (h : kd k = 4) : kd (k + 1) = 13 ∧ ln (k + 1) = 1600 := (by decide +kernel : ∀ k, k < 137 → kd k = 4 → kd (k + 1) = 13 ∧ ln (k + 1) = 1600) k (kd_lt h (by decide)) h
theorem ch_5_0 {k : Nat} (h : kd k = 5) : kd (k + 1) = 13 ∧ ln (k + 1) = 4 := (by decide +kernel : ∀ k, k < 137 → kd k = 5 → kd (k + 1) = 13 ∧ ln (k + 1) = 4) k (kd_lt h (by decide)) h
theorem ch_5_1 {k : Nat} (h : kd k = 5) : kd (k + 2) = 13 ∧ ln (k + 2) = 160 := (by decide +kernel : ∀ k, k < 137 → kd k = 5 → kd (k + 2) = 13 ∧ ln (k + 2) = 160) k (kd_lt h (by decide)) h
theorem ch_6_0 {k : Nat} (h : kd k = 6) : kd (k + 1) = 13 ∧ ln (k + 1) = 40 := (by decide +kernel : ∀ k, k < 137 → kd k = 6 → kd (k + 1) = 13 ∧ ln (k + 1) = 40) k (kd_lt h (by decide)) h
theorem ch_7_0 {k : Nat} (h : kd k = 7) : kd (k + 1) = 18 ∧ ln (k + 1) = 4 := (by decide +kernel : ∀ k, k < 137 → kd k = 7 → kd (k + 1) = 18 ∧ ln (k + 1) = 4) k (kd_lt h (by decide)) h
theorem ch_7_1 {k : Nat} (h : kd k = 7) : kd (k + 2) = 13 ∧ ln (k + 2) = 5 := (by decide +kernel : ∀ k, k < 137 → kd k = 7 → kd (k + 2) = 13 ∧ ln (k + 2) = 5) k (kd_lt h (by decide)) h
theorem ch_7_2 {k : Nat} (h : kd k = 7) : kd (k + 3) = 0 ∧ ln (k + 3) = 0 := (by decide +kernel : ∀ k, k < 137 → kd k = 7 → kd (k + 3) = 0 ∧ ln (k + 3) = 0) k (kd_lt h (by decide)) h
theorem ch_8_0 {k : Nat} (h : kd k = 8) : kd (k + 1) = 12 ∧ ln (k + 1) = 120 := (by decide +kernel : ∀ k, k < 137 → kd k = 8 → kd (k + 1) = 12 ∧ ln (k + 1) = 120) k (kd_lt h (by decide)) h
theorem ch_8_2 {k : Nat} (h : kd k = 8) : kd (k + 2) = 13 ∧ ln (k + 2) = 121 := (by decide +kernel : ∀ k, k < 137 → kd k = 8 → kd (k + 2) = 13 ∧ ln (k + 2) = 121) k (kd_lt h (by decide)) h
theorem ch_8_3 {k : Nat} (h : kd k = 8) : kd (k + 3) = 13 ∧ ln (k + 3) = 121 := (by decide +kernel : ∀ k, k < 137 → kd k = 8 → kd (k + 3) = 13 ∧ ln (k + 3) = 121) k (kd_lt h (by decide)) h
theorem ch_8_4 {k : Nat} (h : kd k = 8) : kd (k + 4) = 13 ∧ ln (k + 4) = 121 := (by decide +kernel : ∀ k, k < 137 → kd k = 8 → kd (k + 4) = 13 ∧ ln (k + 4) = 121) k (kd_lt h (by decide)) h
theorem ch_9_0 {k : Nat} (h : kd k = 9) : kd (k + 1) = 8 ∧ ln (k + 1) = 0 := (by decide +kernel : ∀ k, k < 137 → kd k = 9 → kd (k + 1) = 8 ∧ ln (k + 1) = 0) k (kd_lt h (by decide)) h
theorem ch_9_2 {k : Nat} (h : kd k = 9) : kd (k + 6) = 13 ∧ ln (k + 6) = 160 := (by decide +kernel : ∀ k, k < 137 → kd k = 9 → kd (k + 6) = 13 ∧ ln (k + 6) = 160) k (kd_lt h (by decide)) h
theorem ch_9_6 {k : Nat} (h : kd k = 9) : kd (k + 7) = 13 ∧ ln (k + 7) = 4 := (by decide +kernel : ∀ k, k < 137 → kd k = 9 → kd (k + 7) = 13 ∧ ln (k + 7) = 4) k (kd_lt h (by decide)) h
theorem ch_9_7 {k : Nat} (h : kd k = 9) : kd (k + 8) = 13 ∧ ln (k + 8) = 4 := (by decide +kernel : ∀ k, k < 137 → kd k = 9 → kd (k + 8) = 13 ∧ ln (k + 8) = 4) k (kd_lt h (by decide)) h
theorem ch_10_0 {k : Nat} (h : kd k = 10) : kd (k + 1) = 7 ∧ ln (k + 1) = 0 := (by decide +kernel : ∀ k, k < 137 → kd k = 10 → kd (k + 1) = 7 ∧ ln (k + 1) = 0) k (kd_lt h (by decide)) h
theorem ch_10_1 {k : Nat} (h : kd k = 10) : kd (k + 21) = 7 ∧ ln (k + 21) = 0 := (by decide +kernel : ∀ k, k < 137 → kd k = 10 → kd (k + 21) = 7 ∧ ln (k + 21) = 0) k (kd_lt h (by decide)) h
theorem ch_10_3 {k : Nat} (h : kd k = 10) : kd (k + 41) = 9 ∧ ln (k + 41) = 0 := (by decide +kernel : ∀ k, k < 137 → kd k = 10 → kd (k + 41) = 9 ∧ ln (k + 41) = 0) k (kd_lt h (by decide)) h
theorem ch_10_4 {k : Nat} (h : kd k = 10) : kd (k + 50) = 19 ∧ ln (k + 50) = 4 := (by decide +kernel : ∀ k, k < 137 → kd k = 10 → kd (k + 50) = 19 ∧ ln (k + 50) = 4) k (kd_lt h (by decide)) h
theorem ch_10_5 {k : Nat} (h : kd k = 10) : kd (k + 51) = 17 ∧ ln (k + 51) = 4 := (by decide +kernel : ∀ k, k < 137 → kd k = 10 → kd (k + 51) = 17 ∧ ln (k + 51) = 4) k (kd_lt h (by decide)) h
theorem ch_10_6 {k : Nat} (h : kd k = 10) : kd (k + 52) = 16 ∧ ln (k + 52) = 4 := (by decide +kernel : ∀ k, k < 137 → kd k = 10 → kd (k + 52) = 16 ∧ ln (k + 52) = 4) k (kd_lt h (by decide)) h
theorem ch_10_7 {k : Nat} (h : kd k = 10) : kd (k + 53) = 1 ∧ ln (k + 53) = 0 := (by decide +kernel : ∀ k, k < 137 → kd k = 10 → kd (k + 53) = 1 ∧ ln (k + 53) = 0) k (kd_lt h (by decide)) h
theorem ch_10_8 {k : Nat} (h : kd k = 10) : kd (k + 62) = 13 ∧ ln (k + 62) = 7 := (by decide +kernel : ∀ k, k < 137 → kd k = 10 → kd (k + 62) = 13 ∧ ln (k + 62) = 7) k (kd_lt h (by decide)) h
theorem ch_11_0 {k : Nat} (h : kd k = 11) : kd (k + 1) = 13 ∧ ln (k + 1) = 766 := (by decide +kernel : ∀ k, k < 137 → kd k = 11 → kd (k + 1) = 13 ∧ ln (k + 1) = 766) k (kd_lt h (by decide)) h
theorem ch_11_1 {k : Nat} (h : kd k = 11) : kd (k + 2) = 13 ∧ ln (k + 2) = 766 := (by decide +kernel : ∀ k, k < 137 → kd k = 11 → kd (k + 2) = 13 ∧ ln (k + 2) = 766) k (kd_lt h (by decide)) h
theorem ch_11_3 {k : Nat} (h : kd k = 11) : kd (k + 3) = 13 ∧ ln (k + 3) = 7 := (by decide +kernel : ∀ k, k < 137 → kd k = 11 → kd (k + 3) = 13 ∧ ln (k + 3) = 7) k (kd_lt h (by decide)) h
theorem ch_11_4 {k : Nat} (h : kd k = 11) : kd (k + 4) = 13 ∧ ln (k + 4) = 120 := (by decide +kernel : ∀ k, k < 137 → kd k = 11 → kd (k + 4) = 13 ∧ ln (k + 4) = 120) k (kd_lt h (by decide)) h
theorem ch_11_12 {k : Nat} (h : kd k = 11) : kd (k + 5) = 13 ∧ ln (k + 5) = 256 := (by decide +kernel : ∀ k, k < 137 → kd k = 11 → kd (k + 5) = 13 ∧ ln (k + 5) = 256) k (kd_lt h (by decide)) h
theorem ch_11_14 {k : Nat} (h : kd k = 11) : kd (k + 6) = 13 ∧ ln (k + 6) = 4800 := (by decide +kernel : ∀ k, k < 137 → kd k = 11 → kd (k + 6) = 13 ∧ ln (k + 6) = 4800) k (kd_lt h (by decide)) h
theorem ch_11_15 {k : Nat} (h : kd k = 11) : kd (k + 7) = 13 ∧ ln (k + 7) = 4800 := (by decide +kernel : ∀ k, k < 137 → kd k = 11 → kd (k + 7) = 13 ∧ ln (k + 7) = 4800) k (kd_lt h (by decide)) h
theorem ch_11_16 {k : Nat} (h : kd k = 11) : kd (k + 8) = 13 ∧ ln (k + 8) = 287 := (by decide +kernel : ∀ k, k < 137 → kd k = 11 → kd (k + 8) = 13 ∧ ln (k + 8) = 287) k (kd_lt h (by decide)) h
theorem ch_11_17 {k : Nat} (h : kd k = 11) : kd (k + 9) = 15 ∧ ln (k + 9) = 40 := (by decide +kernel : ∀ k, k < 137 → kd k = 11 → kd (k + 9) = 15 ∧ ln (k + 9) = 40) k (kd_lt h (by decide)) h
theorem ch_11_18 {k : Nat} (h : kd k = 11) : kd (k + 10) = 13 ∧ ln (k + 10) = 1681 := (by decide +kernel : ∀ k, k < 137 → kd k = 11 → kd (k + 10) = 13 ∧ ln (k + 10) = 1681) k (kd_lt h (by decide)) h
theorem ch_11_19 {k : Nat} (h : kd k = 11) : kd (k + 11) = 13 ∧ ln (k + 11) = 1681 := (by decide +kernel : ∀ k, k < 137 → kd k = 11 → kd (k + 11) = 13 ∧ ln (k + 11) = 1681) k (kd_lt h (by decide)) h
theorem ch_11_20 {k : Nat} (h : kd k = 11) : kd (k + 12) = 13 ∧ ln (k + 12) = 1681 := (by decide +kernel : ∀ k, k < 137 → kd k = 11 → kd (k + 12) = 13 ∧ ln (k + 12) = 1681) k (kd_lt h (by decide)) h
theorem ch_11_21 {k : Nat} (h : kd k = 11) : kd (k + 13) = 13 ∧ ln (k + 13) = 1681 := (by decide +kernel : ∀ k, k < 137 → kd k = 11 → kd (k + 13) = 13 ∧ ln (k + 13) = 1681) k (kd_lt h (by decide)) h
theorem ch_11_22 {k : Nat} (h : kd k = 11) : kd (k + 14) = 13 ∧ ln (k + 14) = 1681 := (by decide +kernel : ∀ k, k < 137 → kd k = 11 → kd (k + 14) = 13 ∧ ln (k + 14) = 1681) k (kd_lt h (by decide)) h
theorem ch_11_26 {k : Nat} (h : kd k = 11) : kd (k + 15) = 13 ∧ ln (k + 15) = 40 := (by decide +kernel : ∀ k, k < 137 → kd k = 11 → kd (k + 15) = 13 ∧ ln (k + 15) = 40) k (kd_lt h (by decide)) h
theorem ch_11_27 {k : Nat} (h : kd k = 11) : kd (k + 16) = 13 ∧ ln (k + 16) = 40 := (by decide +kernel : ∀ k, k < 137 → kd k = 11 → kd (k + 16) = 13 ∧ ln (k + 16) = 40) k (kd_lt h (by decide)) h
theorem ch_11_28 {k : Nat} (h : kd k = 11) : kd (k + 17) = 13 ∧ ln (k + 17) = 40 := (by decide +kernel : ∀ k, k < 137 → kd k = 11 → kd (k + 17) = 13 ∧ ln (k + 17) = 40) k (kd_lt h (by decide)) h
theorem ch_11_29 {k : Nat} (h : kd k = 11) : kd (k + 18) = 13 ∧ ln (k + 18) = 40 := (by decide +kernel : ∀ k, k < 137 → kd k = 11 → kd (k + 18) = 13 ∧ ln (k + 18) = 40) k (kd_lt h (by decide)) h
theorem ch_11_30 {k : Nat} (h : kd k = 11) : kd (k + 19) = 13 ∧ ln (k + 19) = 40 := (by decide +kernel : ∀ k, k < 137 → kd k = 11 → kd (k + 19) = 13 ∧ ln (k + 19) = 40) k (kd_lt h (by decide)) h
theorem ch_11_31 {k : Nat} (h : kd k = 11) : kd (k + 20) = 13 ∧ ln (k + 20) = 40 := (by decide +kernel : ∀ k, k < 137 → kd k = 11 → kd (k + 20) = 13 ∧ ln (k + 20) = 40) k (kd_lt h (by decide)) h
theorem ch_11_32 {k : Nat} (h : kd k = 11) : kd (k + 21) = 13 ∧ ln (k + 21) = 40 := (by decide +kernel : ∀ k, k < 137 → kd k = 11 → kd (k + 21) = 13 ∧ ln (k + 21) = 40) k (kd_lt h (by decide)) h
theorem ch_11_33 {k : Nat} (h : kd k = 11) : kd (k + 22) = 13 ∧ ln (k + 22) = 40 := (by decide +kernel : ∀ k, k < 137 → kd k = 11 → kd (k + 22) = 13 ∧ ln (k + 22) = 40) k (kd_lt h (by decide)) h
theorem ch_11_34 {k : Nat} (h : kd k = 11) : kd (k + 23) = 13 ∧ ln (k + 23) = 4 := (by decide +kernel : ∀ k, k < 137 → kd k = 11 → kd (k + 23) = 13 ∧ ln (k + 23) = 4) k (kd_lt h (by decide)) h
theorem ch_11_35 {k : Nat} (h : kd k = 11) : kd (k + 24) = 13 ∧ ln (k + 24) = 4 := (by decide +kernel : ∀ k, k < 137 → kd k = 11 → kd (k + 24) = 13 ∧ ln (k + 24) = 4) k (kd_lt h (by decide)) h
theorem ch_11_36 {k : Nat} (h : kd k = 11) : kd (k + 25) = 13 ∧ ln (k + 25) = 160 := (by decide +kernel : ∀ k, k < 137 → kd k = 11 → kd (k + 25) = 13 ∧ ln (k + 25) = 160) k (kd_lt h (by decide)) h
theorem ch_18 {k : Nat} (h : kd k = 18) : ln k = 4 ∧ ∀ j, j < 4 → kd (k + 7 + 3 * j) = 5 := (by decide +kernel : ∀ k, k < 137 → kd k = 18 → ln k = 4 ∧ ∀ j, j < 4 → kd (k + 7 + 3 * j) = 5) k (kd_lt h (by decide)) h
theorem ch_19 {k : Nat} (h : kd k = 19) : ln k = 4 ∧ ∀ j, j < 4 → kd (k + 13 + 2 * j) = 6 := (by decide +kernel : ∀ k, k < 137 → kd k = 19 → ln k = 4 ∧ ∀ j, j < 4 → kd (k + 13 + 2 * j) = 6) k (kd_lt h (by decide)) h
theorem ch_17 {k : Nat} (h : kd k = 17) : ln k = 4 ∧ ∀ j, j < 4 → kd (k + 20 + 10 * j) = 4 := (by decide +kernel : ∀ k, k < 137 → kd k = 17 → ln k = 4 ∧ ∀ j, j < 4 → kd (k + 20 + 10 * j) = 4) k (kd_lt h (by decide)) h
theorem ch_16 {k : Nat} (h : kd k = 16) : ln k = 4 ∧ ∀ j, j < 4 → kd (k + 21 + 10 * j) = 2 := (by decide +kernel : ∀ k, k < 137 → kd k = 16 → ln k = 4 ∧ ∀ j, j < 4 → kd (k + 21 + 10 * j) = 2) k (kd_lt h (by decide)) h
theorem ks_10 : kd 0 = 10 := by decide +kernel
theorem ks_9 : kd 41 = 9 := by decide +kernel
theorem ks_8 : kd 42 = 8 := by decide +kernel
theorem ks_1 : kd 53 = 1 := by decide +kernel
theorem ks_3 : kd 54 = 3 := by decide +kernel
theorem ks_11 : kd 111 = 11 := by decide +kernel
def NWl : List Cond := [Cond.methodLinkNest RX7 28 yX5_init RX10, Cond.methodLinkNest RX10 21 yX9_init RX10, Cond.methodLinkNest RX9 11 yX8_init RX10, Cond.methodLinkNest RX10 46 yX1_init RX10, Cond.methodLinkNest RX1 11 yX3_init RX10, Cond.methodLinkNest RX10 55 yX6_init RX10, Cond.methodLinkNest RX10 56 yX4_init RX10, Cond.methodLinkNest RX10 57 yX2_init RX10, Cond.methodLinkNest RX9 91 yX10_within RX10, Cond.methodLinkNest RX7 49 yX10_isPart RX10, Cond.fieldLinkNest RX0 44 "PageTurns" "KIND_ABOVE" "[I" RX10]
/-- the statics: the class's own rows of numbers, what String's own class says, the texts -/
def sN : List String := ["TRAIT_LEAST", "TRAIT_MOST", "RULE_LEAST", "RULE_MOST", "KIND_ABOVE"]
def sV : List (List Int) := [[30, 0, -1, 0], [240, 8, 3, 1023], [20, 1, 0, 0, 0], [200, 6, 999, 99, 999], [-1, 0, 0, 2, 2, 3, 3]]
def sv (i j : Nat) : Int := (sV.getD i []).getD j 0
def sK : List Nat := [65, 71, 73, 75, 77, 79, 81]
def sX : List String := ["busy", "half", "free", "beats", "keep", "letter", "wish"]
def sLen : List Nat := [4, 4, 4, 5, 4, 6, 4]
def sByt : List (List Int32) := [[98, 117, 115, 121], [104, 97, 108, 102], [102, 114, 101, 101], [98, 101, 97, 116, 115], [107, 101, 101, 112], [108, 101, 116, 116, 101, 114], [119, 105, 115, 104]]
def ST (G : GT) (U : State) : Prop :=
  va_K (gD G) vwCl (gY G) U ∧ (∀ w ∈ NWl, va_Nw w U) ∧
  (∀ i, i < 5 → va_Z "PageTurns" (sN.getD i "") "[I" (.ref (gt G i)) (AA G) U U.heap ∧ va_T .int (gt G i) (sV.getD i []).length (fun j => .int (i32 ((sV.getD i []).getD j 0))) (AA G) U U.heap) ∧
  va_Z "java/lang/String" "COMPACT_STRINGS" "Z" (.int 1) (AA G) U U.heap ∧
  (∀ i, i < 7 → vk_R "PageTurns$Tape" (sK.getD i 0) (sX.getD i "") (gt G (10 + i)) U) ∧
  vk_S 7 sLen sByt (fun i => gt G (10 + i)) (fun i => gt G (20 + i)) (AA G) U U.heap ∧
  va_Zq "jdk/internal/util/Preconditions" "SIOOBE_FORMATTER" "Ljava/util/function/BiFunction;" (AA G) U U.heap
theorem NWl_warm {w : Cond} (hw : w ∈ NWl) {s U : State} (hW : s.WarmedH U.vm) (h : va_Nw w s) : va_Nw w U := by
  simp only [NWl, List.mem_cons, List.not_mem_nil, or_false] at hw
  rcases hw with rfl | rfl | rfl | rfl | rfl | rfl | rfl | rfl | rfl | rfl | rfl <;> first | exact va_Nw.warmM hW h | exact va_Nw.warmF hW h
theorem ST.go {G : GT} {s U : State} (h : ST G s) (hk : ∀ a : Nat, a < s.heap.size → ¬ AA G a → U.heap[a]? = s.heap[a]?) (hW : s.WarmedH U.vm) : ST G U := by
  obtain ⟨h1, h2, h3, h4, h5, h6, h7⟩ := h
  exact ⟨va_K.moved hW.alike h1, fun w hw => NWl_warm hw hW (h2 w hw), fun i hi => ⟨((h3 i hi).1.moved hW.alike).kept hk, ((h3 i hi).2.moved hW.alike).kept hk⟩, (h4.moved hW.alike).kept hk, fun i hi => (h5 i hi).warm hW, (h6.moved hW.alike).kept hk, (h7.moved hW.alike).kept hk⟩
/-- what stands through a method's walk -/
def CX (p : Program) (R : Room) (s : State) (m : MethodId) (args : Array Value) (meth : Method) (c : Code) (cc : ByteArray) (nL : Nat) (own : String) (ret : Option FieldType) (fF fL : Nat) (G : GT) : Prop :=
  p.tables.exec = Jvm.exec ∧ c.code = cc ∧ c.maxLocals = nL ∧ s.vm.findClass own = some m.cls ∧ (∀ w ∈ TB, w.before args s = true) ∧ meth.locks = false ∧ meth.sig.returnType = ret ∧ (fF ≤ R.frames ∧ fL ≤ R.locals) ∧ ST G s
/-- a method's end -/
def QM (G : GT) (v : Option Value) (σ : Mem) : Array Value → State → Outcome → State → Prop := fun _ st oc t => oc = .returned v ∧ PW G σ t.heap ∧ va_F (AA G) st t
/-- a method's contract: from the memory σ to τ, with the answer v -/
def CT (l : Launch) (y : MethodName) (cc : ByteArray) (nL : Nat) (ret : Option FieldType) (fF fL : Nat) (G : GT) (As : List Value) (σ τ : Mem) (v : Option Value) : Prop :=
  Met l y (Cond.code y cc nL ret :: TB) ({ frames := fF, cells := 0, slots := 0, locals := fL }) (va_Pc As (fun U => ST G U ∧ PW G σ U.heap)) (QM G v τ) 0 0 (AA G)
def kg {α : Type} (n k : Nat) (x : Option α) : Option α := if kd k = n then x else none
theorem kg_inv {α : Type} {n k : Nat} {x : Option α} {r : α} (h : kg n k x = some r) : kd k = n ∧ x = some r := by
  unfold kg at h
  split at h
  · exact ⟨by assumption, h⟩
  · cases h
