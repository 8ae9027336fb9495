/-! LEVEL B: rows of numbers; the state that an image keeps, as one row of 766 numbers (as the reference has it) -/
def up (r : Nat → Int) (i : Nat) (v : Int) : Nat → Int := fun j => if j = i then v else r j
theorem up_at (r : Nat → Int) (i : Nat) (v : Int) : up r i v i = v := by simp [up]
theorem up_ne {r : Nat → Int} {i j : Nat} {v : Int} (h : j ≠ i) : up r i v j = r j := by simp [up, h]
theorem st_self (σ : Mem) (k j : Nat) (v : Int) : st σ k j v k = up (σ k) j v := by
  funext b
  simp [st, up]
theorem st_ne {σ : Mem} {k j a : Nat} {v : Int} (h : a ≠ k) : st σ k j v a = σ a := st_row_ne h
theorem st_at (σ : Mem) (k j : Nat) (v : Int) : st σ k j v k j = v := by simp [st]
theorem ag_ok {α : Type} {n : Nat} {i : Int} {k : Nat → Option α} (h0 : 0 ≤ i) (h1 : i < (n : Int)) (hn : n ≤ 2147483648) : ag n i k = k i.toNat := by
  have hw : w32 i = i := w32_id (by omega) (by omega)
  unfold ag
  rw [hw, if_pos ⟨h0, h1⟩]
theorem ag_nat {α : Type} {n j : Nat} {k : Nat → Option α} (h1 : j < n) (hn : n ≤ 2147483648) : ag n (j : Int) k = k j := by
  rw [ag_ok (by omega) (by omega) hn]
  rfl
theorem dg_ok {α : Type} {y : Int} {k : Option α} (h : w32 y ≠ 0) : dg y k = k := by simp [dg, h]
theorem bg_0 {α : Type} {k : Option α} : bg 0 k = k := by simp [bg, w32]
theorem bg_1 {α : Type} {k : Option α} : bg 1 k = k := by simp [bg, w32]
theorem bd_some {α β : Type} (a : α) (k : α → Option β) : bd (some a) k = k a := rfl
theorem bd2_some {α β γ : Type} (a : α) (b : β) (k : α → β → Option γ) : bd2 (some (a, b)) k = k a b := rfl
theorem lt_v {α β : Type} (v : α) (k : α → Option β) : lt v k = k v := rfl
/-- the state of the class: B is 1 (now) or 21 (kept) -/
def cvB (B : Nat) (σ : Mem) (i : Nat) : Int :=
  if i < 5 then σ (B + 2) i
  else if i < 665 then
    (if (i - 5) % 165 < 4 then σ (B + 9 + 3 * ((i - 5) / 165)) ((i - 5) % 165)
     else if (i - 5) % 165 = 4 then σ (B + 8 + 3 * ((i - 5) / 165)) 2
     else σ (B + 10 + 3 * ((i - 5) / 165)) ((i - 5) % 165 - 5))
  else if i = 665 then σ (B + 3) 3
  else if i < 756 then σ (B + 4 + (i - 666) % 3) ((i - 666) / 3)
  else σ (B + 7) (i - 756)
theorem cv_frame {B : Nat} {σ τ : Mem} (h : ∀ k, B ≤ k → k < B + 20 → τ k = σ k) (i : Nat) (hi : i < 766) : cvB B τ i = cvB B σ i := by
  unfold cvB
  repeat' split
  all_goals (rw [h _ (by omega) (by omega)])
theorem cv_rule {B : Nat} {σ : Mem} {i : Nat} (h : i < 5) : cvB B σ i = σ (B + 2) i := by unfold cvB; rw [if_pos h]
theorem cv_trait {B : Nat} {σ : Mem} {p w : Nat} (hp : p < 4) (hw : w < 4) : cvB B σ (5 + 165 * p + w) = σ (B + 9 + 3 * p) w := by
  unfold cvB
  rw [if_neg (by omega), if_pos (by omega), if_pos (by omega), show (5 + 165 * p + w - 5) / 165 = p by omega, show (5 + 165 * p + w - 5) % 165 = w by omega]
theorem cv_bars {B : Nat} {σ : Mem} {p : Nat} (hp : p < 4) : cvB B σ (9 + 165 * p) = σ (B + 8 + 3 * p) 2 := by
  unfold cvB
  rw [if_neg (by omega), if_pos (by omega), if_neg (by omega), if_pos (by omega), show (9 + 165 * p - 5) / 165 = p by omega]
theorem cv_fact {B : Nat} {σ : Mem} {p j : Nat} (hp : p < 4) (hj : j < 160) : cvB B σ (10 + 165 * p + j) = σ (B + 10 + 3 * p) j := by
  unfold cvB
  rw [if_neg (by omega), if_pos (by omega), if_neg (by omega), if_neg (by omega), show (10 + 165 * p + j - 5) / 165 = p by omega, show (10 + 165 * p + j - 5) % 165 - 5 = j by omega]
theorem cv_num {B : Nat} {σ : Mem} : cvB B σ 665 = σ (B + 3) 3 := rfl
theorem cv_brk {B : Nat} {σ : Mem} {k q : Nat} (hk : k < 30) (hq : q < 3) : cvB B σ (666 + 3 * k + q) = σ (B + 4 + q) k := by
  unfold cvB
  rw [if_neg (by omega), if_neg (by omega), if_neg (by omega), if_pos (by omega), show (666 + 3 * k + q - 666) % 3 = q by omega, show (666 + 3 * k + q - 666) / 3 = k by omega]
theorem cv_spot {B : Nat} {σ : Mem} {s : Nat} (hs : s < 10) : cvB B σ (756 + s) = σ (B + 7) s := by
  unfold cvB
  rw [if_neg (by omega), if_neg (by omega), if_neg (by omega), if_neg (by omega), show 756 + s - 756 = s by omega]
/-- each place of the row is one of these -/
theorem row_cases (i : Nat) (hi : i < 766) : i < 5 ∨ (∃ p w, p < 4 ∧ w < 4 ∧ i = 5 + 165 * p + w) ∨ (∃ p, p < 4 ∧ i = 9 + 165 * p) ∨ (∃ p j, p < 4 ∧ j < 160 ∧ i = 10 + 165 * p + j) ∨ i = 665 ∨ (∃ k q, k < 30 ∧ q < 3 ∧ i = 666 + 3 * k + q) ∨ ∃ s, s < 10 ∧ i = 756 + s := by
  by_cases h1 : i < 5
  · exact Or.inl h1
  by_cases h2 : i < 665
  · by_cases h3 : (i - 5) % 165 < 4
    · exact Or.inr (Or.inl ⟨(i - 5) / 165, (i - 5) % 165, by omega, h3, by omega⟩)
    by_cases h4 : (i - 5) % 165 = 4
    · exact Or.inr (Or.inr (Or.inl ⟨(i - 5) / 165, by omega, by omega⟩))
    · exact Or.inr (Or.inr (Or.inr (Or.inl ⟨(i - 5) / 165, (i - 5) % 165 - 5, by omega, by omega, by omega⟩)))
  by_cases h3 : i = 665
  · exact Or.inr (Or.inr (Or.inr (Or.inr (Or.inl h3))))
  by_cases h4 : i < 756
  · exact Or.inr (Or.inr (Or.inr (Or.inr (Or.inr (Or.inl ⟨(i - 666) / 3, (i - 666) % 3, by omega, by omega, by omega⟩)))))
  · exact Or.inr (Or.inr (Or.inr (Or.inr (Or.inr (Or.inr ⟨i - 756, by omega, by omega⟩)))))
