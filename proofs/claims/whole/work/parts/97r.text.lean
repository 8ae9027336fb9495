/-! texts: the class's loop and the reference's recursion -/
theorem FR.trans {a b c x y z : Mem} (h1 : FR a b x y) (h2 : FR b c y z) : FR a c x z := ⟨fun q q1 q2 q3 q4 => by rw [h2.1 q q1 q2 q3 q4, h1.1 q q1 q2 q3 q4], fun q q1 q2 => by rw [h2.2.1 q q1 q2, h1.2.1 q q1 q2], fun j hj => by rw [h2.2.2 j hj, h1.2.2 j hj]⟩
theorem FR.refl (a x : Mem) : FR a a x x := ⟨fun _ _ _ _ _ => rfl, fun _ _ _ => rfl, fun _ _ => rfl⟩
def noIt (B : Nat → Int) (n : Nat) (τ : Mem) (k : Nat) : Prop := kdP B n (tS B n k) ≠ 2 ∧ (kdP B n (tS B n k) = 1 → ∃ c, X8_valueOf τ k = some c ∧ 2 < c ∧ c ≤ 7)
def OUT (B : Nat → Int) (n T d : Nat) (τ ρ : Mem) (bare : Int) (step k : Nat) (ρ' : Mem) : Prop := (∃ (τ' : Mem) (k' : Nat), X9_findFault_L31 (5000 - step) τ bare step = some (((tS B n k' : Nat) : Int), τ') ∧ k' ≤ T ∧ ρ' 111 11 = 1 ∧ ρ' 111 6 = ((tS B n k' : Nat) : Int) ∧ FR τ τ' ρ ρ') ∨ (∃ (τ' : Mem) (k' step' : Nat), X9_findFault_L31 (5000 - step) τ bare step = X9_findFault_L31 (5000 - step') τ' 0 step' ∧ step' ≤ k' ∧ k < k' ∧ PR B n T τ' ρ' k' d ∧ FR τ τ' ρ ρ' ∧ (∀ i, i < d → τ' 48 i = τ 48 i ∧ τ' 49 i = τ 49 i) ∧ (τ 41 4 = 1 → τ' 41 4 = 1) ∧ ρ 111 13 ≤ ρ' 111 13)
/-- one turn of the class's loop -/
theorem c_turn {B : Nat → Int} {n T k step : Nat} {τ : Mem} {bare : Int} (tk : TK B n T τ) (hk : k ≤ T) (ha : τ 41 1 = k) (hs : step ≤ k) : X9_findFault_L31 (5000 - step) τ bare step = if kdP B n (tS B n k) = 0 ∧ w32 (τ 41 5) = 0 ∧ w32 bare = 0 then some ((-1 : Int), τ) else X9_findFault_B66 (X9_findFault_L31 (5000 - (step + 1))) τ bare step (kdP B n (tS B n k)) := by
  have hn := tk.2.2.1
  have hTn := tk.2.1
  have hki := kdP_in (B := B) (n := n) (s := tS B n k)
  rw [show 5000 - step = (5000 - (step + 1)) + 1 by omega]
  show X9_findFault_B31 _ _ _ _ = _
  unfold X9_findFault_B31
  rw [if_neg (by first | omega | (unfold w32; omega)), ha, bdk (tk.at hk).1]
  by_cases c0 : kdP B n (tS B n k) = 0
  · rw [c0, if_neg (by decide)]
    by_cases c1 : w32 (τ 41 5) = 0
    · rw [if_neg (fun x => x c1)]
      by_cases c2 : w32 bare = 0
      · rw [if_neg (fun x => x c2), if_pos ⟨rfl, c1, c2⟩]
      · rw [if_pos c2, if_neg (fun x => c2 x.2.2)]
    · rw [if_pos c1, if_neg (fun x => c1 x.2.1)]
  · rw [if_pos (by rw [w32_id (by omega) (by omega)]; exact c0), if_neg (fun x => c0 x.1)]
