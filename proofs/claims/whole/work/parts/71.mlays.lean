/-! the reference lays -/
section
variable {N : Nat} {pk : Nat → Nat → Option Int} {pp : Int} {tn sp : Nat → Bool}
def EB (N : Nat) (pk : Nat → Nat → Option Int) (pp : Int) (tn sp : Nat → Bool) (ρ : Mem) (g b : Nat) : Prop := ∃ z, EN ρ (41 * g + b) (bW N pk pp tn sp g b) z ∧ ∀ w v, bW N pk pp tn sp g b = some w → pk b w.2.2.2 = some v → z = v % 4
theorem EN.frame {ρ ρ' : Mem} {x : Nat} {o : Option T4} {z : Int} (h : EN ρ x o z) (hf : ∀ q, ρ' q x = ρ q x) : EN ρ' x o z := by
  unfold EN at *
  cases o with
  | none => simp only at *; rw [hf]; exact h
  | some w => simp only at *; rw [hf, hf, hf, hf, hf]; exact h
theorem EB.frame {ρ ρ' : Mem} {g b : Nat} (h : EB N pk pp tn sp ρ g b) (hf : ∀ q, ρ' q (41 * g + b) = ρ q (41 * g + b)) : EB N pk pp tn sp ρ' g b := by
  obtain ⟨z, h1, h2⟩ := h
  exact ⟨z, h1.frame hf, h2⟩
theorem okN_bW (hpk : ∀ b k, b ≤ k → k < N → bnd (pk b k)) (hpp : 0 ≤ pp ∧ pp ≤ 999) (hN : N ≤ 40) (g b : Nat) (hb : b < N) : okN (bW N pk pp tn sp g b) := fun w hw => by
  have := bW_in hpk hpp g b 40 g b w (by omega) hw
  obtain ⟨v, u, k, k1, k2, h3, h4, rfl⟩ := bW_sel hb hw
  simp only at *
  omega
end
theorem okN_bfl {f : Nat → Option T4} {n k : Nat} (h : ∀ j, k ≤ j → j < k + n → okN (f j)) : okN (bfl f n k none) := fun w hw => by
  rcases bfl_mem _ _ _ _ hw with h1 | ⟨j, j1, j2, j3⟩
  · cases h1
  · exact h j j1 j2 w j3
theorem bfl_last {f : Nat → Option T4} {n k : Nat} {w : T4} (h : bfl f n k none = some w) (hf : ∀ j w, f j = some w → w.2.2.2 = j) : k ≤ w.2.2.2 ∧ w.2.2.2 < k + n := by
  rcases bfl_mem _ _ _ _ h with h1 | ⟨j, j1, j2, j3⟩
  · cases h1
  · rw [hf j w j3]; exact ⟨j1, j2⟩
def envR (r : Nat → Int) (p : Nat) (sp : Nat → Bool) (r0 : Nat → Int) (ρ : Mem) : Prop := ρ 112 = r ∧ (∀ s b k : Nat, s < 3 → b ≤ k → (k : Int) < r (9 + 165 * p) → ρ 118 (cel s b k) = eM (pgc r0 p s b k)) ∧ ∀ k : Nat, (k : Int) < r (9 + 165 * p) → ρ 120 k = if sp k = true then 1 else 0
