/-! the best laying from a page and a bar on: stops, cost, pages, last bar of the first page -/
abbrev T4 : Type := Int × Int × Int × Nat
def bst (x y : Option T4) : Option T4 := match x, y with
  | none, y => y
  | some a, none => some a
  | some a, some b => if b.1 < a.1 ∨ b.1 = a.1 ∧ (b.2.1 < a.2.1 ∨ b.2.1 = a.2.1 ∧ b.2.2.1 < a.2.2.1) then some b else some a
def bfl (f : Nat → Option T4) : Nat → Nat → Option T4 → Option T4
  | 0, _, x => x
  | n + 1, k, x => bfl f n (k + 1) (bst x (f k))
def cnd (N : Nat) (pk : Nat → Nat → Option Int) (pp : Int) (tn sp : Nat → Bool) (g b k : Nat) (y : Option T4) : Option T4 := match pk b k, y with
  | some v, some w => some (w.1 + (if k + 1 < N ∧ tn g = true ∧ sp k = true then 1 else 0), v / 4 + pp + w.2.1, 1 + w.2.2.1, k)
  | _, _ => none
def bwF (N : Nat) (pk : Nat → Nat → Option Int) (pp : Int) (tn sp : Nat → Bool) : Nat → Nat → Nat → Option T4
  | 0, _, b => if N ≤ b then some (0, 0, 0, 0) else none
  | f + 1, g, b => if N ≤ b then some (0, 0, 0, 0) else bfl (fun k => cnd N pk pp tn sp g b k (bwF N pk pp tn sp f (g + 1) (k + 1))) (N - b) b none
def bW (N : Nat) (pk : Nat → Nat → Option Int) (pp : Int) (tn sp : Nat → Bool) (g b : Nat) : Option T4 := bwF N pk pp tn sp (N - b) g b
theorem bfl_congr {f h : Nat → Option T4} : ∀ (n k : Nat) (x : Option T4), (∀ j, k ≤ j → j < k + n → f j = h j) → bfl f n k x = bfl h n k x
  | 0, _, _, _ => rfl
  | n + 1, k, x, hh => by
    show bfl f n (k + 1) (bst x (f k)) = bfl h n (k + 1) (bst x (h k))
    rw [hh k (by omega) (by omega)]
    exact bfl_congr n (k + 1) _ (fun j j1 j2 => hh j (by omega) (by omega))
theorem bst_none (x : Option T4) : bst x none = x := by cases x <;> rfl
theorem bst_or (x y : Option T4) : bst x y = x ∨ bst x y = y := by
  cases x with
  | none => exact Or.inr rfl
  | some a =>
    cases y with
    | none => exact Or.inl rfl
    | some b =>
      show (if _ then some b else some a) = _ ∨ (if _ then some b else some a) = _
      split
      · exact Or.inr rfl
      · exact Or.inl rfl
theorem bfl_mem {f : Nat → Option T4} : ∀ (n k : Nat) (x : Option T4) (w : T4), bfl f n k x = some w → x = some w ∨ ∃ j, k ≤ j ∧ j < k + n ∧ f j = some w
  | 0, _, _, _, h => Or.inl h
  | n + 1, k, x, w, h => by
    rcases bfl_mem n (k + 1) (bst x (f k)) w h with h1 | ⟨j, j1, j2, j3⟩
    · rcases bst_or x (f k) with e | e
      · exact Or.inl (by rw [← e]; exact h1)
      · exact Or.inr ⟨k, by omega, by omega, by rw [← e]; exact h1⟩
    · exact Or.inr ⟨j, by omega, by omega, j3⟩
section
variable {N : Nat} {pk : Nat → Nat → Option Int} {pp : Int} {tn sp : Nat → Bool}
theorem bw_fuel : ∀ (f f' g b : Nat), N - b ≤ f → N - b ≤ f' → bwF N pk pp tn sp f g b = bwF N pk pp tn sp f' g b
  | 0, 0, _, _, _, _ => rfl
  | 0, f' + 1, g, b, h1, h2 => by
    show (if N ≤ b then _ else _) = (if N ≤ b then _ else _)
    rw [if_pos (by omega), if_pos (by omega)]
  | f + 1, 0, g, b, h1, h2 => by
    show (if N ≤ b then _ else _) = (if N ≤ b then _ else _)
    rw [if_pos (by omega), if_pos (by omega)]
  | f + 1, f' + 1, g, b, h1, h2 => by
    show (if N ≤ b then _ else _) = (if N ≤ b then _ else _)
    by_cases h : N ≤ b
    · rw [if_pos h, if_pos h]
    · rw [if_neg h, if_neg h]
      refine bfl_congr _ _ _ (fun j j1 j2 => ?_)
      show cnd N pk pp tn sp g b j _ = cnd N pk pp tn sp g b j _
      rw [bw_fuel f f' (g + 1) (j + 1) (by omega) (by omega)]
theorem bW_end {g b : Nat} (h : N ≤ b) : bW N pk pp tn sp g b = some (0, 0, 0, 0) := by
  unfold bW
  rw [show N - b = 0 by omega]
  exact if_pos h
theorem bW_eq {g b : Nat} (h : b < N) : bW N pk pp tn sp g b = bfl (fun k => cnd N pk pp tn sp g b k (bW N pk pp tn sp (g + 1) (k + 1))) (N - b) b none := by
  unfold bW
  rw [show N - b = (N - b - 1) + 1 by omega]
  show (if N ≤ b then _ else _) = _
  rw [if_neg (by omega), show N - b - 1 + 1 = N - b by omega]
  refine bfl_congr _ _ _ (fun j j1 j2 => ?_)
  show cnd N pk pp tn sp g b j _ = cnd N pk pp tn sp g b j _
  rw [bw_fuel (N - b - 1) (N - (j + 1)) (g + 1) (j + 1) (by omega) (by omega)]
theorem bw_q (ht : ∀ g, tn (qst g) = tn g) : ∀ (f g b : Nat), bwF N pk pp tn sp f (qst g) b = bwF N pk pp tn sp f g b
  | 0, _, _ => rfl
  | f + 1, g, b => by
    show (if N ≤ b then _ else bfl _ _ _ _) = (if N ≤ b then _ else bfl _ _ _ _)
    have : (fun k => cnd N pk pp tn sp (qst g) b k (bwF N pk pp tn sp f (qst g + 1) (k + 1))) = fun k => cnd N pk pp tn sp g b k (bwF N pk pp tn sp f (g + 1) (k + 1)) := by
      funext k
      rw [← bw_q ht f (qst g + 1) (k + 1), qst_s, bw_q ht f (g + 1) (k + 1)]
      unfold cnd
      rw [ht]
    rw [this]
theorem bW_q (ht : ∀ g, tn (qst g) = tn g) (g b : Nat) : bW N pk pp tn sp (qst g) b = bW N pk pp tn sp g b := bw_q ht _ g b
theorem cnd_some {g b k : Nat} {y : Option T4} {w : T4} (h : cnd N pk pp tn sp g b k y = some w) : ∃ v u, pk b k = some v ∧ y = some u ∧ w = (u.1 + (if k + 1 < N ∧ tn g = true ∧ sp k = true then 1 else 0), v / 4 + pp + u.2.1, 1 + u.2.2.1, k) := by
  unfold cnd at h
  cases hv : pk b k with
  | none => rw [hv] at h; cases h
  | some v =>
    rw [hv] at h
    cases y with
    | none => cases h
    | some u => exact ⟨v, u, rfl, rfl, (Option.some.inj h).symm⟩
/-- what the best is made of -/
theorem bW_sel {g b : Nat} {w : T4} (hb : b < N) (h : bW N pk pp tn sp g b = some w) : ∃ v u k, b ≤ k ∧ k < N ∧ pk b k = some v ∧ bW N pk pp tn sp (g + 1) (k + 1) = some u ∧ w = (u.1 + (if k + 1 < N ∧ tn g = true ∧ sp k = true then 1 else 0), v / 4 + pp + u.2.1, 1 + u.2.2.1, k) := by
  rw [bW_eq hb] at h
  rcases bfl_mem _ _ _ _ h with h1 | ⟨j, j1, j2, j3⟩
  · cases h1
  · obtain ⟨v, u, h1, h2, h3⟩ := cnd_some j3
    exact ⟨v, u, j, j1, by omega, h1, h2, h3⟩
theorem bW_in (hpk : ∀ b k, b ≤ k → k < N → bnd (pk b k)) (hpp : 0 ≤ pp ∧ pp ≤ 999) (g b : Nat) : ∀ (d : Nat) (g b : Nat) (w : T4), N - b ≤ d → bW N pk pp tn sp g b = some w → 0 ≤ w.1 ∧ w.1 ≤ d ∧ -250 * (d : Int) ≤ w.2.1 ∧ w.2.1 ≤ 252000 * (d : Int) ∧ 0 ≤ w.2.2.1 ∧ w.2.2.1 ≤ d := by
  intro d
  induction d with
  | zero =>
    intro g b w h1 h2
    rw [bW_end (by omega)] at h2
    rw [← Option.some.inj h2]
    simp
  | succ d ih =>
    intro g b w h1 h2
    by_cases hb : N ≤ b
    · rw [bW_end hb] at h2
      rw [← Option.some.inj h2]
      simp
      omega
    · obtain ⟨v, u, k, k1, k2, h3, h4, rfl⟩ := bW_sel (by omega) h2
      have i1 := ih (g + 1) (k + 1) u (by omega) h4
      have i2 := hpk b k k1 k2 v h3
      simp only
      split <;> omega
end
def eW (x : Option T4) : Int := match x with
  | none => 9223372036854775807
  | some w => w.1 * 1099511627776 + w.2.1 * 64 + w.2.2.1
def okW (x : Option T4) : Prop := ∀ w, x = some w → 0 ≤ w.1 ∧ w.1 ≤ 100 ∧ -100000 ≤ w.2.1 ∧ w.2.1 ≤ 20000000 ∧ 0 ≤ w.2.2.1 ∧ w.2.2.1 ≤ 60
theorem eW_in {x : Option T4} (h : okW x) : -10000000000 ≤ eW x ∧ eW x ≤ 9223372036854775807 ∧ (eW x = 9223372036854775807 ↔ x = none) := by
  cases x with
  | none => exact ⟨by decide, by decide, ⟨fun _ => rfl, fun _ => rfl⟩⟩
  | some w =>
    have := h w rfl
    have e : eW (some w) = w.1 * 1099511627776 + w.2.1 * 64 + w.2.2.1 := rfl
    rw [e]
    refine ⟨by omega, by omega, ⟨fun h => by omega, fun h => by cases h⟩⟩
theorem eW_le {x : Option T4} {y : T4} (hx : okW x) (hy : okW (some y)) : (w64 (eW x) ≤ w64 (eW (some y)) ∧ bst x (some y) = x) ∨ (¬ w64 (eW x) ≤ w64 (eW (some y)) ∧ bst x (some y) = some y) := by
  have i1 := eW_in hx
  have i2 := eW_in hy
  have i3 := hy y rfl
  rw [w64_id (by omega) (by omega), w64_id (by omega) (by omega)]
  have e2 : eW (some y) = y.1 * 1099511627776 + y.2.1 * 64 + y.2.2.1 := rfl
  cases x with
  | none =>
    refine Or.inr ⟨?_, rfl⟩
    show ¬ (9223372036854775807 : Int) ≤ eW (some y)
    omega
  | some a =>
    have i4 := hx a rfl
    have e1 : eW (some a) = a.1 * 1099511627776 + a.2.1 * 64 + a.2.2.1 := rfl
    rw [e1, e2]
    show (_ ∧ (if _ then some y else some a) = _) ∨ (_ ∧ (if _ then some y else some a) = _)
    by_cases c : y.1 < a.1 ∨ y.1 = a.1 ∧ (y.2.1 < a.2.1 ∨ y.2.1 = a.2.1 ∧ y.2.2.1 < a.2.2.1)
    · rw [if_pos c]
      exact Or.inr ⟨by omega, rfl⟩
    · rw [if_neg c]
      exact Or.inl ⟨by omega, rfl⟩
