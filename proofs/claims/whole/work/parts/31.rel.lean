/-! the relation of the class's state to a row of 766 numbers; what holds of such a row -/
def CRB (B : Nat) (r : Nat → Int) (σ : Mem) : Prop :=
  (∀ i, i < 5 → σ (B + 2) i = r i) ∧
  (∀ p, p < 4 → ∀ w, w < 4 → σ (B + 9 + 3 * p) w = r (5 + 165 * p + w)) ∧
  (∀ p, p < 4 → σ (B + 8 + 3 * p) 2 = r (9 + 165 * p)) ∧
  (∀ p, p < 4 → ∀ j : Nat, j < 160 → (j : Int) < 4 * r (9 + 165 * p) → σ (B + 10 + 3 * p) j = r (10 + 165 * p + j)) ∧
  σ (B + 3) 3 = r 665 ∧
  (∀ k : Nat, k < 30 → (k : Int) < r 665 → ∀ q, q < 3 → σ (B + 4 + q) k = r (666 + 3 * k + q)) ∧
  (∀ s, s < 10 → σ (B + 7) s = r (756 + s))
def WF (r : Nat → Int) : Prop :=
  ((20 ≤ r 0 ∧ r 0 ≤ 200) ∧ (1 ≤ r 1 ∧ r 1 ≤ 6) ∧ (0 ≤ r 2 ∧ r 2 ≤ 999) ∧ (0 ≤ r 3 ∧ r 3 ≤ 99) ∧ (0 ≤ r 4 ∧ r 4 ≤ 999)) ∧
  (∀ p, p < 4 → (30 ≤ r (5 + 165 * p) ∧ r (5 + 165 * p) ≤ 240) ∧ (0 ≤ r (6 + 165 * p) ∧ r (6 + 165 * p) ≤ 8) ∧ (-1 ≤ r (7 + 165 * p) ∧ r (7 + 165 * p) ≤ 3 ∧ r (7 + 165 * p) ≠ (p : Int)) ∧ (0 ≤ r (8 + 165 * p) ∧ r (8 + 165 * p) ≤ 1023) ∧ (0 ≤ r (9 + 165 * p) ∧ r (9 + 165 * p) ≤ 40)) ∧
  (∀ p, p < 4 → ∀ b : Nat, (b : Int) < r (9 + 165 * p) → (1 ≤ r (10 + 165 * p + 4 * b) ∧ r (10 + 165 * p + 4 * b) ≤ 60) ∧ (0 ≤ r (11 + 165 * p + 4 * b) ∧ r (11 + 165 * p + 4 * b) ≤ 2) ∧ (1 ≤ r (12 + 165 * p + 4 * b) ∧ r (12 + 165 * p + 4 * b) ≤ 12) ∧ (0 ≤ r (13 + 165 * p + 4 * b) ∧ r (13 + 165 * p + 4 * b) ≤ 7)) ∧
  (0 ≤ r 665 ∧ r 665 ≤ 30) ∧
  (∀ k : Nat, (k : Int) < r 665 → (0 ≤ r (666 + 3 * k) ∧ r (666 + 3 * k) ≤ 6) ∧ (0 ≤ r (667 + 3 * k) ∧ r (667 + 3 * k) ≤ 3) ∧ (0 ≤ r (668 + 3 * k) ∧ r (668 + 3 * k) < r (9 + 165 * (r (667 + 3 * k)).toNat))) ∧
  (∀ s, s < 10 → -1 ≤ r (756 + s) ∧ r (756 + s) < r 665)
theorem CRB.frame {B : Nat} {r : Nat → Int} {σ τ : Mem} (h : CRB B r σ) (hf : ∀ k, B ≤ k → k < B + 20 → τ k = σ k) : CRB B r τ := by
  obtain ⟨h1, h2, h3, h4, h5, h6, h7⟩ := h
  refine ⟨fun i hi => ?_, fun p hp w hw => ?_, fun p hp => ?_, fun p hp j hj0 hj => ?_, ?_, fun k hk0 hk q hq => ?_, fun s hs => ?_⟩
  · rw [hf _ (by omega) (by omega)]; exact h1 i hi
  · rw [hf _ (by omega) (by omega)]; exact h2 p hp w hw
  · rw [hf _ (by omega) (by omega)]; exact h3 p hp
  · rw [hf _ (by omega) (by omega)]; exact h4 p hp j hj0 hj
  · rw [hf _ (by omega) (by omega)]; exact h5
  · rw [hf _ (by omega) (by omega)]; exact h6 k hk0 hk q hq
  · rw [hf _ (by omega) (by omega)]; exact h7 s hs
theorem CRB.oth {B : Nat} {r : Nat → Int} {σ : Mem} {a j : Nat} {v : Int} (h : CRB B r σ) (ha : a < B ∨ B + 20 ≤ a) : CRB B r (st σ a j v) := h.frame (fun k h1 h2 => st_ne (by omega))
theorem CRB.trait {B : Nat} {r : Nat → Int} {σ : Mem} {p w : Nat} {v : Int} (h : CRB B r σ) (hp : p < 4) (hw : w < 4) : CRB B (up r (5 + 165 * p + w) v) (st σ (B + 9 + 3 * p) w v) := by
  obtain ⟨h1, h2, h3, h4, h5, h6, h7⟩ := h
  refine ⟨fun i hi => ?_, fun q hq x hx => ?_, fun q hq => ?_, fun q hq j hj0 hj => ?_, ?_, fun k hk0 hk q hq => ?_, fun s hs => ?_⟩
  · rw [st_ne (by omega), up_ne (by omega)]; exact h1 i hi
  · by_cases hqp : q = p
    · subst hqp
      rw [st_self]
      by_cases hxw : x = w
      · subst hxw; rw [up_at, up_at]
      · rw [up_ne hxw, up_ne (by omega)]; exact h2 q hq x hx
    · rw [st_ne (by omega), up_ne (by omega)]; exact h2 q hq x hx
  · rw [st_ne (by omega), up_ne (by omega)]; exact h3 q hq
  · rw [up_ne (by omega)] at hj
    rw [st_ne (by omega), up_ne (by omega)]
    exact h4 q hq j hj0 hj
  · rw [st_ne (by omega), up_ne (by omega)]; exact h5
  · rw [up_ne (by omega)] at hk
    rw [st_ne (by omega), up_ne (by omega)]; exact h6 k hk0 hk q hq
  · rw [st_ne (by omega), up_ne (by omega)]; exact h7 s hs
theorem CRB.rule {B : Nat} {r : Nat → Int} {σ : Mem} {i : Nat} {v : Int} (h : CRB B r σ) (hi : i < 5) : CRB B (up r i v) (st σ (B + 2) i v) := by
  obtain ⟨h1, h2, h3, h4, h5, h6, h7⟩ := h
  refine ⟨fun x hx => ?_, fun q hq x hx => ?_, fun q hq => ?_, fun q hq j hj0 hj => ?_, ?_, fun k hk0 hk q hq => ?_, fun s hs => ?_⟩
  · rw [st_self]
    by_cases hxi : x = i
    · subst hxi; rw [up_at, up_at]
    · rw [up_ne hxi, up_ne hxi]; exact h1 x hx
  · rw [st_ne (by omega), up_ne (by omega)]; exact h2 q hq x hx
  · rw [st_ne (by omega), up_ne (by omega)]; exact h3 q hq
  · rw [up_ne (by omega)] at hj
    rw [st_ne (by omega), up_ne (by omega)]
    exact h4 q hq j hj0 hj
  · rw [st_ne (by omega), up_ne (by omega)]; exact h5
  · rw [up_ne (by omega)] at hk
    rw [st_ne (by omega), up_ne (by omega)]; exact h6 k hk0 hk q hq
  · rw [st_ne (by omega), up_ne (by omega)]; exact h7 s hs
theorem CRB.fact {B : Nat} {r : Nat → Int} {σ : Mem} {p j : Nat} {v : Int} (h : CRB B r σ) (hp : p < 4) (hj : j < 160) : CRB B (up r (10 + 165 * p + j) v) (st σ (B + 10 + 3 * p) j v) := by
  obtain ⟨h1, h2, h3, h4, h5, h6, h7⟩ := h
  refine ⟨fun i hi => ?_, fun q hq x hx => ?_, fun q hq => ?_, fun q hq x hx0 hx => ?_, ?_, fun k hk0 hk q hq => ?_, fun s hs => ?_⟩
  · rw [st_ne (by omega), up_ne (by omega)]; exact h1 i hi
  · rw [st_ne (by omega), up_ne (by omega)]; exact h2 q hq x hx
  · rw [st_ne (by omega), up_ne (by omega)]; exact h3 q hq
  · rw [up_ne (by omega)] at hx
    by_cases hqp : q = p
    · subst hqp
      rw [st_self]
      by_cases hxj : x = j
      · subst hxj; rw [up_at, up_at]
      · rw [up_ne hxj, up_ne (by omega)]; exact h4 q hq x hx0 hx
    · rw [st_ne (by omega), up_ne (by omega)]; exact h4 q hq x hx0 hx
  · rw [st_ne (by omega), up_ne (by omega)]; exact h5
  · rw [up_ne (by omega)] at hk
    rw [st_ne (by omega), up_ne (by omega)]; exact h6 k hk0 hk q hq
  · rw [st_ne (by omega), up_ne (by omega)]; exact h7 s hs
theorem CRB.spot {B : Nat} {r : Nat → Int} {σ : Mem} {s : Nat} {v : Int} (h : CRB B r σ) (hs : s < 10) : CRB B (up r (756 + s) v) (st σ (B + 7) s v) := by
  obtain ⟨h1, h2, h3, h4, h5, h6, h7⟩ := h
  refine ⟨fun i hi => ?_, fun q hq x hx => ?_, fun q hq => ?_, fun q hq x hx0 hx => ?_, ?_, fun k hk0 hk q hq => ?_, fun x hx => ?_⟩
  · rw [st_ne (by omega), up_ne (by omega)]; exact h1 i hi
  · rw [st_ne (by omega), up_ne (by omega)]; exact h2 q hq x hx
  · rw [st_ne (by omega), up_ne (by omega)]; exact h3 q hq
  · rw [up_ne (by omega)] at hx
    rw [st_ne (by omega), up_ne (by omega)]; exact h4 q hq x hx0 hx
  · rw [st_ne (by omega), up_ne (by omega)]; exact h5
  · rw [up_ne (by omega)] at hk
    rw [st_ne (by omega), up_ne (by omega)]; exact h6 k hk0 hk q hq
  · rw [st_self]
    by_cases hxs : x = s
    · subst hxs; rw [up_at, up_at]
    · rw [up_ne hxs, up_ne (by omega)]; exact h7 x hx
