theorem wif0 {α : Type} {c : Prop} {i : Decidable c} {a b : α} : (if w32 (if c then 1 else 0) = 0 then a else b) = if c then b else a := by
  by_cases h : c
  · rw [if_pos h, if_neg (by decide), if_pos h]
  · rw [if_neg h, if_pos (by decide), if_neg h]
theorem wif1 {α : Type} {c : Prop} {i : Decidable c} {a b : α} : (if w32 (if c then 1 else 0) ≠ 0 then a else b) = if c then a else b := by
  by_cases h : c
  · rw [if_pos h, if_pos (by decide), if_pos h]
  · rw [if_neg h, if_neg (by decide), if_neg h]
theorem within_if {σ : Mem} {v a b : Int} (hv : inR v) (ha : inR a) (hb : inR b) : X10_within σ v a b = some (if a ≤ v ∧ v ≤ b then 1 else 0) := by
  by_cases h : a ≤ v ∧ v ≤ b
  · rw [within_t h.1 h.2 ha.1 hb.2, if_pos h]
  · rw [within_f h hv ha hb, if_neg h]
theorem in_if {σ : Mem} {v a b : Int} (hv : inR v) (ha : inR a) (hb : inR b) : X11_in σ v a b = some (if a ≤ v ∧ v ≤ b then 1 else 0) := by
  by_cases h : a ≤ v ∧ v ≤ b
  · rw [in_t h.1 h.2 ha.1 hb.2, if_pos h]
  · rw [in_f h hv ha hb, if_neg h]
theorem isPart_if {σ : Mem} {p : Int} (hp : inR p) : X10_isPart σ p = some (if 0 ≤ p ∧ p ≤ 3 then 1 else 0) := by
  by_cases h : 0 ≤ p ∧ p ≤ 3
  · rw [isPart_t h.1 h.2, if_pos h]
  · rw [isPart_f h hp, if_neg h]
theorem mPart_if {σ : Mem} {p : Int} (hp : inR p) : X11_isPart σ p = some (if 0 ≤ p ∧ p ≤ 3 then 1 else 0) := by
  by_cases h : 0 ≤ p ∧ p ≤ 3
  · rw [mPart_t h.1 h.2, if_pos h]
  · rw [mPart_f h hp, if_neg h]
theorem isSheet_if {σ : Mem} {p : Int} (hp : inR p) : X10_isSheet σ p = some (if 0 ≤ p ∧ p ≤ 3 then 1 else 0) := by
  by_cases h : 0 ≤ p ∧ p ≤ 3
  · rw [isSheet_t h.1 h.2, if_pos h]
  · rw [isSheet_f h hp, if_neg h]
theorem mSheet_if {σ : Mem} {p : Int} (hp : inR p) : X11_isSheet σ p = some (if 0 ≤ p ∧ p ≤ 3 then 1 else 0) := by
  by_cases h : 0 ≤ p ∧ p ≤ 3
  · rw [mSheet_t h.1 h.2, if_pos h]
  · rw [mSheet_f h hp, if_neg h]
theorem isSize_if {σ : Mem} {p : Int} (hp : inR p) : X10_isSize σ p = some (if 0 ≤ p ∧ p ≤ 2 then 1 else 0) := by
  by_cases h : 0 ≤ p ∧ p ≤ 2
  · rw [isSize_t h.1 h.2, if_pos h]
  · rw [isSize_f h hp, if_neg h]
theorem isBar_if {σ : Mem} {p b : Int} (hp : inR p) (hb : inR b) (h40 : ∀ p, p < 4 → 0 ≤ σ (9 + 3 * p) 2 ∧ σ (9 + 3 * p) 2 ≤ 40) : X10_isBar σ p b = some (if 0 ≤ p ∧ p ≤ 3 ∧ 0 ≤ b ∧ b < σ (9 + 3 * p.toNat) 2 then 1 else 0) := by
  by_cases h : 0 ≤ p ∧ p ≤ 3 ∧ 0 ≤ b ∧ b < σ (9 + 3 * p.toNat) 2
  · rw [isBar_t ⟨h.1, h.2.1⟩ h.2.2.1 h.2.2.2 (h40 _ (by omega)).2, if_pos h]
  · rw [isBar_f hp hb h (fun _ _ => h40 _ (by omega)), if_neg h]
theorem mBar_if {σ : Mem} {p b : Int} (hp : inR p) (hb : inR b) (h40 : ∀ p, p < 4 → 0 ≤ σ 112 (9 + 165 * p) ∧ σ 112 (9 + 165 * p) ≤ 40) : X11_isBar σ p b = some (if 0 ≤ p ∧ p ≤ 3 ∧ 0 ≤ b ∧ b < σ 112 (9 + 165 * p.toNat) then 1 else 0) := by
  by_cases h : 0 ≤ p ∧ p ≤ 3 ∧ 0 ≤ b ∧ b < σ 112 (9 + 165 * p.toNat)
  · rw [mBar_t ⟨h.1, h.2.1⟩ h.2.2.1 h.2.2.2 (h40 _ (by omega)).2, if_pos h]
  · rw [mBar_f hp hb h (fun _ _ => h40 _ (by omega)), if_neg h]
theorem has_if {σ : Mem} {B : Nat} {k : Int} (hk : inR k) (hn : 0 ≤ σ B 3 ∧ σ B 3 ≤ 30) : X0_has σ B k = some (if 0 ≤ k ∧ k < σ B 3 then 1 else 0) := by
  unfold X0_has
  rw [inR_w hk, w32_id (x := σ B 3) (by omega) (by omega)]
  by_cases h1 : k < 0
  · rw [if_pos h1, if_neg (by omega)]
  · rw [if_neg h1]
    by_cases h2 : σ B 3 ≤ k
    · rw [if_pos h2, if_neg (by omega)]
    · rw [if_neg h2, if_pos (by omega)]
theorem isBreak_if {σ : Mem} {k : Int} (hk : inR k) (hn : 0 ≤ σ 112 665 ∧ σ 112 665 ≤ 30) : X11_isBreak σ k = some (if 0 ≤ k ∧ k < σ 112 665 then 1 else 0) := by
  unfold X11_isBreak
  rw [ag_ok (by decide) (by decide) (by decide), show ((665 : Int).toNat) = 665 from rfl, inR_w hk, w32_id (by omega) (by omega), in_if hk ⟨by decide, by decide⟩ ⟨by omega, by omega⟩, bd_some]
  by_cases h : 0 ≤ k ∧ k < σ 112 665
  · rw [if_pos h, if_pos (by omega), bg_1]
  · rw [if_neg h, if_neg (by omega), bg_0]
theorem iR0 {a : Int} (h1 : -2147483648 ≤ a) (h2 : a < 2147483648) : inR a := ⟨h1, h2⟩
/-! hold -/
def okHold (n s k : Int) : Prop := (0 ≤ s ∧ s ≤ 9) ∧ (k = -1 ∨ (0 ≤ k ∧ k < n))
theorem c_hold {σ : Mem} {s k : Int} (hs : inR s) (hk : inR k) (hn : 0 ≤ σ 4 3 ∧ σ 4 3 ≤ 30) : (okHold (σ 4 3) s k → X10_hold σ s k = some (1, st σ 8 s.toNat k)) ∧ (¬ okHold (σ 4 3) s k → X10_hold σ s k = some (-1000001, tel σ 0)) := by
  unfold X10_hold X10_hold_B29 okHold
  rw [within_if hs (iR0 (by decide) (by decide)) (iR0 (by decide) (by decide)), bd_some, wif0, tell_0, bd2_some, inR_w hk, w32_id (x := -1) (by decide) (by decide), has_if hk hn, bd_some, wif1]
  by_cases h1 : 0 ≤ s ∧ s ≤ 9
  · have e : X10_hold_B36 σ s k = some (1, st σ 8 s.toNat k) := by
      unfold X10_hold_B36
      rw [ag_ok h1.1 (by omega) (by decide), lt_v]
    rw [if_pos h1, e]
    by_cases h2 : k = -1
    · rw [if_pos h2]
      exact ⟨fun _ => rfl, fun h => absurd ⟨h1, Or.inl h2⟩ h⟩
    · rw [if_neg h2]
      by_cases h3 : 0 ≤ k ∧ k < σ 4 3
      · rw [if_pos h3]
        exact ⟨fun _ => rfl, fun h => absurd ⟨h1, Or.inr h3⟩ h⟩
      · rw [if_neg h3]
        exact ⟨fun h => absurd h.2 (by omega), fun _ => rfl⟩
  · rw [if_neg h1]
    exact ⟨fun h => absurd h.1 h1, fun _ => rfl⟩
theorem m_hold {σ : Mem} {s k : Int} (hs : inR s) (hk : inR k) (hn : 0 ≤ σ 112 665 ∧ σ 112 665 ≤ 30) : (okHold (σ 112 665) s k → X11_hold σ s k = some (1, st σ 112 (756 + s.toNat) k)) ∧ (¬ okHold (σ 112 665) s k → X11_hold σ s k = some (-1000001, fnd σ 0)) := by
  unfold X11_hold X11_hold_B25 okHold
  rw [inR_w hs, in_if hs (iR0 (by decide) (by decide)) (iR0 (by decide) (by decide)), bd_some, wif0, finds_0, bd2_some, inR_w hk, w32_id (x := -1) (by decide) (by decide), isBreak_if hk hn, bd_some, wif1]
  by_cases h1 : 0 ≤ s ∧ s ≤ 9
  · have e : X11_hold_B31 σ s k = some (1, st σ 112 (756 + s.toNat) k) := by
      unfold X11_hold_B31
      rw [ag_ok (by omega) (by omega) (by decide), lt_v, show (756 + s).toNat = 756 + s.toNat by omega]
    rw [if_pos h1, e]
    by_cases h2 : k = -1
    · rw [if_pos h2]
      exact ⟨fun _ => rfl, fun h => absurd ⟨h1, Or.inl h2⟩ h⟩
    · rw [if_neg h2]
      by_cases h3 : 0 ≤ k ∧ k < σ 112 665
      · rw [if_pos h3]
        exact ⟨fun _ => rfl, fun h => absurd ⟨h1, Or.inr h3⟩ h⟩
      · rw [if_neg h3]
        exact ⟨fun h => absurd h.2 (by omega), fun _ => rfl⟩
  · rw [if_neg h1]
    exact ⟨fun h => absurd h.1 h1, fun _ => rfl⟩
