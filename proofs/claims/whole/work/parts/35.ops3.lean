/-! rule -/
def okRule (w v : Int) : Prop := (0 ≤ w ∧ w ≤ 4) ∧ (sv 2 w.toNat ≤ v ∧ v ≤ sv 3 w.toNat)
theorem c_rule_ok {σ : Mem} {w : Nat} {v : Int} (hv : inR v) (h : okRule w v) : X10_rule σ w v = some (σ 3 w, if w = 2 ∨ w = 4 then fgl (st σ 3 w v) else fga (st σ 3 w v)) := by
  obtain ⟨hw, h2⟩ := h
  have h2 : sv 2 w ≤ v ∧ v ≤ sv 3 w := h2
  have hw5 : w < 5 := by omega
  have hs := sv23 w hw5
  unfold X10_rule X10_rule_B63
  rw [within_t hw.1 hw.2 (by decide) (by decide), bd_some, if_neg (by decide), ag_nat hw5 (by decide), ag_nat hw5 (by decide), within_t h2.1 h2.2 hs.1.1 hs.2.2, bd_some, if_pos (by decide), ag_nat hw5 (by decide), lt_v, ag_nat hw5 (by decide), lt_v, forgetLayings_eq, bd_some, forgetAll_eq, bd_some, w32_nat (by omega), w32_id (x := 2) (by decide) (by decide), w32_id (x := 4) (by decide) (by decide)]
  by_cases q2 : w = 2
  · rw [if_pos (by omega), if_pos (Or.inl q2)]
  · rw [if_neg (by omega)]
    by_cases q4 : w = 4
    · rw [if_neg (by omega), if_pos (Or.inr q4)]
    · rw [if_pos (by omega), if_neg (by omega)]
theorem c_rule_no {σ : Mem} {w v : Int} (hw : inR w) (hv : inR v) (h : ¬ okRule w v) : X10_rule σ w v = some (-1000001, tel σ 0) := by
  unfold X10_rule X10_rule_B26
  rw [tell_0, bd2_some]
  by_cases h1 : 0 ≤ w ∧ w ≤ 4
  · obtain ⟨W, rfl⟩ : ∃ W : Nat, w = W := ⟨w.toNat, by omega⟩
    have hw5 : W < 5 := by omega
    have hs := sv23 W hw5
    rw [within_t h1.1 h1.2 (by decide) (by decide), bd_some, if_neg (by decide), ag_nat hw5 (by decide), ag_nat hw5 (by decide), within_f (a := sv 2 W) (b := sv 3 W) (fun q => h ⟨h1, q⟩) hv hs.1 hs.2, bd_some, if_neg (by decide)]
  · rw [within_f h1 hw (iR0 (by decide) (by decide)) (iR0 (by decide) (by decide)), bd_some, if_pos (by decide)]
theorem m_rule {σ : Mem} {w v : Int} (hw : inR w) (hv : inR v) : (okRule w v → X11_rule σ w v = some (σ 112 w.toNat, st σ 112 w.toNat v)) ∧ (¬ okRule w v → X11_rule σ w v = some (-1000001, fnd σ 0)) := by
  have e1 : ∀ k : Int, w32 k = 1 → (0 ≤ w ∧ w ≤ 4) → X11_rule_B79 σ w v k = some (σ 112 w.toNat, st σ 112 w.toNat v) := by
    intro k hk h
    unfold X11_rule_B79
    rw [if_pos (by rw [hk]; decide), ag_ok (by omega) (by omega) (by decide), lt_v, ag_ok (by omega) (by omega) (by decide), lt_v, show (0 + w) = w by omega]
  have e0 : ∀ k : Int, w32 k = 0 → X11_rule_B79 σ w v k = some (-1000001, fnd σ 0) := by
    intro k hk
    unfold X11_rule_B79
    rw [if_neg (by rw [hk]; decide), finds_0, bd2_some]
  have e : ∀ c : Prop, ∀ i : Decidable c, (0 ≤ w ∧ w ≤ 4) → X11_rule_B79 σ w v (if c then 1 else 0) = if c then some (σ 112 w.toNat, st σ 112 w.toNat v) else some (-1000001, fnd σ 0) := by
    intro c i h
    by_cases hc : c
    · rw [if_pos hc, if_pos hc]; exact e1 1 rfl h
    · rw [if_neg hc, if_neg hc]; exact e0 0 rfl
  unfold X11_rule X11_rule_B45 X11_rule_B78 okRule
  rw [inR_w hw, inR_w hv, w32_id (x := 1) (by decide) (by decide), w32_id (x := 2) (by decide) (by decide), w32_id (x := 3) (by decide) (by decide), w32_id (x := 4) (by decide) (by decide), in_if hv (iR0 (by decide) (by decide)) (iR0 (by decide) (by decide)), in_if hv (iR0 (by decide) (by decide)) (iR0 (by decide) (by decide)), in_if hv (iR0 (by decide) (by decide)) (iR0 (by decide) (by decide)), in_if hv (iR0 (by decide) (by decide)) (iR0 (by decide) (by decide)), bd_some, bd_some, bd_some, bd_some, wif0]
  by_cases h1 : 0 ≤ w ∧ w ≤ 4
  · rcases (show w = 0 ∨ w = 1 ∨ w = 2 ∨ w = 3 ∨ w = 4 by omega) with rfl | rfl | rfl | rfl | rfl
    · rw [if_neg (by decide), e _ _ h1]
      refine ⟨fun h => if_pos h.2, fun h => if_neg (fun q => h ⟨h1, q⟩)⟩
    · rw [if_pos (by decide), if_neg (by decide), e _ _ h1]
      refine ⟨fun h => if_pos h.2, fun h => if_neg (fun q => h ⟨h1, q⟩)⟩
    · rw [if_pos (by decide), if_pos (by decide), if_pos (by decide), e _ _ h1]
      refine ⟨fun h => if_pos h.2, fun h => if_neg (fun q => h ⟨h1, q⟩)⟩
    · rw [if_pos (by decide), if_pos (by decide), if_neg (by decide), if_pos (by decide), if_neg (by decide), e1 1 rfl h1, e0 0 rfl]
      refine ⟨fun h => if_pos h.2, fun h => if_neg (fun q => h ⟨h1, q⟩)⟩
    · rw [if_pos (by decide), if_pos (by decide), if_neg (by decide), if_neg (by decide), e _ _ h1]
      refine ⟨fun h => if_pos h.2, fun h => if_neg (fun q => h ⟨h1, q⟩)⟩
  · rw [if_pos (by omega), if_pos (by omega), if_neg (by omega), if_pos (by omega), if_pos (by omega), e0 0 rfl]
    exact ⟨fun h => absurd h.1 h1, fun _ => rfl⟩
/-! wipe, tear -/
theorem c_wipe (σ : Mem) : X10_wipe σ = some (σ 42 1, st σ 42 1 0) := rfl
theorem m_wipe (σ : Mem) : X11_wipe σ = some (σ 111 5, st σ 111 5 0) := rfl
theorem c_tear {σ : Mem} (h : σ 0 2 = 0 ∨ σ 0 2 = 1) : X10_tear σ = some (σ 0 2, st σ 0 2 0) := by
  unfold X10_tear X10_tear_B12
  rcases h with h | h <;> rw [h] <;> rfl
theorem m_tear {σ : Mem} (h : σ 111 2 = 0 ∨ σ 111 2 = 1) : X11_tear σ = some (σ 111 2, st σ 111 2 0) := by
  unfold X11_tear X11_tear_B12
  rcases h with h | h <;> rw [h] <;> rfl
/-! bar -/
def okBar (n : Nat → Int) (p b : Int) : Prop := 0 ≤ p ∧ p ≤ 3 ∧ 0 ≤ b ∧ b < n p.toNat
theorem c_fact {σ : Mem} {k : Nat} {b w : Int} (hb : 0 ≤ b ∧ b < 40) (hw : 0 ≤ w ∧ w ≤ 3) : X5_fact σ k b w = some (σ (k + 2) (4 * b.toNat + w.toNat)) := by
  unfold X5_fact
  rw [ag_ok (by omega) (by omega) (by decide), show (b * 4 + w).toNat = 4 * b.toNat + w.toNat by omega]
theorem m_at {σ : Mem} {p b w : Int} : X11_at σ p b w = some (5 + 165 * p + 5 + 4 * b + w) := rfl
theorem c_bar {σ : Mem} {p b w : Int} (hp : inR p) (hb : inR b) (hw : inR w) (h40 : ∀ p, p < 4 → 0 ≤ σ (9 + 3 * p) 2 ∧ σ (9 + 3 * p) 2 ≤ 40) : (okBar (fun p => σ (9 + 3 * p) 2) p b ∧ 0 ≤ w ∧ w ≤ 3 → X10_bar σ p b w = some (σ (11 + 3 * p.toNat) (4 * b.toNat + w.toNat), σ)) ∧ (¬ (okBar (fun p => σ (9 + 3 * p) 2) p b ∧ 0 ≤ w ∧ w ≤ 3) → X10_bar σ p b w = some (-1000001, tel σ 0)) := by
  unfold X10_bar X10_bar_B18 okBar
  rw [isBar_if hp hb h40, bd_some, wif0, tell_0, bd2_some, within_if hw (iR0 (by decide) (by decide)) (iR0 (by decide) (by decide)), bd_some, wif1]
  by_cases h1 : 0 ≤ p ∧ p ≤ 3 ∧ 0 ≤ b ∧ b < σ (9 + 3 * p.toNat) 2
  · rw [if_pos h1]
    have := h40 p.toNat (by omega)
    by_cases h2 : 0 ≤ w ∧ w ≤ 3
    · rw [if_pos h2, ag_ok h1.1 (by omega) (by decide), c_fact (by omega) h2, bd_some, show 9 + 3 * p.toNat + 2 = 11 + 3 * p.toNat by omega]
      exact ⟨fun _ => rfl, fun h => absurd ⟨h1, h2⟩ h⟩
    · rw [if_neg h2]
      exact ⟨fun h => absurd h.2 h2, fun _ => rfl⟩
  · rw [if_neg h1]
    exact ⟨fun h => absurd h.1 h1, fun _ => rfl⟩
theorem m_bar {σ : Mem} {p b w : Int} (hp : inR p) (hb : inR b) (hw : inR w) (h40 : ∀ p, p < 4 → 0 ≤ σ 112 (9 + 165 * p) ∧ σ 112 (9 + 165 * p) ≤ 40) : (okBar (fun p => σ 112 (9 + 165 * p)) p b ∧ 0 ≤ w ∧ w ≤ 3 → X11_bar σ p b w = some (σ 112 (10 + 165 * p.toNat + 4 * b.toNat + w.toNat), σ)) ∧ (¬ (okBar (fun p => σ 112 (9 + 165 * p)) p b ∧ 0 ≤ w ∧ w ≤ 3) → X11_bar σ p b w = some (-1000001, fnd σ 0)) := by
  unfold X11_bar X11_bar_B35 okBar
  rw [mBar_if hp hb h40, bd_some, wif0, finds_0, bd2_some, inR_w hw, in_if hw (iR0 (by decide) (by decide)) (iR0 (by decide) (by decide)), bd_some, wif0, m_at, bd_some]
  by_cases h1 : 0 ≤ p ∧ p ≤ 3 ∧ 0 ≤ b ∧ b < σ 112 (9 + 165 * p.toNat)
  · rw [if_pos h1]
    have := h40 p.toNat (by omega)
    by_cases h2 : 0 ≤ w ∧ w ≤ 3
    · rw [if_pos h2, ag_ok (by omega) (by omega) (by decide), show (5 + 165 * p + 5 + 4 * b + w).toNat = 10 + 165 * p.toNat + 4 * b.toNat + w.toNat by omega]
      exact ⟨fun _ => rfl, fun h => absurd ⟨h1, h2⟩ h⟩
    · rw [if_neg h2]
      exact ⟨fun h => absurd h.2 h2, fun _ => rfl⟩
  · rw [if_neg h1]
    exact ⟨fun h => absurd h.1 h1, fun _ => rfl⟩
