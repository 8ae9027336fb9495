/-! change -/
def okChg (w v : Int) : Prop := (w = 1 ∧ 0 ≤ v ∧ v ≤ 2) ∨ (w = 3 ∧ 0 ≤ v ∧ v ≤ 7)
theorem c_put {σ : Mem} {k : Nat} {b w v : Int} (hb : 0 ≤ b ∧ b < 40) (hw : 0 ≤ w ∧ w ≤ 3) : X5_put σ k b w v = some (st σ (k + 2) (4 * b.toNat + w.toNat) v) := by
  unfold X5_put
  rw [ag_ok (by omega) (by omega) (by decide), show (b * 4 + w).toNat = 4 * b.toNat + w.toNat by omega]
  rfl
theorem c_change {σ : Mem} {p b w v : Int} (hp : inR p) (hb : inR b) (hw : inR w) (hv : inR v) (h40 : ∀ p, p < 4 → 0 ≤ σ (9 + 3 * p) 2 ∧ σ (9 + 3 * p) 2 ≤ 40) : (okBar (fun p => σ (9 + 3 * p) 2) p b ∧ okChg w v → X10_change σ p b w v = some (σ (11 + 3 * p.toNat) (4 * b.toNat + w.toNat), if w = 1 then fgl (st σ (11 + 3 * p.toNat) (4 * b.toNat + w.toNat) v) else fgp (st σ (11 + 3 * p.toNat) (4 * b.toNat + w.toNat) v) p.toNat)) ∧ (¬ (okBar (fun p => σ (9 + 3 * p) 2) p b ∧ okChg w v) → X10_change σ p b w v = some (-1000001, tel σ 0)) := by
  unfold X10_change X10_change_B35 X10_change_B36 X10_change_B58 okBar okChg
  rw [isBar_if hp hb h40, bd_some, wif1, tell_0, bd2_some, inR_w hw, w32_id (x := 1) (by decide) (by decide), w32_id (x := 3) (by decide) (by decide), within_if hv (iR0 (by decide) (by decide)) (iR0 (by decide) (by decide)), within_if hv (iR0 (by decide) (by decide)) (iR0 (by decide) (by decide)), bd_some, bd_some, wif0, wif0]
  by_cases h1 : 0 ≤ p ∧ p ≤ 3 ∧ 0 ≤ b ∧ b < σ (9 + 3 * p.toNat) 2
  · rw [if_pos h1]
    have h4 := h40 p.toNat (by omega)
    have e0 : X10_change_B59 σ p b w v 0 0 = some (-1000001, tel σ 0) := by
      unfold X10_change_B59
      rw [if_neg (by decide), if_neg (by decide), tell_0, bd2_some]
    have eH : (w = 1 ∧ 0 ≤ v ∧ v ≤ 2) → X10_change_B59 σ p b w v 1 0 = some (σ (11 + 3 * p.toNat) (4 * b.toNat + w.toNat), fgl (st σ (11 + 3 * p.toNat) (4 * b.toNat + w.toNat) v)) := by
      intro hh
      unfold X10_change_B59 X10_change_B78
      rw [if_pos (by decide), ag_ok h1.1 (by omega) (by decide), c_fact (by omega) (by omega), bd_some, c_put (by omega) (by omega), bd_some, if_pos (by decide), forgetLayings_eq, bd_some, show 9 + 3 * p.toNat + 2 = 11 + 3 * p.toNat by omega]
    have eM : (w = 3 ∧ 0 ≤ v ∧ v ≤ 7) → X10_change_B59 σ p b w v 0 1 = some (σ (11 + 3 * p.toNat) (4 * b.toNat + w.toNat), fgp (st σ (11 + 3 * p.toNat) (4 * b.toNat + w.toNat) v) p.toNat) := by
      intro hh
      obtain ⟨P, rfl⟩ : ∃ P : Nat, p = P := ⟨p.toNat, by omega⟩
      unfold X10_change_B59 X10_change_B78
      rw [if_neg (by decide), if_pos (by decide), ag_nat (by omega) (by decide), c_fact (by omega) (by omega), bd_some, c_put (by omega) (by omega), bd_some, if_neg (by decide), forgetPart_eq _ _ (by omega), bd_some, show 9 + 3 * P + 2 = 11 + 3 * P by omega]
      rfl
    by_cases w1 : w = 1
    · rw [if_neg (by omega), if_pos w1]
      by_cases v1 : 0 ≤ v ∧ v ≤ 2
      · rw [if_pos v1, if_pos (by omega), eH ⟨w1, v1⟩]
        exact ⟨fun _ => rfl, fun h => absurd ⟨h1, Or.inl ⟨w1, v1⟩⟩ h⟩
      · rw [if_neg v1, if_pos (by omega), e0]
        exact ⟨fun h => absurd h.2 (by omega), fun _ => rfl⟩
    · rw [if_pos w1, if_neg w1]
      by_cases w3 : w = 3
      · rw [if_neg (by omega)]
        by_cases v1 : 0 ≤ v ∧ v ≤ 7
        · rw [if_pos v1, eM ⟨w3, v1⟩]
          exact ⟨fun _ => rfl, fun h => absurd ⟨h1, Or.inr ⟨w3, v1⟩⟩ h⟩
        · rw [if_neg v1, e0]
          exact ⟨fun h => absurd h.2 (by omega), fun _ => rfl⟩
      · rw [if_pos w3, e0]
        exact ⟨fun h => absurd h.2 (by omega), fun _ => rfl⟩
  · rw [if_neg h1]
    exact ⟨fun h => absurd h.1 h1, fun _ => rfl⟩
theorem m_change {σ : Mem} {p b w v : Int} (hp : inR p) (hb : inR b) (hw : inR w) (hv : inR v) (h40 : ∀ p, p < 4 → 0 ≤ σ 112 (9 + 165 * p) ∧ σ 112 (9 + 165 * p) ≤ 40) : (okBar (fun p => σ 112 (9 + 165 * p)) p b ∧ okChg w v → X11_change σ p b w v = some (σ 112 (10 + 165 * p.toNat + 4 * b.toNat + w.toNat), st σ 112 (10 + 165 * p.toNat + 4 * b.toNat + w.toNat) v)) ∧ (¬ (okBar (fun p => σ 112 (9 + 165 * p)) p b ∧ okChg w v) → X11_change σ p b w v = some (-1000001, fnd σ 0)) := by
  unfold X11_change X11_change_B19 X11_change_B37 X11_change_B43 okBar okChg
  rw [mBar_if hp hb h40, bd_some, wif0, finds_0, bd2_some, inR_w hw, inR_w hv, w32_id (x := 1) (by decide) (by decide), w32_id (x := 3) (by decide) (by decide), in_if hv (iR0 (by decide) (by decide)) (iR0 (by decide) (by decide)), in_if hv (iR0 (by decide) (by decide)) (iR0 (by decide) (by decide)), bd_some, bd_some, wif1, wif1, m_at, bd_some]
  by_cases h1 : 0 ≤ p ∧ p ≤ 3 ∧ 0 ≤ b ∧ b < σ 112 (9 + 165 * p.toNat)
  · rw [if_pos h1]
    have h4 := h40 p.toNat (by omega)
    by_cases w1 : w = 1
    · rw [if_pos w1, if_neg (by omega)]
      by_cases v1 : 0 ≤ v ∧ v ≤ 2
      · rw [if_pos v1, ag_ok (by omega) (by omega) (by decide), lt_v, bd_some, ag_ok (by omega) (by omega) (by decide), lt_v, show (5 + 165 * p + 5 + 4 * b + w).toNat = 10 + 165 * p.toNat + 4 * b.toNat + w.toNat by omega]
        exact ⟨fun _ => rfl, fun h => absurd ⟨h1, Or.inl ⟨w1, v1⟩⟩ h⟩
      · rw [if_neg v1]
        exact ⟨fun h => absurd h.2 (by omega), fun _ => rfl⟩
    · rw [if_neg w1]
      by_cases w3 : w = 3
      · rw [if_neg (by omega), if_pos (by omega)]
        by_cases v1 : 0 ≤ v ∧ v ≤ 7
        · rw [if_pos v1, ag_ok (by omega) (by omega) (by decide), lt_v, bd_some, ag_ok (by omega) (by omega) (by decide), lt_v, show (5 + 165 * p + 5 + 4 * b + w).toNat = 10 + 165 * p.toNat + 4 * b.toNat + w.toNat by omega]
          exact ⟨fun _ => rfl, fun h => absurd ⟨h1, Or.inr ⟨w3, v1⟩⟩ h⟩
        · rw [if_neg v1]
          exact ⟨fun h => absurd h.2 (by omega), fun _ => rfl⟩
      · rw [if_pos w3]
        exact ⟨fun h => absurd h.2 (by omega), fun _ => rfl⟩
  · rw [if_neg h1]
    exact ⟨fun h => absurd h.1 h1, fun _ => rfl⟩
/-! room -/
def rmF (x s : Int) : Int := (x * (10 - 2 * s) + 9) / 10
theorem rmF_eq {x s : Int} (hx : 1 ≤ x ∧ x ≤ 60) (hs : 0 ≤ s ∧ s ≤ 2) : idv (x * (10 - 2 * s) + 9) 10 = rmF x s ∧ 0 ≤ x * (10 - 2 * s) ∧ x * (10 - 2 * s) ≤ 600 := by
  have h : 0 ≤ x * (10 - 2 * s) ∧ x * (10 - 2 * s) ≤ 600 := by
    rcases (show s = 0 ∨ s = 1 ∨ s = 2 by omega) with rfl | rfl | rfl <;> omega
  refine ⟨?_, h⟩
  unfold idv rmF
  rw [w32_id (by omega) (by omega), w32_id (x := 10) (by decide) (by decide), Int.tdiv_eq_ediv_of_nonneg (by omega)]
theorem rmF_in {x s : Int} (hx : 1 ≤ x ∧ x ≤ 60) (hs : 0 ≤ s ∧ s ≤ 2) : 1 ≤ rmF x s ∧ rmF x s ≤ 60 := by
  unfold rmF
  rcases (show s = 0 ∨ s = 1 ∨ s = 2 by omega) with rfl | rfl | rfl <;> omega
theorem c_roomAt {σ : Mem} {k : Nat} {b s : Int} (hb : 0 ≤ b ∧ b < 40) (hs : 0 ≤ s ∧ s ≤ 2) (hx : 1 ≤ σ (k + 2) (4 * b.toNat) ∧ σ (k + 2) (4 * b.toNat) ≤ 60) : X5_roomAt σ k b s = some (rmF (σ (k + 2) (4 * b.toNat)) s) := by
  unfold X5_roomAt
  rw [ag_ok (by omega) (by omega) (by decide), show (b * 4 + 0).toNat = 4 * b.toNat by omega, dg_ok (by decide), (rmF_eq hx hs).1]
theorem m_room {σ : Mem} {p b s : Int} (hp : 0 ≤ p ∧ p ≤ 3) (hb : 0 ≤ b ∧ b < 40) (hs : 0 ≤ s ∧ s ≤ 2) (hx : 1 ≤ σ 112 (10 + 165 * p.toNat + 4 * b.toNat) ∧ σ 112 (10 + 165 * p.toNat + 4 * b.toNat) ≤ 60) : X11_room σ p b s = some (rmF (σ 112 (10 + 165 * p.toNat + 4 * b.toNat)) s) := by
  unfold X11_room
  rw [m_at, bd_some, ag_ok (by omega) (by omega) (by decide), show (5 + 165 * p + 5 + 4 * b + 0).toNat = 10 + 165 * p.toNat + 4 * b.toNat by omega, dg_ok (by decide), (rmF_eq hx hs).1]
theorem c_room {σ : Mem} {p b s : Int} (hp : inR p) (hb : inR b) (hs : inR s) (h40 : ∀ p, p < 4 → 0 ≤ σ (9 + 3 * p) 2 ∧ σ (9 + 3 * p) 2 ≤ 40) (hx : okBar (fun p => σ (9 + 3 * p) 2) p b → 1 ≤ σ (11 + 3 * p.toNat) (4 * b.toNat) ∧ σ (11 + 3 * p.toNat) (4 * b.toNat) ≤ 60) : (okBar (fun p => σ (9 + 3 * p) 2) p b ∧ 0 ≤ s ∧ s ≤ 2 → X10_room σ p b s = some (rmF (σ (11 + 3 * p.toNat) (4 * b.toNat)) s, σ)) ∧ (¬ (okBar (fun p => σ (9 + 3 * p) 2) p b ∧ 0 ≤ s ∧ s ≤ 2) → X10_room σ p b s = some (-1000001, tel σ 0)) := by
  unfold X10_room X10_room_B16
  unfold okBar at hx ⊢
  rw [isBar_if hp hb h40, bd_some, wif0, tell_0, bd2_some, isSize_if hs, bd_some, wif1]
  by_cases h1 : 0 ≤ p ∧ p ≤ 3 ∧ 0 ≤ b ∧ b < σ (9 + 3 * p.toNat) 2
  · rw [if_pos h1]
    have h4 := h40 p.toNat (by omega)
    by_cases h2 : 0 ≤ s ∧ s ≤ 2
    · have hx2 := hx h1
      rw [show 11 + 3 * p.toNat = 9 + 3 * p.toNat + 2 by omega] at hx2
      rw [if_pos h2, ag_ok h1.1 (by omega) (by decide), c_roomAt (by omega) h2 hx2, bd_some, show 11 + 3 * p.toNat = 9 + 3 * p.toNat + 2 by omega]
      exact ⟨fun _ => rfl, fun h => absurd ⟨h1, h2⟩ h⟩
    · rw [if_neg h2]
      exact ⟨fun h => absurd h.2 h2, fun _ => rfl⟩
  · rw [if_neg h1]
    exact ⟨fun h => absurd h.1 h1, fun _ => rfl⟩
theorem m_room_ {σ : Mem} {p b s : Int} (hp : inR p) (hb : inR b) (hs : inR s) (h40 : ∀ p, p < 4 → 0 ≤ σ 112 (9 + 165 * p) ∧ σ 112 (9 + 165 * p) ≤ 40) (hx : okBar (fun p => σ 112 (9 + 165 * p)) p b → 1 ≤ σ 112 (10 + 165 * p.toNat + 4 * b.toNat) ∧ σ 112 (10 + 165 * p.toNat + 4 * b.toNat) ≤ 60) : (okBar (fun p => σ 112 (9 + 165 * p)) p b ∧ 0 ≤ s ∧ s ≤ 2 → X11_room_ σ p b s = some (rmF (σ 112 (10 + 165 * p.toNat + 4 * b.toNat)) s, σ)) ∧ (¬ (okBar (fun p => σ 112 (9 + 165 * p)) p b ∧ 0 ≤ s ∧ s ≤ 2) → X11_room_ σ p b s = some (-1000001, fnd σ 0)) := by
  unfold X11_room_ X11_room__B32
  unfold okBar at hx ⊢
  rw [mBar_if hp hb h40, bd_some, wif0, finds_0, bd2_some, inR_w hs, in_if hs (iR0 (by decide) (by decide)) (iR0 (by decide) (by decide)), bd_some, wif0]
  by_cases h1 : 0 ≤ p ∧ p ≤ 3 ∧ 0 ≤ b ∧ b < σ 112 (9 + 165 * p.toNat)
  · rw [if_pos h1]
    have h4 := h40 p.toNat (by omega)
    by_cases h2 : 0 ≤ s ∧ s ≤ 2
    · rw [if_pos h2, m_room ⟨h1.1, h1.2.1⟩ (by omega) h2 (hx h1), bd_some]
      exact ⟨fun _ => rfl, fun h => absurd ⟨h1, h2⟩ h⟩
    · rw [if_neg h2]
      exact ⟨fun h => absurd h.2 h2, fun _ => rfl⟩
  · rw [if_neg h1]
    exact ⟨fun h => absurd h.1 h1, fun _ => rfl⟩
