/-! set, rule, wipe, hold, tear, bar, room: what each side answers and does -/
theorem sv01 : ∀ w, w < 4 → inR (sv 0 w) ∧ inR (sv 1 w) := by
  unfold inR
  decide +kernel
theorem sv23 : ∀ w, w < 5 → inR (sv 2 w) ∧ inR (sv 3 w) := by
  unfold inR
  decide +kernel
theorem inR_nat {n : Nat} (h : n < 2147483648) : inR (n : Int) := ⟨by omega, by omega⟩
theorem w32_nat {n : Nat} (h : n < 2147483648) : w32 (n : Int) = n := w32_id (by omega) (by omega)
def okSet (p w v : Int) : Prop := (0 ≤ p ∧ p ≤ 3) ∧ (0 ≤ w ∧ w ≤ 3) ∧ (sv 0 w.toNat ≤ v ∧ v ≤ sv 1 w.toNat) ∧ ¬ (w = 2 ∧ v = p)
theorem c_set_ok {σ : Mem} {p w : Nat} {v : Int} (hv0 : inR v) (h : okSet p w v) : X10_set σ p w v = some (σ (10 + 3 * p) w, fgl (st σ (10 + 3 * p) w v)) := by
  obtain ⟨hp, hw, hv, hn⟩ := h
  have hv : sv 0 w ≤ v ∧ v ≤ sv 1 w := hv
  have hp4 : p < 4 := by omega
  have hw4 : w < 4 := by omega
  have hs := sv01 w hw4
  have e : X10_set_B50 σ p w v = some (σ (10 + 3 * p) w, fgl (st σ (10 + 3 * p) w v)) := by
    unfold X10_set_B50
    rw [ag_nat hp4 (by decide), ag_nat hw4 (by decide), lt_v, ag_nat hw4 (by decide), lt_v, forgetLayings_eq, bd_some, show 9 + 3 * p + 1 = 10 + 3 * p by omega]
  unfold X10_set
  rw [isPart_t hp.1 hp.2, bd_some, if_neg (by decide), within_t hw.1 hw.2 (by decide) (by decide), bd_some, if_neg (by decide), ag_nat hw4 (by decide), ag_nat hw4 (by decide), within_t hv.1 hv.2 hs.1.1 hs.2.2, bd_some, if_neg (by decide)]
  split
  · exact e
  · split
    · exact e
    · rename_i q1 q2
      rw [w32_nat (by omega), w32_id (by decide) (by decide)] at q1
      rw [inR_w hv0, w32_nat (by omega)] at q2
      exact absurd ⟨by omega, by omega⟩ hn
theorem c_set_no {σ : Mem} {p w v : Int} (hp : inR p) (hw : inR w) (hv : inR v) (h : ¬ okSet p w v) : X10_set σ p w v = some (-1000001, tel σ 0) := by
  have e : X10_set_B43 σ = some (-1000001, tel σ 0) := by
    unfold X10_set_B43
    rw [tell_0, bd2_some]
  unfold X10_set
  by_cases h1 : 0 ≤ p ∧ p ≤ 3
  · rw [isPart_t h1.1 h1.2, bd_some, if_neg (by decide)]
    by_cases h2 : 0 ≤ w ∧ w ≤ 3
    · obtain ⟨W, rfl⟩ : ∃ W : Nat, w = W := ⟨w.toNat, by omega⟩
      have hw4 : W < 4 := by omega
      have hs := sv01 W hw4
      rw [within_t h2.1 h2.2 (by decide) (by decide), bd_some, if_neg (by decide), ag_nat hw4 (by decide), ag_nat hw4 (by decide)]
      by_cases h3 : sv 0 W ≤ v ∧ v ≤ sv 1 W
      · rw [within_t h3.1 h3.2 hs.1.1 hs.2.2, bd_some, if_neg (by decide)]
        have h4 : (W : Int) = 2 ∧ v = p := by
          by_cases q : (W : Int) = 2 ∧ v = p
          · exact q
          · exact absurd ⟨h1, h2, h3, q⟩ h
        rw [if_neg (by rw [w32_nat (by omega), w32_id (by decide) (by decide)]; omega), if_neg (by rw [inR_w hv, inR_w hp]; omega)]
        exact e
      · rw [within_f h3 hv hs.1 hs.2, bd_some, if_pos (by decide)]
        exact e
    · rw [within_f h2 hw ⟨by decide, by decide⟩ ⟨by decide, by decide⟩, bd_some, if_pos (by decide)]
      exact e
  · rw [isPart_f h1 hp, bd_some, if_pos (by decide)]
    exact e
theorem m_maySet {σ : Mem} {p v : Int} {w : Nat} (hp : inR p) (hw : w < 4) (hv : inR v) : X11_maySet σ p w v = some (if (sv 0 w ≤ v ∧ v ≤ sv 1 w) ∧ ¬ ((w : Int) = 2 ∧ v = p) then 1 else 0) := by
  have k : ∀ a b : Int, inR a → inR b → (X11_in σ v a b = some (if a ≤ v ∧ v ≤ b then 1 else 0)) := by
    intro a b ha hb
    by_cases q : a ≤ v ∧ v ≤ b
    · rw [in_t q.1 q.2 ha.1 hb.2, if_pos q]
    · rw [in_f q hv ha hb, if_neg q]
  unfold X11_maySet
  rw [w32_nat (by omega), inR_w hv, inR_w hp]
  rcases (show w = 0 ∨ w = 1 ∨ w = 2 ∨ w = 3 by omega) with rfl | rfl | rfl | rfl
  · rw [if_neg (by decide), k _ _ ⟨by decide, by decide⟩ ⟨by decide, by decide⟩, bd_some]
    have e : (sv 0 0 ≤ v ∧ v ≤ sv 1 0) ∧ ¬ (((0 : Nat) : Int) = 2 ∧ v = p) ↔ 30 ≤ v ∧ v ≤ 240 := ⟨fun h => h.1, fun h => ⟨h, fun q => absurd q.1 (by decide)⟩⟩
    by_cases q : 30 ≤ v ∧ v ≤ 240
    · rw [if_pos q, if_pos (e.mpr q), bg_1]
    · rw [if_neg q, if_neg (fun h => q (e.mp h)), bg_0]
  · rw [if_pos (by decide), if_neg (by decide), k _ _ ⟨by decide, by decide⟩ ⟨by decide, by decide⟩, bd_some]
    have e : (sv 0 1 ≤ v ∧ v ≤ sv 1 1) ∧ ¬ (((1 : Nat) : Int) = 2 ∧ v = p) ↔ 0 ≤ v ∧ v ≤ 8 := ⟨fun h => h.1, fun h => ⟨h, fun q => absurd q.1 (by decide)⟩⟩
    by_cases q : 0 ≤ v ∧ v ≤ 8
    · rw [if_pos q, if_pos (e.mpr q), bg_1]
    · rw [if_neg q, if_neg (fun h => q (e.mp h)), bg_0]
  · rw [if_pos (by decide), if_pos (by decide), if_neg (by decide), k _ _ ⟨by decide, by decide⟩ ⟨by decide, by decide⟩, bd_some]
    have e : (sv 0 2 ≤ v ∧ v ≤ sv 1 2) ∧ ¬ (((2 : Nat) : Int) = 2 ∧ v = p) ↔ (-1 ≤ v ∧ v ≤ 3) ∧ ¬ v = p := ⟨fun h => ⟨h.1, fun q => h.2 ⟨rfl, q⟩⟩, fun h => ⟨h.1, fun q => h.2 q.2⟩⟩
    by_cases q : -1 ≤ v ∧ v ≤ 3
    · rw [if_pos q, if_neg (by decide)]
      by_cases q2 : v = p
      · rw [if_pos q2, if_neg (fun h => (e.mp h).2 q2)]
      · rw [if_neg q2, if_pos (e.mpr ⟨q, q2⟩)]
    · rw [if_neg q, if_pos (by decide), if_neg (fun h => q (e.mp h).1)]
  · rw [if_pos (by decide), if_pos (by decide), if_pos (by decide), k _ _ ⟨by decide, by decide⟩ ⟨by decide, by decide⟩, bd_some]
    have e : (sv 0 3 ≤ v ∧ v ≤ sv 1 3) ∧ ¬ (((3 : Nat) : Int) = 2 ∧ v = p) ↔ 0 ≤ v ∧ v ≤ 1023 := ⟨fun h => h.1, fun h => ⟨h, fun q => absurd q.1 (by decide)⟩⟩
    by_cases q : 0 ≤ v ∧ v ≤ 1023
    · rw [if_pos q, if_pos (e.mpr q), bg_1]
    · rw [if_neg q, if_neg (fun h => q (e.mp h)), bg_0]
theorem m_set_ok {σ : Mem} {p w : Nat} {v : Int} (hv0 : inR v) (h : okSet p w v) : X11_set σ p w v = some (σ 112 (5 + 165 * p + w), st σ 112 (5 + 165 * p + w) v) := by
  obtain ⟨hp, hw, hv, hn⟩ := h
  unfold X11_set
  rw [mPart_t hp.1 hp.2, bd_some, if_neg (by decide), w32_nat (by omega), in_t hw.1 hw.2 (by decide) (by decide), bd_some, if_neg (by decide), m_maySet (inR_nat (by omega)) (by omega) hv0, bd_some, if_pos (c := (sv 0 w ≤ v ∧ v ≤ sv 1 w) ∧ ¬ ((w : Int) = 2 ∧ v = p)) ⟨hv, hn⟩, if_pos (by decide)]
  unfold X11_part
  rw [bd_some, ag_ok (by omega) (by omega) (by decide), lt_v, bd_some, ag_ok (by omega) (by omega) (by decide), lt_v, show (5 + 165 * (p : Int) + (w : Int)).toNat = 5 + 165 * p + w by omega]
theorem m_set_no {σ : Mem} {p w v : Int} (hp : inR p) (hw : inR w) (hv : inR v) (h : ¬ okSet p w v) : X11_set σ p w v = some (-1000001, fnd σ 0) := by
  have e : X11_set_B28 σ = some (-1000001, fnd σ 0) := by
    unfold X11_set_B28
    rw [finds_0, bd2_some]
  unfold X11_set
  by_cases h1 : 0 ≤ p ∧ p ≤ 3
  · rw [mPart_t h1.1 h1.2, bd_some, if_neg (by decide), inR_w hw]
    by_cases h2 : 0 ≤ w ∧ w ≤ 3
    · obtain ⟨W, rfl⟩ : ∃ W : Nat, w = W := ⟨w.toNat, by omega⟩
      rw [in_t h2.1 h2.2 (by decide) (by decide), bd_some, if_neg (by decide), m_maySet hp (by omega) hv, bd_some, if_neg (c := (sv 0 W ≤ v ∧ v ≤ sv 1 W) ∧ ¬ ((W : Int) = 2 ∧ v = p)) (fun q => h ⟨h1, h2, q.1, q.2⟩), if_neg (by decide)]
      exact e
    · rw [in_f h2 hw ⟨by decide, by decide⟩ ⟨by decide, by decide⟩, bd_some, if_pos (by decide)]
      exact e
  · rw [mPart_f h1 hp, bd_some, if_pos (by decide)]
    exact e
