/-! what keeps WF -/
def okF (w : Nat) (v : Int) : Prop := (w = 0 → 1 ≤ v ∧ v ≤ 60) ∧ (w = 1 → 0 ≤ v ∧ v ≤ 2) ∧ (w = 2 → 1 ≤ v ∧ v ≤ 12) ∧ (w = 3 → 0 ≤ v ∧ v ≤ 7)
theorem ix_ne {p q b w x : Nat} (hb : b < 40) (hw : w < 4) (hx : x < 10) (h5 : 5 ≤ x) : x + 165 * q ≠ 10 + 165 * p + 4 * b + w ∨ x = 10 + (4 * b + w) ∧ p = q := by
  rcases (by omega : p = q ∨ p + 1 ≤ q ∨ q + 1 ≤ p) with h | h | h
  · subst h; omega
  · omega
  · omega
theorem ix_ne2 {p q b w x : Nat} (hb : b < 40) (hw : w < 4) (hx : x < 10) (h5 : 5 ≤ x) : x + 165 * q ≠ 10 + 165 * p + 4 * b + w := by
  rcases ix_ne (p := p) (q := q) hb hw hx h5 with h | h
  · exact h
  · omega
theorem ix_eq {p q b w k x : Nat} (hb : b < 40) (hw : w < 4) (hk : k < 40) (hx : x < 4) (h : 10 + 165 * q + 4 * k + x = 10 + 165 * p + 4 * b + w) : q = p ∧ k = b ∧ x = w := by
  rcases (by omega : p = q ∨ p + 1 ≤ q ∨ q + 1 ≤ p) with h | h | h
  · subst h; omega
  · omega
  · omega
theorem WF.fact {r : Nat → Int} (hw : WF r) {p b w : Nat} {v : Int} (hp : p < 4) (hb : b < 40) (hww : w < 4) (hv : okF w v) : WF (up r (10 + 165 * p + 4 * b + w) v) := by
  obtain ⟨w1, w2, w3, w4, w5, w6⟩ := hw
  refine ⟨?_, fun q hq => ?_, fun q hq k hk => ?_, ?_, fun k hk => ?_, fun s hs => ?_⟩
  · rw [up_ne (by omega), up_ne (by omega), up_ne (by omega), up_ne (by omega), up_ne (by omega)]
    exact w1
  · rw [up_ne (ix_ne2 hb hww (by omega) (by omega)), up_ne (ix_ne2 hb hww (by omega) (by omega)), up_ne (ix_ne2 hb hww (by omega) (by omega)), up_ne (ix_ne2 hb hww (by omega) (by omega)), up_ne (ix_ne2 hb hww (by omega) (by omega))]
    exact w2 q hq
  · rw [up_ne (ix_ne2 hb hww (by omega) (by omega))] at hk
    have h40 := (w2 q hq).2.2.2.2
    have h3 := w3 q hq k hk
    have key : ∀ x, x < 4 → okF x (r (10 + 165 * q + 4 * k + x)) → okF x (up r (10 + 165 * p + 4 * b + w) v (10 + 165 * q + 4 * k + x)) := by
      intro x hx hr
      by_cases hc : 10 + 165 * q + 4 * k + x = 10 + 165 * p + 4 * b + w
      · rw [hc, up_at, (ix_eq hb hww (by omega) hx hc).2.2]
        exact hv
      · rw [up_ne hc]
        exact hr
    have k0 := (key 0 (by omega) ⟨fun _ => h3.1, fun h => by omega, fun h => by omega, fun h => by omega⟩).1 rfl
    have k1 := (key 1 (by omega) ⟨fun h => by omega, fun _ => by rw [show 10 + 165 * q + 4 * k + 1 = 11 + 165 * q + 4 * k by omega]; exact h3.2.1, fun h => by omega, fun h => by omega⟩).2.1 rfl
    have k2 := (key 2 (by omega) ⟨fun h => by omega, fun h => by omega, fun _ => by rw [show 10 + 165 * q + 4 * k + 2 = 12 + 165 * q + 4 * k by omega]; exact h3.2.2.1, fun h => by omega⟩).2.2.1 rfl
    have k3 := (key 3 (by omega) ⟨fun h => by omega, fun h => by omega, fun h => by omega, fun _ => by rw [show 10 + 165 * q + 4 * k + 3 = 13 + 165 * q + 4 * k by omega]; exact h3.2.2.2⟩).2.2.2 rfl
    rw [show 11 + 165 * q + 4 * k = 10 + 165 * q + 4 * k + 1 by omega, show 12 + 165 * q + 4 * k = 10 + 165 * q + 4 * k + 2 by omega, show 13 + 165 * q + 4 * k = 10 + 165 * q + 4 * k + 3 by omega]
    exact ⟨k0, k1, k2, k3⟩
  · rw [up_ne (by omega)]
    exact w4
  · rw [up_ne (by omega)] at hk
    have := w5 k hk
    rw [up_ne (by omega), up_ne (by omega), up_ne (by omega), up_ne (ix_ne2 hb hww (by omega) (by omega))]
    exact this
  · rw [up_ne (by omega), up_ne (by omega)]
    exact w6 s hs
/-! rooms -/
theorem part_has {σ : Mem} {k : Nat} {b : Int} (hb : inR b) (h40 : 0 ≤ σ k 2 ∧ σ k 2 ≤ 40) : X5_has σ k b = some (if 0 ≤ b ∧ b < σ k 2 then 1 else 0) := by
  unfold X5_has
  obtain ⟨b1, b2⟩ := id hb
  by_cases h1 : b < 0
  · ((repeat (first | with_reducible refine (ag_ok (by omega) (by omega) (by decide)).trans ?_ | rewrite [lt_v] | rewrite [bd_some] | rewrite [bd2_some] | with_reducible refine (if_pos (by first | omega | (unfold w32; omega))).trans ?_ | with_reducible refine (if_neg (by first | omega | (unfold w32; omega))).trans ?_)); (repeat (first | with_reducible refine Eq.trans ?_ (if_pos (by first | omega | (unfold w32; omega))).symm | with_reducible refine Eq.trans ?_ (if_neg (by first | omega | (unfold w32; omega))).symm)); try rfl)
    rw [if_neg (by omega)]
  · by_cases h2 : σ k 2 ≤ b
    · ((repeat (first | with_reducible refine (ag_ok (by omega) (by omega) (by decide)).trans ?_ | rewrite [lt_v] | rewrite [bd_some] | rewrite [bd2_some] | with_reducible refine (if_pos (by first | omega | (unfold w32; omega))).trans ?_ | with_reducible refine (if_neg (by first | omega | (unfold w32; omega))).trans ?_)); (repeat (first | with_reducible refine Eq.trans ?_ (if_pos (by first | omega | (unfold w32; omega))).symm | with_reducible refine Eq.trans ?_ (if_neg (by first | omega | (unfold w32; omega))).symm)); try rfl)
      rw [if_neg (by omega)]
    · ((repeat (first | with_reducible refine (ag_ok (by omega) (by omega) (by decide)).trans ?_ | rewrite [lt_v] | rewrite [bd_some] | rewrite [bd2_some] | with_reducible refine (if_pos (by first | omega | (unfold w32; omega))).trans ?_ | with_reducible refine (if_neg (by first | omega | (unfold w32; omega))).trans ?_)); (repeat (first | with_reducible refine Eq.trans ?_ (if_pos (by first | omega | (unfold w32; omega))).symm | with_reducible refine Eq.trans ?_ (if_neg (by first | omega | (unfold w32; omega))).symm)); try rfl)
      rw [if_pos (by omega)]
theorem rooms_sim {s p : Nat} (hs : s < 4) (hp : p < 4) : ∀ (n i f g : Nat) (c : Int) (τ ρ : Mem), i + n = 40 → n < f → n < g → τ (63 + 2 * s) 2 = ρ 135 s → 0 ≤ ρ 135 s → ρ 135 s ≤ 40 → (∀ j, j < 40 → nrel (τ (64 + 2 * s) j) (ρ 136 (40 * s + j))) → WF (ρ 112) → CRB 1 (ρ 112) τ → ∃ (v : Int) (τ' ρ' : Mem), X10_rooms_L64 f τ s p (9 + 3 * p) c i = some (v, fgp τ' p) ∧ X11_rooms__L46 g ρ s p c i = some (v, ρ') ∧ WF (ρ' 112) ∧ CRB 1 (ρ' 112) τ' ∧ (∀ a, a ≠ 11 + 3 * p → τ' a = τ a) ∧ (∀ a, a ≠ 112 → ρ' a = ρ a) := by
  intro n
  induction n with
  | zero =>
    intro i f g c τ ρ h1 h2 h3 h4 h5 h6 h7 h8 h9
    obtain ⟨f, rfl⟩ : ∃ x, f = x + 1 := ⟨f - 1, by omega⟩
    obtain ⟨g, rfl⟩ : ∃ x, g = x + 1 := ⟨g - 1, by omega⟩
    refine ⟨c, τ, ρ, ?_, ?_, h8, h9, fun _ _ => rfl, fun _ _ => rfl⟩
    · show X10_rooms_B64 _ _ _ _ _ _ _ = _
      unfold X10_rooms_B64 X10_rooms_B130
      rw [ag_nat (by omega) (by decide)]
      ((repeat (first | with_reducible refine (ag_ok (by omega) (by omega) (by decide)).trans ?_ | rewrite [lt_v] | rewrite [bd_some] | rewrite [bd2_some] | rewrite [bdk (forgetPart_eq τ p hp)] | with_reducible refine (if_pos (by first | omega | (unfold w32; omega))).trans ?_ | with_reducible refine (if_neg (by first | omega | (unfold w32; omega))).trans ?_)); (repeat (first | with_reducible refine Eq.trans ?_ (if_pos (by first | omega | (unfold w32; omega))).symm | with_reducible refine Eq.trans ?_ (if_neg (by first | omega | (unfold w32; omega))).symm)); try rfl)
    · show X11_rooms__B46 _ _ _ _ _ _ = _
      unfold X11_rooms__B46
      rw [ag_nat (by omega) (by decide)]
      ((repeat (first | with_reducible refine (ag_ok (by omega) (by omega) (by decide)).trans ?_ | rewrite [lt_v] | rewrite [bd_some] | rewrite [bd2_some] | with_reducible refine (if_pos (by first | omega | (unfold w32; omega))).trans ?_ | with_reducible refine (if_neg (by first | omega | (unfold w32; omega))).trans ?_)); (repeat (first | with_reducible refine Eq.trans ?_ (if_pos (by first | omega | (unfold w32; omega))).symm | with_reducible refine Eq.trans ?_ (if_neg (by first | omega | (unfold w32; omega))).symm)); try rfl)
  | succ n ih =>
    intro i f g c τ ρ h1 h2 h3 h4 h5 h6 h7 h8 h9
    obtain ⟨f, rfl⟩ : ∃ x, f = x + 1 := ⟨f - 1, by omega⟩
    obtain ⟨g, rfl⟩ : ∃ x, g = x + 1 := ⟨g - 1, by omega⟩
    have hB : τ (9 + 3 * p) 2 = ρ 112 (9 + 165 * p) := by
      have := h9.2.2.1 p hp
      rw [show 1 + 8 + 3 * p = 9 + 3 * p by omega] at this
      exact this
    have h40 := (h8.2.1 p hp).2.2.2.2
    have hbs : X11_bars ρ p = some (ρ 112 (9 + 165 * p)) := by
      have := mbars (σ := ρ) (p := (p : Int)) ⟨by omega, by omega⟩
      rw [Int.toNat_natCast] at this
      exact this
    have hh := part_has (σ := τ) (k := 9 + 3 * p) (b := (i : Int)) (iR0 (by omega) (by omega)) (by rw [hB]; exact h40)
    by_cases hL : ρ 135 s ≤ i
    · refine ⟨c, τ, ρ, ?_, ?_, h8, h9, fun _ _ => rfl, fun _ _ => rfl⟩
      · show X10_rooms_B64 _ _ _ _ _ _ _ = _
        unfold X10_rooms_B64 X10_rooms_B130
        rw [ag_nat (by omega) (by decide)]
        ((repeat (first | with_reducible refine (ag_ok (by omega) (by omega) (by decide)).trans ?_ | rewrite [lt_v] | rewrite [bd_some] | rewrite [bd2_some] | rewrite [bdk (forgetPart_eq τ p hp)] | with_reducible refine (if_pos (by first | omega | (unfold w32; omega))).trans ?_ | with_reducible refine (if_neg (by first | omega | (unfold w32; omega))).trans ?_)); (repeat (first | with_reducible refine Eq.trans ?_ (if_pos (by first | omega | (unfold w32; omega))).symm | with_reducible refine Eq.trans ?_ (if_neg (by first | omega | (unfold w32; omega))).symm)); try rfl)
      · show X11_rooms__B46 _ _ _ _ _ _ = _
        unfold X11_rooms__B46
        rw [ag_nat (by omega) (by decide)]
        ((repeat (first | with_reducible refine (ag_ok (by omega) (by omega) (by decide)).trans ?_ | rewrite [lt_v] | rewrite [bd_some] | rewrite [bd2_some] | with_reducible refine (if_pos (by first | omega | (unfold w32; omega))).trans ?_ | with_reducible refine (if_neg (by first | omega | (unfold w32; omega))).trans ?_)); (repeat (first | with_reducible refine Eq.trans ?_ (if_pos (by first | omega | (unfold w32; omega))).symm | with_reducible refine Eq.trans ?_ (if_neg (by first | omega | (unfold w32; omega))).symm)); try rfl)
    · by_cases hb : ρ 112 (9 + 165 * p) ≤ i
      · rw [if_neg (by omega)] at hh
        refine ⟨c, τ, ρ, ?_, ?_, h8, h9, fun _ _ => rfl, fun _ _ => rfl⟩
        · show X10_rooms_B64 _ _ _ _ _ _ _ = _
          unfold X10_rooms_B64 X10_rooms_B130
          rw [ag_nat (by omega) (by decide)]
          ((repeat (first | with_reducible refine (ag_ok (by omega) (by omega) (by decide)).trans ?_ | rewrite [lt_v] | rewrite [bd_some] | rewrite [bd2_some] | rewrite [bdk (hh)] | rewrite [bdk (forgetPart_eq τ p hp)] | with_reducible refine (if_pos (by first | omega | (unfold w32; omega))).trans ?_ | with_reducible refine (if_neg (by first | omega | (unfold w32; omega))).trans ?_)); (repeat (first | with_reducible refine Eq.trans ?_ (if_pos (by first | omega | (unfold w32; omega))).symm | with_reducible refine Eq.trans ?_ (if_neg (by first | omega | (unfold w32; omega))).symm)); try rfl)
        · show X11_rooms__B46 _ _ _ _ _ _ = _
          unfold X11_rooms__B46
          rw [ag_nat (by omega) (by decide)]
          ((repeat (first | with_reducible refine (ag_ok (by omega) (by omega) (by decide)).trans ?_ | rewrite [lt_v] | rewrite [bd_some] | rewrite [bd2_some] | rewrite [bdk (hbs)] | with_reducible refine (if_pos (by first | omega | (unfold w32; omega))).trans ?_ | with_reducible refine (if_neg (by first | omega | (unfold w32; omega))).trans ?_)); (repeat (first | with_reducible refine Eq.trans ?_ (if_pos (by first | omega | (unfold w32; omega))).symm | with_reducible refine Eq.trans ?_ (if_neg (by first | omega | (unfold w32; omega))).symm)); try rfl)
      · rw [if_pos (by omega)] at hh
        obtain ⟨n1, n2, n3⟩ := h7 i (by omega)
        obtain ⟨n4, n5⟩ := id n1
        obtain ⟨n6, n7⟩ := id n2
        have hw := within_if (σ := τ) n1 (a := 1) (b := 60) (iR0 (by decide) (by decide)) (iR0 (by decide) (by decide))
        have hm := in_if (σ := ρ) n2 (a := 1) (b := 60) (iR0 (by decide) (by decide)) (iR0 (by decide) (by decide))
        have ew : w32 (ρ 136 (40 * s + i)) = ρ 136 (40 * s + i) := inR_w n2
        by_cases hv : 1 ≤ τ (64 + 2 * s) i ∧ τ (64 + 2 * s) i ≤ 60
        · rw [if_pos hv] at hw
          rw [if_pos (by omega)] at hm
          have hvv : ρ 136 (40 * s + i) = τ (64 + 2 * s) i := by omega
          have hcp := c_put (σ := τ) (k := 9 + 3 * p) (b := (i : Int)) (w := 0) (v := τ (64 + 2 * s) i) ⟨by omega, by omega⟩ ⟨by omega, by omega⟩
          rw [Int.toNat_natCast, show 9 + 3 * p + 2 = 11 + 3 * p by omega, show 4 * i + (0 : Int).toNat = 4 * i by omega] at hcp
          have hrow : st ρ 112 (10 + 165 * p + 4 * i) (τ (64 + 2 * s) i) 112 = up (ρ 112) (10 + 165 * p + 4 * i) (τ (64 + 2 * s) i) := st_self _ _ _ _
          have hwf : WF (up (ρ 112) (10 + 165 * p + 4 * i) (τ (64 + 2 * s) i)) := WF.fact h8 (b := i) (w := 0) hp (by omega) (by omega) ⟨fun _ => hv, fun h => by omega, fun h => by omega, fun h => by omega⟩
          have hcr : CRB 1 (up (ρ 112) (10 + 165 * p + 4 * i) (τ (64 + 2 * s) i)) (st τ (11 + 3 * p) (4 * i) (τ (64 + 2 * s) i)) := by
            have := CRB.fact (B := 1) (v := τ (64 + 2 * s) i) (j := 4 * i) h9 hp (by omega)
            rw [show 1 + 10 + 3 * p = 11 + 3 * p by omega] at this
            exact this
          obtain ⟨v, τ', ρ', e1, e2, e3, e4, e5, e6⟩ := ih (i + 1) f g (c + 1) (st τ (11 + 3 * p) (4 * i) (τ (64 + 2 * s) i)) (st ρ 112 (10 + 165 * p + 4 * i) (τ (64 + 2 * s) i)) (by omega) (by omega) (by omega) (by rw [st_ne (by omega), st_ne (by omega)]; exact h4) (by rw [st_ne (by omega)]; exact h5) (by rw [st_ne (by omega)]; exact h6) (fun j hj => by rw [st_ne (by omega), st_ne (by omega)]; exact h7 j hj) (by rw [hrow]; exact hwf) (by rw [hrow]; exact hcr)
          refine ⟨v, τ', ρ', ?_, ?_, e3, e4, fun a ha => ?_, fun a ha => ?_⟩
          · refine Eq.trans ?_ e1
            show X10_rooms_B64 _ _ _ _ _ _ _ = _
            unfold X10_rooms_B64 X10_rooms_B124
            rw [ag_nat (by omega) (by decide), if_neg (by first | omega | (unfold w32; omega)), bdk hh, if_neg (by first | omega | (unfold w32; omega)), ag_nat (by omega) (by decide), ag_nat (by omega) (by decide), lt_v, show 63 + 2 * s + 1 = 64 + 2 * s by omega, bdk hw, if_neg (by first | omega | (unfold w32; omega)), bdk hcp, lt_v, lt_v]
            rfl
          · refine Eq.trans ?_ e2
            show X11_rooms__B46 _ _ _ _ _ _ = _
            unfold X11_rooms__B46 X11_rooms__B114
            rw [ag_nat (by omega) (by decide), if_neg (by first | omega | (unfold w32; omega)), bdk hbs, if_neg (by first | omega | (unfold w32; omega)), ag_ok (i := 40 * (s : Int) + i) (by omega) (by omega) (by decide), lt_v, show (40 * (s : Int) + i).toNat = 40 * s + i by omega, ew, bdk hm, if_pos (by first | omega | (unfold w32; omega)), bdk m_at, ag_ok (i := 5 + 165 * (p : Int) + 5 + 4 * (i : Int) + 0) (by omega) (by omega) (by decide), lt_v, lt_v, lt_v, show (5 + 165 * (p : Int) + 5 + 4 * (i : Int) + 0).toNat = 10 + 165 * p + 4 * i by omega, hvv]
            rfl
          · rw [e5 a ha, st_ne (by omega)]
          · rw [e6 a ha, st_ne (by omega)]
        · rw [if_neg hv] at hw
          rw [if_neg (by omega)] at hm
          obtain ⟨v, τ', ρ', e1, e2, e3, e4, e5, e6⟩ := ih (i + 1) f g c τ ρ (by omega) (by omega) (by omega) h4 h5 h6 h7 h8 h9
          refine ⟨v, τ', ρ', ?_, ?_, e3, e4, e5, e6⟩
          · refine Eq.trans ?_ e1
            show X10_rooms_B64 _ _ _ _ _ _ _ = _
            unfold X10_rooms_B64 X10_rooms_B124
            rw [ag_nat (by omega) (by decide), if_neg (by first | omega | (unfold w32; omega)), bdk hh, if_neg (by first | omega | (unfold w32; omega)), ag_nat (by omega) (by decide), ag_nat (by omega) (by decide), lt_v, show 63 + 2 * s + 1 = 64 + 2 * s by omega, bdk hw, if_pos (by first | omega | (unfold w32; omega)), lt_v]
            rfl
          · refine Eq.trans ?_ e2
            show X11_rooms__B46 _ _ _ _ _ _ = _
            unfold X11_rooms__B46 X11_rooms__B114
            rw [ag_nat (by omega) (by decide), if_neg (by first | omega | (unfold w32; omega)), bdk hbs, if_neg (by first | omega | (unfold w32; omega)), ag_ok (i := 40 * (s : Int) + i) (by omega) (by omega) (by decide), lt_v, show (40 * (s : Int) + i).toNat = 40 * s + i by omega, ew, bdk hm, if_neg (by first | omega | (unfold w32; omega)), lt_v]
            rfl
