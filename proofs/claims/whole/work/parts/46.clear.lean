/-! clear: both loops in step -/
def RB (N : Nat) (τ ρ : Mem) : Prop := (∀ k, k < N → ∀ q, q < 3 → τ (5 + q) k = ρ 112 (666 + 3 * k + q)) ∧ ∀ s, s < 10 → τ 8 s = ρ 112 (756 + s)
def okB (ρ : Mem) (k : Nat) : Prop := (0 ≤ ρ 112 (666 + 3 * k) ∧ ρ 112 (666 + 3 * k) ≤ 6) ∧ (0 ≤ ρ 112 (667 + 3 * k) ∧ ρ 112 (667 + 3 * k) ≤ 3) ∧ (0 ≤ ρ 112 (668 + 3 * k) ∧ ρ 112 (668 + 3 * k) < ρ 112 (9 + 165 * (ρ 112 (667 + 3 * k)).toNat))
theorem okB_mv {ρ ρ' : Mem} {k k' : Nat} (h : okB ρ k') (h1 : ∀ j, j < 666 → ρ' 112 j = ρ 112 j) (h2 : ∀ q, q < 3 → ρ' 112 (666 + 3 * k + q) = ρ 112 (666 + 3 * k' + q)) : okB ρ' k := by
  obtain ⟨a, b, c⟩ := h
  have e0 := h2 0 (by omega)
  have e1 := h2 1 (by omega)
  have e2 := h2 2 (by omega)
  rw [show 666 + 3 * k + 1 = 667 + 3 * k by omega, show 666 + 3 * k' + 1 = 667 + 3 * k' by omega] at e1
  rw [show 666 + 3 * k + 2 = 668 + 3 * k by omega, show 666 + 3 * k' + 2 = 668 + 3 * k' by omega] at e2
  rw [Nat.add_zero, Nat.add_zero] at e0
  unfold okB
  rw [e0, e1, e2, h1 _ (by omega)]
  exact ⟨a, b, c⟩
def IC (N i to : Nat) (ρ : Mem) : Prop := (∀ k, k < to → okB ρ k) ∧ (∀ k, i ≤ k → k < N → okB ρ k) ∧ ∀ s, s < 10 → (-1 ≤ ρ 112 (756 + s) ∧ ρ 112 (756 + s) < to) ∨ ((i : Int) ≤ ρ 112 (756 + s) ∧ ρ 112 (756 + s) < N)
def mvc (σ : Mem) (i to : Nat) : Mem := st (st (st σ 5 to (σ 5 i)) 6 to (σ 6 i)) 7 to (σ 7 i)
theorem mvc_ne {σ : Mem} {i to a : Nat} (h : a ≠ 5 ∧ a ≠ 6 ∧ a ≠ 7) : mvc σ i to a = σ a := by
  unfold mvc
  rw [st_ne (by omega), st_ne (by omega), st_ne (by omega)]
theorem mvc_at {σ : Mem} {i to q : Nat} (hq : q < 3) : mvc σ i to (5 + q) = up (σ (5 + q)) to (σ (5 + q) i) := by
  unfold mvc
  rcases (by omega : q = 0 ∨ q = 1 ∨ q = 2) with rfl | rfl | rfl
  · rw [st_ne (by omega), st_ne (by omega), st_self]
  · rw [st_ne (by omega), st_self, st_ne (by omega)]
  · rw [st_self, st_ne (by omega), st_ne (by omega)]
theorem clr_y {N i to : Nat} {τ ρ : Mem} (hN : N ≤ 30) (h : RB N τ ρ) (hc : IC N i to ρ) (hti : to ≤ i) (hi : i < N) : RB N (rnc τ 8 0 i (-1) 10) (rnc ρ 112 756 i (-1) 10) ∧ IC N (i + 1) to (rnc ρ 112 756 i (-1) 10) := by
  obtain ⟨h1, h2⟩ := h
  obtain ⟨c1, c2, c3⟩ := hc
  have o : ∀ j, j < 756 → rnc ρ 112 756 i (-1) 10 112 j = ρ 112 j := fun j hj => rnc_out (by omega)
  refine ⟨⟨fun k hk q hq => ?_, fun s hs => ?_⟩, fun k hk => ?_, fun k hk hk2 => ?_, fun s hs => ?_⟩
  · rw [rnc_ne (by omega), o _ (by omega)]
    exact h1 k hk q hq
  · rw [rnc_in (by omega), rnc_in (by omega), h2 s hs]
  · exact okB_mv (c1 k hk) (fun j hj => o j (by omega)) (fun q hq => o _ (by omega))
  · exact okB_mv (c2 k (by omega) hk2) (fun j hj => o j (by omega)) (fun q hq => o _ (by omega))
  · rw [rnc_in (by omega)]
    have := c3 s hs
    by_cases hc : ρ 112 (756 + s) = i
    · rw [if_pos hc]; omega
    · rw [if_neg hc]; omega
def mvm (ρ : Mem) (i to : Nat) : Mem := cpy ρ 112 (666 + 3 * i) 112 (666 + 3 * to) 3
theorem mvm_at {ρ : Mem} {i to q : Nat} (hq : q < 3) : mvm ρ i to 112 (666 + 3 * to + q) = ρ 112 (666 + 3 * i + q) := by
  show (if 112 = 112 ∧ 666 + 3 * to ≤ 666 + 3 * to + q ∧ 666 + 3 * to + q < 666 + 3 * to + 3 then ρ 112 (666 + 3 * i + (666 + 3 * to + q - (666 + 3 * to))) else ρ 112 (666 + 3 * to + q)) = _
  rw [if_pos (by omega), show 666 + 3 * to + q - (666 + 3 * to) = q by omega]
theorem mvm_out {ρ : Mem} {i to j : Nat} (h : j < 666 + 3 * to ∨ 669 + 3 * to ≤ j) : mvm ρ i to 112 j = ρ 112 j := cpy_get (by omega)
theorem clr_n {N i to : Nat} {τ ρ : Mem} (hN : N ≤ 30) (h : RB N τ ρ) (hc : IC N i to ρ) (hti : to ≤ i) (hi : i < N) : RB N (mvc (rnc τ 8 0 i to 10) i to) (mvm (rnc ρ 112 756 i to 10) i to) ∧ IC N (i + 1) (to + 1) (mvm (rnc ρ 112 756 i to 10) i to) := by
  obtain ⟨h1, h2⟩ := h
  obtain ⟨c1, c2, c3⟩ := hc
  have o : ∀ j, j < 756 → rnc ρ 112 756 i to 10 112 j = ρ 112 j := fun j hj => rnc_out (by omega)
  refine ⟨⟨fun k hk q hq => ?_, fun s hs => ?_⟩, fun k hk => ?_, fun k hk hk2 => ?_, fun s hs => ?_⟩
  · rw [mvc_at hq, rnc_ne (by omega)]
    by_cases hkt : k = to
    · rw [hkt, up_at, mvm_at hq, o _ (by omega)]
      exact h1 i hi q hq
    · rw [up_ne hkt, mvm_out (by omega), o _ (by omega)]
      exact h1 k hk q hq
  · rw [mvc_ne (by omega), mvm_out (by omega), rnc_in (by omega), rnc_in (by omega), h2 s hs]
  · by_cases hkt : k = to
    · subst hkt
      exact okB_mv (c2 i (by omega) hi) (fun j hj => by rw [mvm_out (by omega), o j (by omega)]) (fun q hq => by rw [mvm_at hq, o _ (by omega)])
    · exact okB_mv (c1 k (by omega)) (fun j hj => by rw [mvm_out (by omega), o j (by omega)]) (fun q hq => by rw [mvm_out (by omega), o _ (by omega)])
  · exact okB_mv (c2 k (by omega) hk2) (fun j hj => by rw [mvm_out (by omega), o j (by omega)]) (fun q hq => by rw [mvm_out (by omega), o _ (by omega)])
  · rw [mvm_out (by omega), rnc_in (by omega)]
    have := c3 s hs
    by_cases hc : ρ 112 (756 + s) = i
    · rw [if_pos hc]; omega
    · rw [if_neg hc]; omega
theorem clear_sim {N : Nat} {p : Int} (hp : 0 ≤ p ∧ p ≤ 3) (hN : N ≤ 30) : ∀ (n i to f g : Nat) (τ ρ : Mem), i + n = N → n < f → n < g → to ≤ i → τ 4 3 = N → RB N τ ρ → IC N i to ρ → ∃ (t : Nat) (τ' ρ' : Mem), X0_dropPart_L4 f τ 4 p to i = some ((N : Int) - t, st τ' 4 3 t) ∧ X11_clear_L27 g ρ p to N i = some ((N : Int) - t, st ρ' 112 665 t) ∧ t ≤ N ∧ RB N τ' ρ' ∧ IC N N t ρ' ∧ (∀ a, a < 5 ∨ 8 < a → τ' a = τ a) ∧ (∀ a, a ≠ 112 → ρ' a = ρ a) ∧ (∀ j, j < 666 → ρ' 112 j = ρ 112 j) := by
  intro n
  induction n with
  | zero =>
    intro i to f g τ ρ h1 h2 h3 h4 h5 h6 h7
    obtain ⟨f, rfl⟩ : ∃ x, f = x + 1 := ⟨f - 1, by omega⟩
    obtain ⟨g, rfl⟩ : ∃ x, g = x + 1 := ⟨g - 1, by omega⟩
    refine ⟨to, τ, ρ, ?_, ?_, by omega, h6, ?_, fun a _ => rfl, fun a _ => rfl, fun a _ => rfl⟩
    · show X0_dropPart_B4 _ _ _ _ _ _ = _
      unfold X0_dropPart_B4
      repeat (first | with_reducible refine (ag_ok (by omega) (by omega) (by decide)).trans ?_ | rewrite [lt_v] | rewrite [bd_some] | rewrite [bd2_some] | with_reducible refine (if_pos (by first | omega | (unfold w32; omega))).trans ?_ | with_reducible refine (if_neg (by first | omega | (unfold w32; omega))).trans ?_)
      rw [h5]
    · show X11_clear_B27 _ _ _ _ _ _ = _
      unfold X11_clear_B27
      ((repeat (first | with_reducible refine (ag_ok (by omega) (by omega) (by decide)).trans ?_ | rewrite [lt_v] | rewrite [bd_some] | rewrite [bd2_some] | with_reducible refine (if_pos (by first | omega | (unfold w32; omega))).trans ?_ | with_reducible refine (if_neg (by first | omega | (unfold w32; omega))).trans ?_)); (repeat (first | with_reducible refine Eq.trans ?_ (if_pos (by first | omega | (unfold w32; omega))).symm | with_reducible refine Eq.trans ?_ (if_neg (by first | omega | (unfold w32; omega))).symm)); try rfl)
    · rw [show i = N by omega] at h7
      exact h7
  | succ n ih =>
    intro i to f g τ ρ h1 h2 h3 h4 h5 h6 h7
    obtain ⟨f, rfl⟩ : ∃ x, f = x + 1 := ⟨f - 1, by omega⟩
    obtain ⟨g, rfl⟩ : ∃ x, g = x + 1 := ⟨g - 1, by omega⟩
    have hok := h7.2.1 i (by omega) (by omega)
    have hp6 : τ 6 i = ρ 112 (667 + 3 * i) := by
      have := h6.1 i (by omega) 1 (by omega)
      rw [show 666 + 3 * i + 1 = 667 + 3 * i by omega] at this
      exact this
    have hpr : 0 ≤ τ 6 i ∧ τ 6 i ≤ 3 := by rw [hp6]; exact hok.2.1
    have hsm : ∀ b, b < 10 → inR (ρ 112 (756 + b)) := fun b hb => by
      have := h7.2.2 b hb
      exact ⟨by omega, by omega⟩
    have hsc : ∀ b, b < 10 → inR (τ 8 b) := fun b hb => by rw [h6.2 b hb]; exact hsm b hb
    have hir : inR (i : Int) := ⟨by omega, by omega⟩
    have hof : X11_of ρ (i : Int) 1 = some (ρ 112 (667 + 3 * i)) := by
      have := m_of (σ := ρ) (k := (i : Int)) (q := 1) ⟨by omega, by omega⟩ ⟨by omega, by omega⟩
      rw [this, Int.toNat_natCast, show 666 + 3 * i + (1 : Int).toNat = 667 + 3 * i by omega]
    have h46 : τ (4 + 2) (i : Int).toNat = τ 6 i := by rw [Int.toNat_natCast]
    by_cases hc : τ 6 i = p
    · have crn : X0_renumberSpots_L2 5000 τ 4 i (-1) 0 = some (rnc τ 8 0 i (-1) 10) := by
        have := c_rn τ i (-1) hir hsc 10 0 5000 (by omega) (by omega)
        rw [rnc_0] at this
        exact this
      have mrn := m_rn ρ (X11_clear_L27 g) p to N i 1 (by omega) hir hsm 10 0 5000 (by omega) (by omega)
      rw [rnc_0, if_neg (by omega)] at mrn
      have hs := clr_y hN h6 h7 h4 (by omega)
      obtain ⟨t, τ', ρ', e1, e2, e3, e4, e5, e6, e7, e8⟩ := ih (i + 1) to f g _ _ (by omega) (by omega) (by omega) (by omega) (by rw [rnc_ne (by omega)]; exact h5) hs.1 hs.2
      refine ⟨t, τ', ρ', ?_, ?_, e3, e4, e5, fun a ha => ?_, fun a ha => ?_, fun j hj => ?_⟩
      · refine Eq.trans ?_ e1
        show X0_dropPart_B4 _ _ _ _ _ _ = _
        unfold X0_dropPart_B4 X0_dropPart_B27 X0_dropPart_B41 X0_dropPart_B88 X0_renumberSpots
        repeat (first | with_reducible refine (ag_ok (by omega) (by omega) (by decide)).trans ?_ | rewrite [lt_v] | rewrite [bd_some] | rewrite [bd2_some] | rewrite [bdk (crn)] | with_reducible refine (if_pos (by first | omega | (unfold w32; omega))).trans ?_ | with_reducible refine (if_neg (by first | omega | (unfold w32; omega))).trans ?_)
        rfl
      · refine Eq.trans ?_ e2
        show X11_clear_B27 _ _ _ _ _ _ = _
        unfold X11_clear_B27 X11_clear_B49
        repeat (first | with_reducible refine (ag_ok (by omega) (by omega) (by decide)).trans ?_ | rewrite [lt_v] | rewrite [bd_some] | rewrite [bd2_some] | rewrite [bdk (hof)] | with_reducible refine (if_pos (by first | omega | (unfold w32; omega))).trans ?_ | with_reducible refine (if_neg (by first | omega | (unfold w32; omega))).trans ?_)
        exact mrn
      · rw [e6 a ha, rnc_ne (by omega)]
      · rw [e7 a ha, rnc_ne (by omega)]
      · rw [e8 j hj, rnc_out (by omega)]
    · have crn : X0_renumberSpots_L2 5000 τ 4 i to 0 = some (rnc τ 8 0 i to 10) := by
        have := c_rn τ i to hir hsc 10 0 5000 (by omega) (by omega)
        rw [rnc_0] at this
        exact this
      have mrn := m_rn ρ (X11_clear_L27 g) p to N i 0 (by omega) hir hsm 10 0 5000 (by omega) (by omega)
      rw [rnc_0, if_pos rfl] at mrn
      have mmv := m_mv (rnc ρ 112 756 i to 10) (X11_clear_L27 g) p N i to (by omega) h4 3 0 5000 (by omega) (by omega)
      rw [cpy_0] at mmv
      have hs := clr_n hN h6 h7 h4 (by omega)
      obtain ⟨t, τ', ρ', e1, e2, e3, e4, e5, e6, e7, e8⟩ := ih (i + 1) (to + 1) f g _ _ (by omega) (by omega) (by omega) (by omega) (by rw [mvc_ne (by omega), rnc_ne (by omega)]; exact h5) hs.1 hs.2
      refine ⟨t, τ', ρ', ?_, ?_, e3, e4, e5, fun a ha => ?_, fun a ha => ?_, fun j hj => ?_⟩
      · refine Eq.trans ?_ e1
        show X0_dropPart_B4 _ _ _ _ _ _ = _
        unfold X0_dropPart_B4 X0_dropPart_B27 X0_dropPart_B41 X0_dropPart_B88 X0_renumberSpots
        repeat (first | with_reducible refine (ag_ok (by omega) (by omega) (by decide)).trans ?_ | rewrite [lt_v] | rewrite [bd_some] | rewrite [bd2_some] | rewrite [bdk (crn)] | with_reducible refine (if_pos (by first | omega | (unfold w32; omega))).trans ?_ | with_reducible refine (if_neg (by first | omega | (unfold w32; omega))).trans ?_)
        rw [Int.toNat_natCast, Int.toNat_natCast, st_ne (a := 4 + 2) (k := 4 + 1) (by omega), st_ne (a := 4 + 3) (k := 4 + 2) (by omega), st_ne (a := 4 + 3) (k := 4 + 1) (by omega)]
        rfl
      · refine Eq.trans ?_ e2
        show X11_clear_B27 _ _ _ _ _ _ = _
        unfold X11_clear_B27 X11_clear_B49
        repeat (first | with_reducible refine (ag_ok (by omega) (by omega) (by decide)).trans ?_ | rewrite [lt_v] | rewrite [bd_some] | rewrite [bd2_some] | rewrite [bdk (hof)] | with_reducible refine (if_pos (by first | omega | (unfold w32; omega))).trans ?_ | with_reducible refine (if_neg (by first | omega | (unfold w32; omega))).trans ?_)
        exact mrn.trans mmv
      · rw [e6 a ha, mvc_ne (by omega), rnc_ne (by omega)]
      · rw [e7 a ha]
        show cpy _ _ _ _ _ _ a = _
        rw [cpy_ne (by omega), rnc_ne (by omega)]
      · rw [e8 j hj, mvm_out (by omega), rnc_out (by omega)]
