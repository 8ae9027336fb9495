/-! cut -/
theorem c_ofPart (σ : Mem) (p : Int) (N : Nat) (hN : N ≤ 30) (h3 : σ 4 3 = N) (hp : inR p) (hk : ∀ k, k < N → inR (σ 6 k)) : ∀ (r i n : Nat) (c : Int), i + r = N → r < n → ∃ v, X0_ofPart_L4 σ n 4 p c i = some v ∧ c ≤ v ∧ v ≤ c + r ∧ (v ≤ c ↔ ∀ k, i ≤ k → k < N → σ 6 k ≠ p) := by
  intro r
  induction r with
  | zero =>
    intro i n c h1 h2
    obtain ⟨n, rfl⟩ : ∃ g, n = g + 1 := ⟨n - 1, by omega⟩
    refine ⟨c, ?_, by omega, by omega, ⟨fun _ k h4 h5 => by omega, fun _ => by omega⟩⟩
    show X0_ofPart_B4 _ _ _ _ _ _ = _
    unfold X0_ofPart_B4
    ((repeat (first | with_reducible refine (ag_ok (by omega) (by omega) (by decide)).trans ?_ | rewrite [lt_v] | rewrite [bd_some] | rewrite [bd2_some] | with_reducible refine (if_pos (by first | omega | (unfold w32; omega))).trans ?_ | with_reducible refine (if_neg (by first | omega | (unfold w32; omega))).trans ?_)); (repeat (first | with_reducible refine Eq.trans ?_ (if_pos (by first | omega | (unfold w32; omega))).symm | with_reducible refine Eq.trans ?_ (if_neg (by first | omega | (unfold w32; omega))).symm)); try rfl)
  | succ r ih =>
    intro i n c h1 h2
    obtain ⟨n, rfl⟩ : ∃ g, n = g + 1 := ⟨n - 1, by omega⟩
    obtain ⟨h4, h5⟩ := hk i (by omega)
    obtain ⟨h6, h7⟩ := id hp
    have e : σ (4 + 2) (i : Int).toNat = σ 6 i := by rw [Int.toNat_natCast]
    by_cases hc : σ 6 i = p
    · obtain ⟨v, v1, v2, v3, v4⟩ := ih (i + 1) n (c + 1) (by omega) (by omega)
      refine ⟨v, ?_, by omega, by omega, ⟨fun _ => by omega, fun q => absurd hc (q i (by omega) (by omega))⟩⟩
      refine Eq.trans ?_ v1
      show X0_ofPart_B4 _ _ _ _ _ _ = _
      unfold X0_ofPart_B4 X0_ofPart_B25
      repeat (first | with_reducible refine (ag_ok (by omega) (by omega) (by decide)).trans ?_ | rewrite [lt_v] | rewrite [bd_some] | rewrite [bd2_some] | with_reducible refine (if_pos (by first | omega | (unfold w32; omega))).trans ?_ | with_reducible refine (if_neg (by first | omega | (unfold w32; omega))).trans ?_)
      rfl
    · obtain ⟨v, v1, v2, v3, v4⟩ := ih (i + 1) n c (by omega) (by omega)
      refine ⟨v, ?_, by omega, by omega, ⟨fun q k h8 h9 => ?_, fun q => v4.2 (fun k h8 h9 => q k (by omega) h9)⟩⟩
      · refine Eq.trans ?_ v1
        show X0_ofPart_B4 _ _ _ _ _ _ = _
        unfold X0_ofPart_B4 X0_ofPart_B25
        repeat (first | with_reducible refine (ag_ok (by omega) (by omega) (by decide)).trans ?_ | rewrite [lt_v] | rewrite [bd_some] | rewrite [bd2_some] | with_reducible refine (if_pos (by first | omega | (unfold w32; omega))).trans ?_ | with_reducible refine (if_neg (by first | omega | (unfold w32; omega))).trans ?_)
        rfl
      · by_cases hki : k = i
        · rw [hki]; exact hc
        · exact v4.1 q k (by omega) h9
theorem m_cut35 (σ : Mem) (p b n : Int) (N : Nat) (hN : N ≤ 30) (h3 : σ 112 665 = N) (hp0 : 0 ≤ p ∧ p ≤ 3) (hk : ∀ k, k < N → inR (σ 112 (667 + 3 * k))) : ∀ (r i f : Nat), i + r = N → r < f → ((∀ k, i ≤ k → k < N → σ 112 (667 + 3 * k) ≠ p) → X11_cut_L35 f σ p b n i = X11_cut_L91 5000 σ p n (σ 112 (9 + 165 * p.toNat) - n) b) ∧ (¬ (∀ k, i ≤ k → k < N → σ 112 (667 + 3 * k) ≠ p) → X11_cut_L35 f σ p b n i = some (-1000005, fnd σ 4)) := by
  intro r
  induction r with
  | zero =>
    intro i f h1 h2
    obtain ⟨f, rfl⟩ : ∃ g, f = g + 1 := ⟨f - 1, by omega⟩
    refine ⟨fun _ => ?_, fun q => absurd (fun k h4 h5 => by omega) q⟩
    show X11_cut_B35 _ _ _ _ _ _ = _
    unfold X11_cut_B35
    have e : σ 112 (665 : Int).toNat = N := h3
    repeat (first | with_reducible refine (ag_ok (by omega) (by omega) (by decide)).trans ?_ | rewrite [lt_v] | rewrite [bd_some] | rewrite [bd2_some] | rewrite [bdk (mbars hp0)] | with_reducible refine (if_pos (by first | omega | (unfold w32; omega))).trans ?_ | with_reducible refine (if_neg (by first | omega | (unfold w32; omega))).trans ?_)
    rfl
  | succ r ih =>
    intro i f h1 h2
    obtain ⟨f, rfl⟩ : ∃ g, f = g + 1 := ⟨f - 1, by omega⟩
    obtain ⟨h4, h5⟩ := hk i (by omega)
    have e0 : σ 112 (665 : Int).toNat = N := h3
    have e : σ 112 ((666 : Int) + 3 * i + 1).toNat = σ 112 (667 + 3 * i) := by rw [show ((666 : Int) + 3 * i + 1).toNat = 667 + 3 * i by omega]
    have h6 := ih (i + 1) f (by omega) (by omega)
    by_cases hc : σ 112 (667 + 3 * i) = p
    · refine ⟨fun q => absurd hc (q i (by omega) (by omega)), fun _ => ?_⟩
      show X11_cut_B35 _ _ _ _ _ _ = _
      unfold X11_cut_B35
      ((repeat (first | with_reducible refine (ag_ok (by omega) (by omega) (by decide)).trans ?_ | rewrite [lt_v] | rewrite [bd_some] | rewrite [bd2_some] | rewrite [bd2k (finds_4 σ)] | with_reducible refine (if_pos (by first | omega | (unfold w32; omega))).trans ?_ | with_reducible refine (if_neg (by first | omega | (unfold w32; omega))).trans ?_)); (repeat (first | with_reducible refine Eq.trans ?_ (if_pos (by first | omega | (unfold w32; omega))).symm | with_reducible refine Eq.trans ?_ (if_neg (by first | omega | (unfold w32; omega))).symm)); try rfl)
    · have iff : (∀ k, i ≤ k → k < N → σ 112 (667 + 3 * k) ≠ p) ↔ ∀ k, i + 1 ≤ k → k < N → σ 112 (667 + 3 * k) ≠ p := by
        refine ⟨fun q k h7 h8 => q k (by omega) h8, fun q k h7 h8 => ?_⟩
        by_cases hki : k = i
        · rw [hki]; exact hc
        · exact q k (by omega) h8
      have st1 : X11_cut_L35 (f + 1) σ p b n i = X11_cut_L35 f σ p b n ((i + 1 : Nat) : Int) := by
        show X11_cut_B35 _ _ _ _ _ _ = _
        unfold X11_cut_B35
        repeat (first | with_reducible refine (ag_ok (by omega) (by omega) (by decide)).trans ?_ | rewrite [lt_v] | rewrite [bd_some] | rewrite [bd2_some] | with_reducible refine (if_pos (by first | omega | (unfold w32; omega))).trans ?_ | with_reducible refine (if_neg (by first | omega | (unfold w32; omega))).trans ?_)
        rfl
      rw [st1, iff]
      exact h6
theorem m_cut101 (σ : Mem) (rec : Mem → Int → Int → Int → Int → Option (Int × Mem)) (p b n m : Nat) (to : Int) (hp : p < 4) (hb : b + m + n < 40) : ∀ (r w f : Nat), w + r = 4 → r < f → X11_cut_L101 rec f (cpy σ 112 (10 + 165 * p + 4 * b + 4 * n) 112 (10 + 165 * p + 4 * b) (4 * m + w)) p n to ((b + m : Nat) : Int) w = rec (cpy σ 112 (10 + 165 * p + 4 * b + 4 * n) 112 (10 + 165 * p + 4 * b) (4 * (m + 1))) p n to ((b + (m + 1) : Nat) : Int) := by
  intro r
  induction r with
  | zero =>
    intro w f h1 h2
    obtain ⟨f, rfl⟩ : ∃ g, f = g + 1 := ⟨f - 1, by omega⟩
    show X11_cut_B101 _ _ _ _ _ _ _ _ = _
    unfold X11_cut_B101
    repeat (first | with_reducible refine (ag_ok (by omega) (by omega) (by decide)).trans ?_ | rewrite [lt_v] | rewrite [bd_some] | rewrite [bd2_some] | with_reducible refine (if_pos (by first | omega | (unfold w32; omega))).trans ?_ | with_reducible refine (if_neg (by first | omega | (unfold w32; omega))).trans ?_)
    rw [show 4 * m + w = 4 * (m + 1) by omega, show ((b + m : Nat) : Int) + 1 = ((b + (m + 1) : Nat) : Int) by omega]
  | succ r ih =>
    intro w f h1 h2
    obtain ⟨f, rfl⟩ : ∃ g, f = g + 1 := ⟨f - 1, by omega⟩
    refine Eq.trans ?_ (ih (w + 1) f (by omega) (by omega))
    show X11_cut_B101 _ _ _ _ _ _ _ _ = _
    unfold X11_cut_B101
    repeat (first | with_reducible refine (ag_ok (by omega) (by omega) (by decide)).trans ?_ | rewrite [lt_v] | rewrite [bd_some] | rewrite [bd2_some] | rewrite [bdk (m_at)] | rewrite [bdk (m_at)] | with_reducible refine (if_pos (by first | omega | (unfold w32; omega))).trans ?_ | with_reducible refine (if_neg (by first | omega | (unfold w32; omega))).trans ?_)
    rw [show ((5 : Int) + 165 * (p : Int) + 5 + 4 * (((b + m : Nat) : Int) + (n : Int)) + (w : Int)).toNat = 10 + 165 * p + 4 * b + 4 * n + (4 * m + w) by omega, show ((5 : Int) + 165 * (p : Int) + 5 + 4 * ((b + m : Nat) : Int) + (w : Int)).toNat = 10 + 165 * p + 4 * b + (4 * m + w) by omega, cpy_get (by omega), cpy_succ]
    rfl
theorem m_cut91 (σ : Mem) (p b n to : Nat) (hp : p < 4) (hb : to + n ≤ 40) : ∀ (r m f : Nat), b + m + r = to → r < f → X11_cut_L91 f (cpy σ 112 (10 + 165 * p + 4 * b + 4 * n) 112 (10 + 165 * p + 4 * b) (4 * m)) p n to ((b + m : Nat) : Int) = some ((to : Int), st (cpy σ 112 (10 + 165 * p + 4 * b + 4 * n) 112 (10 + 165 * p + 4 * b) (4 * (to - b))) 112 (9 + 165 * p) to) := by
  intro r
  induction r with
  | zero =>
    intro m f h1 h2
    obtain ⟨f, rfl⟩ : ∃ g, f = g + 1 := ⟨f - 1, by omega⟩
    show X11_cut_B91 _ _ _ _ _ _ = _
    unfold X11_cut_B91 X11_part
    repeat (first | with_reducible refine (ag_ok (by omega) (by omega) (by decide)).trans ?_ | rewrite [lt_v] | rewrite [bd_some] | rewrite [bd2_some] | with_reducible refine (if_pos (by first | omega | (unfold w32; omega))).trans ?_ | with_reducible refine (if_neg (by first | omega | (unfold w32; omega))).trans ?_)
    rw [show ((5 : Int) + 165 * (p : Int) + 4).toNat = 9 + 165 * p by omega, show m = to - b by omega]
  | succ r ih =>
    intro m f h1 h2
    obtain ⟨f, rfl⟩ : ∃ g, f = g + 1 := ⟨f - 1, by omega⟩
    refine Eq.trans ?_ (ih (m + 1) f (by omega) (by omega))
    show X11_cut_B91 _ _ _ _ _ _ = _
    unfold X11_cut_B91
    repeat (first | with_reducible refine (ag_ok (by omega) (by omega) (by decide)).trans ?_ | rewrite [lt_v] | rewrite [bd_some] | rewrite [bd2_some] | with_reducible refine (if_pos (by first | omega | (unfold w32; omega))).trans ?_ | with_reducible refine (if_neg (by first | omega | (unfold w32; omega))).trans ?_)
    exact m_cut101 σ (X11_cut_L91 f) p b n m to hp (by omega) 4 0 5000 (by omega) (by omega)
