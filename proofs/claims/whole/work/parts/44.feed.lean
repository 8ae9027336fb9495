/-! copy of the reference; feed -/
theorem m_copy {σ : Mem} {s a t b n : Int} (hs : inR s) (ha : inR a) (ht : inR t) (hb : inR b) (hn : inR n) (hB : ∀ s, s < 4 → okBits (σ 134 s)) (hl : ∀ s, s < 4 → 0 ≤ σ 135 s ∧ σ 135 s ≤ 40) : X11_copy σ s a t b n = if (0 ≤ s ∧ s ≤ 3) ∧ 0 ≤ t ∧ t ≤ 3 then (if σ 134 s.toNat = 0 ∨ σ 134 t.toNat = 0 then some (-1000006, fnd σ 5) else if σ 134 s.toNat = σ 134 t.toNat then (if (0 ≤ a ∧ 0 ≤ n ∧ n ≤ σ 135 s.toNat - a) ∧ 0 ≤ b ∧ 0 ≤ n ∧ n ≤ σ 135 t.toNat - b then some (n, cpy σ 136 (40 * s.toNat + a.toNat) 136 (40 * t.toNat + b.toNat) n.toNat) else some (-1000001, fnd σ 0)) else some (-1000003, fnd σ 2)) else some (-1000001, fnd σ 0) := by
  have is := mSheet_if (σ := σ) hs
  have it := mSheet_if (σ := σ) ht
  unfold X11_copy X11_copy_B14 X11_copy_B38 X11_copy_B106 X11_copy_B127 X11_copy_B128
  obtain ⟨s1, s2⟩ := id hs
  obtain ⟨t1, t2⟩ := id ht
  obtain ⟨a1, a2⟩ := id ha
  obtain ⟨b1, b2⟩ := id hb
  obtain ⟨n1, n2⟩ := id hn
  by_cases h1 : 0 ≤ s ∧ s ≤ 3
  · rw [if_pos h1] at is
    by_cases h2 : 0 ≤ t ∧ t ≤ 3
    · rw [if_pos h2] at it
      have c1 := okBits_le (hB s.toNat (by omega))
      have c2 := okBits_le (hB t.toNat (by omega))
      have l1 := hl s.toNat (by omega)
      have l2 := hl t.toNat (by omega)
      by_cases h3 : σ 134 s.toNat = 0
      · ((repeat (first | with_reducible refine (ag_ok (by omega) (by omega) (by decide)).trans ?_ | rewrite [lt_v] | rewrite [bd_some] | rewrite [bd2_some] | rewrite [bdk (is)] | rewrite [bdk (it)] | rewrite [bd2k (finds_5 σ)] | with_reducible refine (if_pos (by first | omega | (unfold w32; omega))).trans ?_ | with_reducible refine (if_neg (by first | omega | (unfold w32; omega))).trans ?_)); (repeat (first | with_reducible refine Eq.trans ?_ (if_pos (by first | omega | (unfold w32; omega))).symm | with_reducible refine Eq.trans ?_ (if_neg (by first | omega | (unfold w32; omega))).symm)); try rfl)
      · by_cases h4 : σ 134 t.toNat = 0
        · ((repeat (first | with_reducible refine (ag_ok (by omega) (by omega) (by decide)).trans ?_ | rewrite [lt_v] | rewrite [bd_some] | rewrite [bd2_some] | rewrite [bdk (is)] | rewrite [bdk (it)] | rewrite [bd2k (finds_5 σ)] | with_reducible refine (if_pos (by first | omega | (unfold w32; omega))).trans ?_ | with_reducible refine (if_neg (by first | omega | (unfold w32; omega))).trans ?_)); (repeat (first | with_reducible refine Eq.trans ?_ (if_pos (by first | omega | (unfold w32; omega))).symm | with_reducible refine Eq.trans ?_ (if_neg (by first | omega | (unfold w32; omega))).symm)); try rfl)
        · by_cases h5 : σ 134 s.toNat = σ 134 t.toNat
          · by_cases h6 : a < 0
            · ((repeat (first | with_reducible refine (ag_ok (by omega) (by omega) (by decide)).trans ?_ | rewrite [lt_v] | rewrite [bd_some] | rewrite [bd2_some] | rewrite [bdk (is)] | rewrite [bdk (it)] | rewrite [bd2k (finds_0 σ)] | with_reducible refine (if_pos (by first | omega | (unfold w32; omega))).trans ?_ | with_reducible refine (if_neg (by first | omega | (unfold w32; omega))).trans ?_)); (repeat (first | with_reducible refine Eq.trans ?_ (if_pos (by first | omega | (unfold w32; omega))).symm | with_reducible refine Eq.trans ?_ (if_neg (by first | omega | (unfold w32; omega))).symm)); try rfl)
            · by_cases h7 : b < 0
              · ((repeat (first | with_reducible refine (ag_ok (by omega) (by omega) (by decide)).trans ?_ | rewrite [lt_v] | rewrite [bd_some] | rewrite [bd2_some] | rewrite [bdk (is)] | rewrite [bdk (it)] | rewrite [bd2k (finds_0 σ)] | with_reducible refine (if_pos (by first | omega | (unfold w32; omega))).trans ?_ | with_reducible refine (if_neg (by first | omega | (unfold w32; omega))).trans ?_)); (repeat (first | with_reducible refine Eq.trans ?_ (if_pos (by first | omega | (unfold w32; omega))).symm | with_reducible refine Eq.trans ?_ (if_neg (by first | omega | (unfold w32; omega))).symm)); try rfl)
              · by_cases h8 : n < 0
                · ((repeat (first | with_reducible refine (ag_ok (by omega) (by omega) (by decide)).trans ?_ | rewrite [lt_v] | rewrite [bd_some] | rewrite [bd2_some] | rewrite [bdk (is)] | rewrite [bdk (it)] | rewrite [bd2k (finds_0 σ)] | with_reducible refine (if_pos (by first | omega | (unfold w32; omega))).trans ?_ | with_reducible refine (if_neg (by first | omega | (unfold w32; omega))).trans ?_)); (repeat (first | with_reducible refine Eq.trans ?_ (if_pos (by first | omega | (unfold w32; omega))).symm | with_reducible refine Eq.trans ?_ (if_neg (by first | omega | (unfold w32; omega))).symm)); try rfl)
                · by_cases h9 : σ 135 s.toNat - a < n
                  · ((repeat (first | with_reducible refine (ag_ok (by omega) (by omega) (by decide)).trans ?_ | rewrite [lt_v] | rewrite [bd_some] | rewrite [bd2_some] | rewrite [bdk (is)] | rewrite [bdk (it)] | rewrite [bd2k (finds_0 σ)] | with_reducible refine (if_pos (by first | omega | (unfold w32; omega))).trans ?_ | with_reducible refine (if_neg (by first | omega | (unfold w32; omega))).trans ?_)); (repeat (first | with_reducible refine Eq.trans ?_ (if_pos (by first | omega | (unfold w32; omega))).symm | with_reducible refine Eq.trans ?_ (if_neg (by first | omega | (unfold w32; omega))).symm)); try rfl)
                  · by_cases h10 : n ≤ σ 135 t.toNat - b
                    · have fin : ∀ (s a t b n : Int) (k : Int), 0 ≤ s → s ≤ 3 → 0 ≤ t → t ≤ 3 → 0 ≤ a → 0 ≤ b → 0 ≤ n → a + n ≤ 40 → b + n ≤ 40 → (k = 0 ∧ (s ≠ t ∨ b ≤ a)) ∨ (k = 1 ∧ s = t ∧ a < b) → X11_copy_L133 5000 σ s a t b n k 0 = some (n, cpy σ 136 (40 * s.toNat + a.toNat) 136 (40 * t.toNat + b.toNat) n.toNat) := by
                        intro s a t b n k g1 g2 g3 g4 g5 g6 g7 g8 g9 g10
                        obtain ⟨a, rfl⟩ := Int.eq_ofNat_of_zero_le g5
                        obtain ⟨b, rfl⟩ := Int.eq_ofNat_of_zero_le g6
                        obtain ⟨n, rfl⟩ := Int.eq_ofNat_of_zero_le g7
                        obtain ⟨s, rfl⟩ := Int.eq_ofNat_of_zero_le g1
                        obtain ⟨t, rfl⟩ := Int.eq_ofNat_of_zero_le g3
                        simp only [Int.toNat_natCast]
                        rcases g10 with ⟨rfl, g10⟩ | ⟨rfl, g11, g10⟩
                        · have := mcf σ s a t b n (by omega) (by omega) (by omega) (by omega) (by omega) n 0 5000 (by omega) (by omega)
                          rw [cpy_0] at this
                          exact this
                        · have := mcb σ s a b n (by omega) (by omega) (by omega) (by omega) n 0 5000 (by omega) (by omega)
                          rw [cpy_0] at this
                          rw [← g11, show t = s by omega]
                          exact this
                      by_cases h11 : s = t
                      · by_cases h12 : b ≤ a
                        · repeat (first | with_reducible refine (ag_ok (by omega) (by omega) (by decide)).trans ?_ | rewrite [lt_v] | rewrite [bd_some] | rewrite [bd2_some] | rewrite [bdk (is)] | rewrite [bdk (it)] | with_reducible refine (if_pos (by first | omega | (unfold w32; omega))).trans ?_ | with_reducible refine (if_neg (by first | omega | (unfold w32; omega))).trans ?_)
                          repeat (first | with_reducible refine Eq.trans ?_ (if_pos (by first | omega | (unfold w32; omega))).symm | with_reducible refine Eq.trans ?_ (if_neg (by first | omega | (unfold w32; omega))).symm)
                          exact fin s a t b n 0 (by omega) (by omega) (by omega) (by omega) (by omega) (by omega) (by omega) (by omega) (by omega) (by omega)
                        · repeat (first | with_reducible refine (ag_ok (by omega) (by omega) (by decide)).trans ?_ | rewrite [lt_v] | rewrite [bd_some] | rewrite [bd2_some] | rewrite [bdk (is)] | rewrite [bdk (it)] | with_reducible refine (if_pos (by first | omega | (unfold w32; omega))).trans ?_ | with_reducible refine (if_neg (by first | omega | (unfold w32; omega))).trans ?_)
                          repeat (first | with_reducible refine Eq.trans ?_ (if_pos (by first | omega | (unfold w32; omega))).symm | with_reducible refine Eq.trans ?_ (if_neg (by first | omega | (unfold w32; omega))).symm)
                          exact fin s a t b n 1 (by omega) (by omega) (by omega) (by omega) (by omega) (by omega) (by omega) (by omega) (by omega) (by omega)
                      · repeat (first | with_reducible refine (ag_ok (by omega) (by omega) (by decide)).trans ?_ | rewrite [lt_v] | rewrite [bd_some] | rewrite [bd2_some] | rewrite [bdk (is)] | rewrite [bdk (it)] | with_reducible refine (if_pos (by first | omega | (unfold w32; omega))).trans ?_ | with_reducible refine (if_neg (by first | omega | (unfold w32; omega))).trans ?_)
                        repeat (first | with_reducible refine Eq.trans ?_ (if_pos (by first | omega | (unfold w32; omega))).symm | with_reducible refine Eq.trans ?_ (if_neg (by first | omega | (unfold w32; omega))).symm)
                        exact fin s a t b n 0 (by omega) (by omega) (by omega) (by omega) (by omega) (by omega) (by omega) (by omega) (by omega) (by omega)
                    · ((repeat (first | with_reducible refine (ag_ok (by omega) (by omega) (by decide)).trans ?_ | rewrite [lt_v] | rewrite [bd_some] | rewrite [bd2_some] | rewrite [bdk (is)] | rewrite [bdk (it)] | rewrite [bd2k (finds_0 σ)] | with_reducible refine (if_pos (by first | omega | (unfold w32; omega))).trans ?_ | with_reducible refine (if_neg (by first | omega | (unfold w32; omega))).trans ?_)); (repeat (first | with_reducible refine Eq.trans ?_ (if_pos (by first | omega | (unfold w32; omega))).symm | with_reducible refine Eq.trans ?_ (if_neg (by first | omega | (unfold w32; omega))).symm)); try rfl)
          · ((repeat (first | with_reducible refine (ag_ok (by omega) (by omega) (by decide)).trans ?_ | rewrite [lt_v] | rewrite [bd_some] | rewrite [bd2_some] | rewrite [bdk (is)] | rewrite [bdk (it)] | rewrite [bd2k (finds_2 σ)] | with_reducible refine (if_pos (by first | omega | (unfold w32; omega))).trans ?_ | with_reducible refine (if_neg (by first | omega | (unfold w32; omega))).trans ?_)); (repeat (first | with_reducible refine Eq.trans ?_ (if_pos (by first | omega | (unfold w32; omega))).symm | with_reducible refine Eq.trans ?_ (if_neg (by first | omega | (unfold w32; omega))).symm)); try rfl)
    · rw [if_neg h2] at it
      ((repeat (first | with_reducible refine (ag_ok (by omega) (by omega) (by decide)).trans ?_ | rewrite [lt_v] | rewrite [bd_some] | rewrite [bd2_some] | rewrite [bdk (is)] | rewrite [bdk (it)] | rewrite [bd2k (finds_0 σ)] | with_reducible refine (if_pos (by first | omega | (unfold w32; omega))).trans ?_ | with_reducible refine (if_neg (by first | omega | (unfold w32; omega))).trans ?_)); (repeat (first | with_reducible refine Eq.trans ?_ (if_pos (by first | omega | (unfold w32; omega))).symm | with_reducible refine Eq.trans ?_ (if_neg (by first | omega | (unfold w32; omega))).symm)); try rfl)
  · rw [if_neg h1] at is
    ((repeat (first | with_reducible refine (ag_ok (by omega) (by omega) (by decide)).trans ?_ | rewrite [lt_v] | rewrite [bd_some] | rewrite [bd2_some] | rewrite [bdk (is)] | rewrite [bdk (it)] | rewrite [bd2k (finds_0 σ)] | with_reducible refine (if_pos (by first | omega | (unfold w32; omega))).trans ?_ | with_reducible refine (if_neg (by first | omega | (unfold w32; omega))).trans ?_)); (repeat (first | with_reducible refine Eq.trans ?_ (if_pos (by first | omega | (unfold w32; omega))).symm | with_reducible refine Eq.trans ?_ (if_neg (by first | omega | (unfold w32; omega))).symm)); try rfl)
/-! feed -/
def TR (τ ρ : Mem) : Prop := 0 ≤ τ 42 1 ∧ τ 42 1 ≤ 120 ∧ ρ 111 5 = τ 42 1 ∧ ∀ i : Nat, (i : Int) < τ 42 1 → ρ 115 i = τ 43 i % 256 ∧ -128 ≤ τ 43 i ∧ τ 43 i < 128
def cf1 (σ : Mem) (v : Int) : Mem := st (st σ 43 (σ 42 1).toNat (ib8 (ib8 v))) 42 1 (σ 42 1 + 1)
def mf1 (σ : Mem) (v : Int) : Mem := st (st σ 115 (σ 111 5).toNat (ian v 255)) 111 5 (σ 111 5 + 1)
def cfd (σ : Mem) (x : Int) : Nat → Mem
  | 0 => σ
  | n + 1 => cfd (cf1 σ (isr x (8 * (n : Int)))) x n
def mfd (σ : Mem) (x : Int) : Nat → Mem
  | 0 => σ
  | n + 1 => mfd (mf1 σ (isr x (8 * (n : Int)))) x n
theorem cf1_n (σ : Mem) (v : Int) : cf1 σ v 42 1 = σ 42 1 + 1 := by unfold cf1; rw [st_at]
theorem mf1_n (σ : Mem) (v : Int) : mf1 σ v 111 5 = σ 111 5 + 1 := by unfold mf1; rw [st_at]
theorem cf1_ne {σ : Mem} {v : Int} {k : Nat} (h : k ≠ 42 ∧ k ≠ 43) : cf1 σ v k = σ k := by unfold cf1; rw [st_ne (by omega), st_ne (by omega)]
theorem mf1_ne {σ : Mem} {v : Int} {k : Nat} (h : k ≠ 111 ∧ k ≠ 115) : mf1 σ v k = σ k := by unfold mf1; rw [st_ne (by omega), st_ne (by omega)]
theorem mf1_o {σ : Mem} {v : Int} {j : Nat} (h : j ≠ 5) : mf1 σ v 111 j = σ 111 j := by unfold mf1; rw [st_self, up_ne h, st_ne (by omega)]
theorem cfd_ne {x : Int} {k : Nat} (h : k ≠ 42 ∧ k ≠ 43) : ∀ n σ, cfd σ x n k = σ k
  | 0, _ => rfl
  | n + 1, σ => (cfd_ne h n _).trans (cf1_ne h)
theorem mfd_ne {x : Int} {k : Nat} (h : k ≠ 111 ∧ k ≠ 115) : ∀ n σ, mfd σ x n k = σ k
  | 0, _ => rfl
  | n + 1, σ => (mfd_ne h n _).trans (mf1_ne h)
theorem mfd_o {x : Int} {j : Nat} (h : j ≠ 5) : ∀ n σ, mfd σ x n 111 j = σ 111 j
  | 0, _ => rfl
  | n + 1, σ => (mfd_o h n _).trans (mf1_o h)
theorem TR1 {τ ρ : Mem} {v : Int} (h : TR τ ρ) (h2 : τ 42 1 < 120) : TR (cf1 τ v) (mf1 ρ v) := by
  obtain ⟨h3, h4, h5, h6⟩ := h
  refine ⟨by rw [cf1_n]; omega, by rw [cf1_n]; omega, by rw [cf1_n, mf1_n, h5], fun i hi => ?_⟩
  rw [cf1_n] at hi
  have e1 : cf1 τ v 43 = up (τ 43) (τ 42 1).toNat (ib8 (ib8 v)) := by unfold cf1; rw [st_ne (by omega), st_self]
  have e2 : mf1 ρ v 115 = up (ρ 115) (τ 42 1).toNat (ian v 255) := by unfold mf1; rw [st_ne (by omega), st_self, h5]
  rw [e1, e2]
  by_cases hc : i = (τ 42 1).toNat
  · rw [hc, up_at, up_at, ib8_ib8, ib8_eq, ian_255]
    omega
  · rw [up_ne hc, up_ne hc]
    exact h6 i (by omega)
theorem TRn {x : Int} : ∀ (n : Nat) (τ ρ : Mem), TR τ ρ → τ 42 1 + n ≤ 120 → TR (cfd τ x n) (mfd ρ x n) ∧ cfd τ x n 42 1 = τ 42 1 + n
  | 0, τ, ρ, h, _ => ⟨h, by show τ 42 1 = _; omega⟩
  | n + 1, τ, ρ, h, h2 => by
    have h3 := TRn (x := x) n _ _ (TR1 (v := isr x (8 * (n : Int))) h (by omega)) (by rw [cf1_n]; omega)
    refine ⟨h3.1, h3.2.trans ?_⟩
    rw [cf1_n]
    omega
theorem c_put1 {σ : Mem} {v : Int} (h : 0 ≤ σ 42 1 ∧ σ 42 1 < 120) : X8_put σ v = some (cf1 σ v) := by
  have hr : X8_hasRoomFor σ 1 = some 1 := by
    unfold X8_hasRoomFor
    ((repeat (first | with_reducible refine (ag_ok (by omega) (by omega) (by decide)).trans ?_ | rewrite [lt_v] | rewrite [bd_some] | rewrite [bd2_some] | with_reducible refine (if_pos (by first | omega | (unfold w32; omega))).trans ?_ | with_reducible refine (if_neg (by first | omega | (unfold w32; omega))).trans ?_)); (repeat (first | with_reducible refine Eq.trans ?_ (if_pos (by first | omega | (unfold w32; omega))).symm | with_reducible refine Eq.trans ?_ (if_neg (by first | omega | (unfold w32; omega))).symm)); try rfl)
  unfold X8_put
  repeat (first | with_reducible refine (ag_ok (by omega) (by omega) (by decide)).trans ?_ | rewrite [lt_v] | rewrite [bd_some] | rewrite [bd2_some] | rewrite [bdk (hr)] | with_reducible refine (if_pos (by first | omega | (unfold w32; omega))).trans ?_ | with_reducible refine (if_neg (by first | omega | (unfold w32; omega))).trans ?_)
  rfl
theorem c_feed_loop {x : Int} : ∀ (n f : Nat) (σ : Mem), n < f → 0 ≤ σ 42 1 → σ 42 1 + n ≤ 120 → X10_feed_L47 f σ x (8 * ((n : Int) - 1)) = some (σ 42 1 + n, cfd σ x n) := by
  intro n
  induction n with
  | zero =>
    intro f σ h1 h2 h3
    obtain ⟨f, rfl⟩ : ∃ g, f = g + 1 := ⟨f - 1, by omega⟩
    show X10_feed_B47 _ _ _ _ = _
    unfold X10_feed_B47
    repeat (first | with_reducible refine (ag_ok (by omega) (by omega) (by decide)).trans ?_ | rewrite [lt_v] | rewrite [bd_some] | rewrite [bd2_some] | with_reducible refine (if_pos (by first | omega | (unfold w32; omega))).trans ?_ | with_reducible refine (if_neg (by first | omega | (unfold w32; omega))).trans ?_)
    show some (σ 42 1, σ) = some (σ 42 1 + 0, σ)
    rw [Int.add_zero]
  | succ n ih =>
    intro f σ h1 h2 h3
    obtain ⟨f, rfl⟩ : ∃ g, f = g + 1 := ⟨f - 1, by omega⟩
    show X10_feed_B47 _ _ _ _ = _
    have e : (8 : Int) * (((n + 1 : Nat) : Int) - 1) = 8 * (n : Int) := by omega
    rw [e]
    unfold X10_feed_B47
    repeat (first | with_reducible refine (ag_ok (by omega) (by omega) (by decide)).trans ?_ | rewrite [lt_v] | rewrite [bd_some] | rewrite [bd2_some] | rewrite [bdk (c_put1 (v := isr x (8 * (n : Int))) (⟨h2, by omega⟩ : 0 ≤ σ 42 1 ∧ σ 42 1 < 120))] | with_reducible refine (if_pos (by first | omega | (unfold w32; omega))).trans ?_ | with_reducible refine (if_neg (by first | omega | (unfold w32; omega))).trans ?_)
    have := ih f (cf1 σ (isr x (8 * (n : Int)))) (by omega) (by rw [cf1_n]; omega) (by rw [cf1_n]; omega)
    rw [show 8 * (n : Int) + -8 = 8 * ((n : Int) - 1) by omega, this, cf1_n]
    show some (_, _) = some (_, cfd σ x (n + 1))
    rw [show σ 42 1 + 1 + (n : Int) = σ 42 1 + ((n + 1 : Nat) : Int) by omega]
    rfl
theorem m_feed_loop {x : Int} : ∀ (n f : Nat) (σ : Mem), n < f → 0 ≤ σ 111 5 → σ 111 5 + n ≤ 120 → X11_feed_L39 f σ x ((n : Int) - 1) = some (σ 111 5 + n, mfd σ x n) := by
  intro n
  induction n with
  | zero =>
    intro f σ h1 h2 h3
    obtain ⟨f, rfl⟩ : ∃ g, f = g + 1 := ⟨f - 1, by omega⟩
    show X11_feed_B39 _ _ _ _ = _
    unfold X11_feed_B39
    repeat (first | with_reducible refine (ag_ok (by omega) (by omega) (by decide)).trans ?_ | rewrite [lt_v] | rewrite [bd_some] | rewrite [bd2_some] | with_reducible refine (if_pos (by first | omega | (unfold w32; omega))).trans ?_ | with_reducible refine (if_neg (by first | omega | (unfold w32; omega))).trans ?_)
    show some (σ 111 5, σ) = some (σ 111 5 + 0, σ)
    rw [Int.add_zero]
  | succ n ih =>
    intro f σ h1 h2 h3
    obtain ⟨f, rfl⟩ : ∃ g, f = g + 1 := ⟨f - 1, by omega⟩
    show X11_feed_B39 _ _ _ _ = _
    have e : (((n + 1 : Nat) : Int) - 1) = (n : Int) := by omega
    rw [e]
    unfold X11_feed_B39
    repeat (first | with_reducible refine (ag_ok (by omega) (by omega) (by decide)).trans ?_ | rewrite [lt_v] | rewrite [bd_some] | rewrite [bd2_some] | with_reducible refine (if_pos (by first | omega | (unfold w32; omega))).trans ?_ | with_reducible refine (if_neg (by first | omega | (unfold w32; omega))).trans ?_)
    have := ih f (mf1 σ (isr x (8 * (n : Int)))) (by omega) (by rw [mf1_n]; omega) (by rw [mf1_n]; omega)
    rw [mf1_n] at this
    rw [show (n : Int) + -1 = (n : Int) - 1 by omega, show st (st σ 115 (σ 111 5).toNat (ian (isr x (8 * (n : Int))) 255)) 111 5 (st σ 115 (σ 111 5).toNat (ian (isr x (8 * (n : Int))) 255) 111 5 + 1) = mf1 σ (isr x (8 * (n : Int))) from by rw [st_ne (a := 111) (k := 115) (by omega)]; rfl, this]
    show some (_, _) = some (_, mfd σ x (n + 1))
    rw [show σ 111 5 + 1 + (n : Int) = σ 111 5 + ((n + 1 : Nat) : Int) by omega]
    rfl
theorem c_feed {σ : Mem} {x n : Int} (hn : inR n) (h0 : 0 ≤ σ 42 1 ∧ σ 42 1 ≤ 120) : X10_feed σ x n = if 1 ≤ n ∧ n ≤ 4 then (if σ 42 1 + n ≤ 120 then some (σ 42 1 + n, cfd σ x n.toNat) else some (-1000002, tel σ 1)) else some (-1000001, tel σ 0) := by
  have hw := within_if (σ := σ) hn (a := 1) (b := 4) (iR0 (by decide) (by decide)) (iR0 (by decide) (by decide))
  unfold X10_feed
  by_cases h1 : 1 ≤ n ∧ n ≤ 4
  · rw [if_pos h1] at hw
    by_cases h2 : σ 42 1 + n ≤ 120
    · have hr : X8_hasRoomFor σ n = some 1 := by
        unfold X8_hasRoomFor
        ((repeat (first | with_reducible refine (ag_ok (by omega) (by omega) (by decide)).trans ?_ | rewrite [lt_v] | rewrite [bd_some] | rewrite [bd2_some] | with_reducible refine (if_pos (by first | omega | (unfold w32; omega))).trans ?_ | with_reducible refine (if_neg (by first | omega | (unfold w32; omega))).trans ?_)); (repeat (first | with_reducible refine Eq.trans ?_ (if_pos (by first | omega | (unfold w32; omega))).symm | with_reducible refine Eq.trans ?_ (if_neg (by first | omega | (unfold w32; omega))).symm)); try rfl)
      repeat (first | with_reducible refine (ag_ok (by omega) (by omega) (by decide)).trans ?_ | rewrite [lt_v] | rewrite [bd_some] | rewrite [bd2_some] | rewrite [bdk (hw)] | rewrite [bdk (hr)] | with_reducible refine (if_pos (by first | omega | (unfold w32; omega))).trans ?_ | with_reducible refine (if_neg (by first | omega | (unfold w32; omega))).trans ?_)
      repeat (first | with_reducible refine Eq.trans ?_ (if_pos (by first | omega | (unfold w32; omega))).symm | with_reducible refine Eq.trans ?_ (if_neg (by first | omega | (unfold w32; omega))).symm)
      obtain ⟨n, rfl⟩ := Int.eq_ofNat_of_zero_le (a := n) (by omega)
      exact c_feed_loop n 5000 σ (by omega) (by omega) (by omega)
    · have hr : X8_hasRoomFor σ n = some 0 := by
        unfold X8_hasRoomFor
        ((repeat (first | with_reducible refine (ag_ok (by omega) (by omega) (by decide)).trans ?_ | rewrite [lt_v] | rewrite [bd_some] | rewrite [bd2_some] | with_reducible refine (if_pos (by first | omega | (unfold w32; omega))).trans ?_ | with_reducible refine (if_neg (by first | omega | (unfold w32; omega))).trans ?_)); (repeat (first | with_reducible refine Eq.trans ?_ (if_pos (by first | omega | (unfold w32; omega))).symm | with_reducible refine Eq.trans ?_ (if_neg (by first | omega | (unfold w32; omega))).symm)); try rfl)
      ((repeat (first | with_reducible refine (ag_ok (by omega) (by omega) (by decide)).trans ?_ | rewrite [lt_v] | rewrite [bd_some] | rewrite [bd2_some] | rewrite [bdk (hw)] | rewrite [bdk (hr)] | rewrite [bd2k (tell_1 σ)] | with_reducible refine (if_pos (by first | omega | (unfold w32; omega))).trans ?_ | with_reducible refine (if_neg (by first | omega | (unfold w32; omega))).trans ?_)); (repeat (first | with_reducible refine Eq.trans ?_ (if_pos (by first | omega | (unfold w32; omega))).symm | with_reducible refine Eq.trans ?_ (if_neg (by first | omega | (unfold w32; omega))).symm)); try rfl)
  · rw [if_neg h1] at hw
    ((repeat (first | with_reducible refine (ag_ok (by omega) (by omega) (by decide)).trans ?_ | rewrite [lt_v] | rewrite [bd_some] | rewrite [bd2_some] | rewrite [bdk (hw)] | rewrite [bd2k (tell_0 σ)] | with_reducible refine (if_pos (by first | omega | (unfold w32; omega))).trans ?_ | with_reducible refine (if_neg (by first | omega | (unfold w32; omega))).trans ?_)); (repeat (first | with_reducible refine Eq.trans ?_ (if_pos (by first | omega | (unfold w32; omega))).symm | with_reducible refine Eq.trans ?_ (if_neg (by first | omega | (unfold w32; omega))).symm)); try rfl)
theorem m_feed {σ : Mem} {x n : Int} (hn : inR n) (h0 : 0 ≤ σ 111 5 ∧ σ 111 5 ≤ 120) : X11_feed σ x n = if 1 ≤ n ∧ n ≤ 4 then (if σ 111 5 + n ≤ 120 then some (σ 111 5 + n, mfd σ x n.toNat) else some (-1000002, fnd σ 1)) else some (-1000001, fnd σ 0) := by
  have hw := in_if (σ := σ) hn (a := 1) (b := 4) (iR0 (by decide) (by decide)) (iR0 (by decide) (by decide))
  unfold X11_feed
  rw [inR_w hn]
  by_cases h1 : 1 ≤ n ∧ n ≤ 4
  · rw [if_pos h1] at hw
    by_cases h2 : σ 111 5 + n ≤ 120
    · repeat (first | with_reducible refine (ag_ok (by omega) (by omega) (by decide)).trans ?_ | rewrite [lt_v] | rewrite [bd_some] | rewrite [bd2_some] | rewrite [bdk (hw)] | with_reducible refine (if_pos (by first | omega | (unfold w32; omega))).trans ?_ | with_reducible refine (if_neg (by first | omega | (unfold w32; omega))).trans ?_)
      repeat (first | with_reducible refine Eq.trans ?_ (if_pos (by first | omega | (unfold w32; omega))).symm | with_reducible refine Eq.trans ?_ (if_neg (by first | omega | (unfold w32; omega))).symm)
      obtain ⟨n, rfl⟩ := Int.eq_ofNat_of_zero_le (a := n) (by omega)
      exact m_feed_loop n 5000 σ (by omega) (by omega) (by omega)
    · ((repeat (first | with_reducible refine (ag_ok (by omega) (by omega) (by decide)).trans ?_ | rewrite [lt_v] | rewrite [bd_some] | rewrite [bd2_some] | rewrite [bdk (hw)] | rewrite [bd2k (finds_1 σ)] | with_reducible refine (if_pos (by first | omega | (unfold w32; omega))).trans ?_ | with_reducible refine (if_neg (by first | omega | (unfold w32; omega))).trans ?_)); (repeat (first | with_reducible refine Eq.trans ?_ (if_pos (by first | omega | (unfold w32; omega))).symm | with_reducible refine Eq.trans ?_ (if_neg (by first | omega | (unfold w32; omega))).symm)); try rfl)
  · rw [if_neg h1] at hw
    ((repeat (first | with_reducible refine (ag_ok (by omega) (by omega) (by decide)).trans ?_ | rewrite [lt_v] | rewrite [bd_some] | rewrite [bd2_some] | rewrite [bdk (hw)] | rewrite [bd2k (finds_0 σ)] | with_reducible refine (if_pos (by first | omega | (unfold w32; omega))).trans ?_ | with_reducible refine (if_neg (by first | omega | (unfold w32; omega))).trans ?_)); (repeat (first | with_reducible refine Eq.trans ?_ (if_pos (by first | omega | (unfold w32; omega))).symm | with_reducible refine Eq.trans ?_ (if_neg (by first | omega | (unfold w32; omega))).symm)); try rfl)
