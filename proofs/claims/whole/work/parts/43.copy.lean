/-! copy -/
theorem bdk {α β : Type} {x : Option α} {a : α} {k : α → Option β} (h : x = some a) : bd x k = k a := by rw [h]; rfl
theorem bd2k {α β γ : Type} {x : Option (α × β)} {a : α} {b : β} {k : α → β → Option γ} (h : x = some (a, b)) : bd2 x k = k a b := by rw [h]; rfl
theorem missing_t {σ : Mem} {B : Nat} (h : σ B 1 = 0) : X6_isMissing σ B = some 1 := by
  unfold X6_isMissing
  ((repeat (first | with_reducible refine (ag_ok (by omega) (by omega) (by decide)).trans ?_ | rw [lt_v] | rw [bd_some] | rw [bd2_some] | with_reducible refine (if_pos (by first | omega | (unfold w32; omega))).trans ?_ | with_reducible refine (if_neg (by first | omega | (unfold w32; omega))).trans ?_)); (repeat (first | with_reducible refine Eq.trans ?_ (if_pos (by first | omega | (unfold w32; omega))).symm | with_reducible refine Eq.trans ?_ (if_neg (by first | omega | (unfold w32; omega))).symm)); try rfl)
theorem missing_f {σ : Mem} {B : Nat} (h : ¬ σ B 1 = 0) (h2 : 0 ≤ σ B 1 ∧ σ B 1 ≤ 32) : X6_isMissing σ B = some 0 := by
  unfold X6_isMissing
  ((repeat (first | with_reducible refine (ag_ok (by omega) (by omega) (by decide)).trans ?_ | rw [lt_v] | rw [bd_some] | rw [bd2_some] | with_reducible refine (if_pos (by first | omega | (unfold w32; omega))).trans ?_ | with_reducible refine (if_neg (by first | omega | (unfold w32; omega))).trans ?_)); (repeat (first | with_reducible refine Eq.trans ?_ (if_pos (by first | omega | (unfold w32; omega))).symm | with_reducible refine Eq.trans ?_ (if_neg (by first | omega | (unfold w32; omega))).symm)); try rfl)
theorem c_copy {σ : Mem} {s a t b n : Int} (hs : inR s) (ha : inR a) (ht : inR t) (hb : inR b) (hn : inR n) (hB : ∀ s, s < 4 → okBits (σ (63 + 2 * s) 1)) (hl : ∀ s, s < 4 → 0 ≤ σ (63 + 2 * s) 2 ∧ σ (63 + 2 * s) 2 ≤ 40) : X10_copy σ s a t b n = if (0 ≤ s ∧ s ≤ 3) ∧ 0 ≤ t ∧ t ≤ 3 then (if σ (63 + 2 * s.toNat) 1 = 0 ∨ σ (63 + 2 * t.toNat) 1 = 0 then some (-1000006, tel σ 5) else if σ (63 + 2 * s.toNat) 1 = σ (63 + 2 * t.toNat) 1 then (if (0 ≤ a ∧ 0 ≤ n ∧ n ≤ σ (63 + 2 * s.toNat) 2 - a) ∧ 0 ≤ b ∧ 0 ≤ n ∧ n ≤ σ (63 + 2 * t.toNat) 2 - b then some (n, cpy σ (64 + 2 * s.toNat) a.toNat (64 + 2 * t.toNat) b.toNat n.toNat) else some (-1000001, tel σ 0)) else some (-1000003, tel σ 2)) else some (-1000001, tel σ 0) := by
  have is := isSheet_if (σ := σ) hs
  have it := isSheet_if (σ := σ) ht
  unfold X10_copy X10_copy_B14 X10_copy_B53 X10_copy_B104
  obtain ⟨s1, s2⟩ := id hs
  obtain ⟨t1, t2⟩ := id ht
  obtain ⟨a1, a2⟩ := id ha
  obtain ⟨b1, b2⟩ := id hb
  obtain ⟨n1, n2⟩ := id hn
  by_cases h1 : 0 ≤ s ∧ s ≤ 3
  · rw [if_pos h1] at is
    by_cases h2 : 0 ≤ t ∧ t ≤ 3
    · rw [if_pos h2] at it
      have c1 := okBits_le (hB s.toNat (by omega))
      have c2 := okBits_le (hB t.toNat (by omega))
      have l1 := hl s.toNat (by omega)
      have l2 := hl t.toNat (by omega)
      have x1 := stretch_if ha hn l1
      have x2 := stretch_if hb hn l2
      by_cases h3 : σ (63 + 2 * s.toNat) 1 = 0
      · repeat (first | with_reducible refine (ag_ok (by omega) (by omega) (by decide)).trans ?_ | rw [lt_v] | rw [bd_some] | rw [bd2_some] | rw [bdk (is)] | rw [bd2k (is)] | rw [bdk (it)] | rw [bd2k (it)] | rw [bdk (missing_t h3)] | rw [bd2k (missing_t h3)] | rw [bdk (tell_5 σ)] | rw [bd2k (tell_5 σ)] | with_reducible refine (if_pos (by first | omega | (unfold w32; omega))).trans ?_ | with_reducible refine (if_neg (by first | omega | (unfold w32; omega))).trans ?_)
        repeat (first | with_reducible refine Eq.trans ?_ (if_pos (by first | omega | (unfold w32; omega))).symm | with_reducible refine Eq.trans ?_ (if_neg (by first | omega | (unfold w32; omega))).symm)
        rfl
      · by_cases h4 : σ (63 + 2 * t.toNat) 1 = 0
        · repeat (first | with_reducible refine (ag_ok (by omega) (by omega) (by decide)).trans ?_ | rw [lt_v] | rw [bd_some] | rw [bd2_some] | rw [bdk (is)] | rw [bd2k (is)] | rw [bdk (it)] | rw [bd2k (it)] | rw [bdk (missing_f h3 c1)] | rw [bd2k (missing_f h3 c1)] | rw [bdk (missing_t h4)] | rw [bd2k (missing_t h4)] | rw [bdk (tell_5 σ)] | rw [bd2k (tell_5 σ)] | with_reducible refine (if_pos (by first | omega | (unfold w32; omega))).trans ?_ | with_reducible refine (if_neg (by first | omega | (unfold w32; omega))).trans ?_)
          repeat (first | with_reducible refine Eq.trans ?_ (if_pos (by first | omega | (unfold w32; omega))).symm | with_reducible refine Eq.trans ?_ (if_neg (by first | omega | (unfold w32; omega))).symm)
          rfl
        · by_cases h5 : σ (63 + 2 * s.toNat) 1 = σ (63 + 2 * t.toNat) 1
          · by_cases h6 : 0 ≤ a ∧ 0 ≤ n ∧ n ≤ σ (63 + 2 * s.toNat) 2 - a
            · rw [if_pos h6] at x1
              by_cases h7 : 0 ≤ b ∧ 0 ≤ n ∧ n ≤ σ (63 + 2 * t.toNat) 2 - b
              · rw [if_pos h7] at x2
                repeat (first | with_reducible refine (ag_ok (by omega) (by omega) (by decide)).trans ?_ | rw [lt_v] | rw [bd_some] | rw [bd2_some] | rw [bdk (is)] | rw [bd2k (is)] | rw [bdk (it)] | rw [bd2k (it)] | rw [bdk (missing_f h3 c1)] | rw [bd2k (missing_f h3 c1)] | rw [bdk (missing_f h4 c2)] | rw [bd2k (missing_f h4 c2)] | rw [bdk (x1)] | rw [bd2k (x1)] | rw [bdk (x2)] | rw [bd2k (x2)] | rw [ac] | with_reducible refine (if_pos (by first | omega | (unfold w32; omega))).trans ?_ | with_reducible refine (if_neg (by first | omega | (unfold w32; omega))).trans ?_)
                repeat (first | with_reducible refine Eq.trans ?_ (if_pos (by first | omega | (unfold w32; omega))).symm | with_reducible refine Eq.trans ?_ (if_neg (by first | omega | (unfold w32; omega))).symm)
                rw [inR_w ha, inR_w hb, inR_w hn, show 63 + 2 * s.toNat + 1 = 64 + 2 * s.toNat by omega, show 63 + 2 * t.toNat + 1 = 64 + 2 * t.toNat by omega]
              · rw [if_neg h7] at x2
                repeat (first | with_reducible refine (ag_ok (by omega) (by omega) (by decide)).trans ?_ | rw [lt_v] | rw [bd_some] | rw [bd2_some] | rw [bdk (is)] | rw [bd2k (is)] | rw [bdk (it)] | rw [bd2k (it)] | rw [bdk (missing_f h3 c1)] | rw [bd2k (missing_f h3 c1)] | rw [bdk (missing_f h4 c2)] | rw [bd2k (missing_f h4 c2)] | rw [bdk (x1)] | rw [bd2k (x1)] | rw [bdk (x2)] | rw [bd2k (x2)] | rw [bdk (tell_0 σ)] | rw [bd2k (tell_0 σ)] | with_reducible refine (if_pos (by first | omega | (unfold w32; omega))).trans ?_ | with_reducible refine (if_neg (by first | omega | (unfold w32; omega))).trans ?_)
                repeat (first | with_reducible refine Eq.trans ?_ (if_pos (by first | omega | (unfold w32; omega))).symm | with_reducible refine Eq.trans ?_ (if_neg (by first | omega | (unfold w32; omega))).symm)
                rfl
            · rw [if_neg h6] at x1
              repeat (first | with_reducible refine (ag_ok (by omega) (by omega) (by decide)).trans ?_ | rw [lt_v] | rw [bd_some] | rw [bd2_some] | rw [bdk (is)] | rw [bd2k (is)] | rw [bdk (it)] | rw [bd2k (it)] | rw [bdk (missing_f h3 c1)] | rw [bd2k (missing_f h3 c1)] | rw [bdk (missing_f h4 c2)] | rw [bd2k (missing_f h4 c2)] | rw [bdk (x1)] | rw [bd2k (x1)] | rw [bdk (x2)] | rw [bd2k (x2)] | rw [bdk (tell_0 σ)] | rw [bd2k (tell_0 σ)] | with_reducible refine (if_pos (by first | omega | (unfold w32; omega))).trans ?_ | with_reducible refine (if_neg (by first | omega | (unfold w32; omega))).trans ?_)
              repeat (first | with_reducible refine Eq.trans ?_ (if_pos (by first | omega | (unfold w32; omega))).symm | with_reducible refine Eq.trans ?_ (if_neg (by first | omega | (unfold w32; omega))).symm)
              rfl
          · repeat (first | with_reducible refine (ag_ok (by omega) (by omega) (by decide)).trans ?_ | rw [lt_v] | rw [bd_some] | rw [bd2_some] | rw [bdk (is)] | rw [bd2k (is)] | rw [bdk (it)] | rw [bd2k (it)] | rw [bdk (missing_f h3 c1)] | rw [bd2k (missing_f h3 c1)] | rw [bdk (missing_f h4 c2)] | rw [bd2k (missing_f h4 c2)] | rw [bdk (x1)] | rw [bd2k (x1)] | rw [bdk (x2)] | rw [bd2k (x2)] | rw [bdk (tell_2 σ)] | rw [bd2k (tell_2 σ)] | with_reducible refine (if_pos (by first | omega | (unfold w32; omega))).trans ?_ | with_reducible refine (if_neg (by first | omega | (unfold w32; omega))).trans ?_)
            repeat (first | with_reducible refine Eq.trans ?_ (if_pos (by first | omega | (unfold w32; omega))).symm | with_reducible refine Eq.trans ?_ (if_neg (by first | omega | (unfold w32; omega))).symm)
            rfl
    · rw [if_neg h2] at it
      repeat (first | with_reducible refine (ag_ok (by omega) (by omega) (by decide)).trans ?_ | rw [lt_v] | rw [bd_some] | rw [bd2_some] | rw [bdk (is)] | rw [bd2k (is)] | rw [bdk (it)] | rw [bd2k (it)] | rw [bdk (tell_0 σ)] | rw [bd2k (tell_0 σ)] | with_reducible refine (if_pos (by first | omega | (unfold w32; omega))).trans ?_ | with_reducible refine (if_neg (by first | omega | (unfold w32; omega))).trans ?_)
      repeat (first | with_reducible refine Eq.trans ?_ (if_pos (by first | omega | (unfold w32; omega))).symm | with_reducible refine Eq.trans ?_ (if_neg (by first | omega | (unfold w32; omega))).symm)
      rfl
  · rw [if_neg h1] at is
    repeat (first | with_reducible refine (ag_ok (by omega) (by omega) (by decide)).trans ?_ | rw [lt_v] | rw [bd_some] | rw [bd2_some] | rw [bdk (is)] | rw [bd2k (is)] | rw [bdk (it)] | rw [bd2k (it)] | rw [bdk (tell_0 σ)] | rw [bd2k (tell_0 σ)] | with_reducible refine (if_pos (by first | omega | (unfold w32; omega))).trans ?_ | with_reducible refine (if_neg (by first | omega | (unfold w32; omega))).trans ?_)
    repeat (first | with_reducible refine Eq.trans ?_ (if_pos (by first | omega | (unfold w32; omega))).symm | with_reducible refine Eq.trans ?_ (if_neg (by first | omega | (unfold w32; omega))).symm)
    rfl
theorem up_up {r : Nat → Int} : True := trivial
theorem cpy_get {σ : Mem} {k a b n q : Nat} (h : q < b ∨ b + n ≤ q) : cpy σ k a k b n k q = σ k q := by
  show (if k = k ∧ b ≤ q ∧ q < b + n then σ k (a + (q - b)) else σ k q) = σ k q
  rw [if_neg (by omega)]
theorem cpy_pre (σ : Mem) (k a b n : Nat) : st (cpy σ k (a + 1) k (b + 1) n) k b (σ k a) = cpy σ k a k b (n + 1) := by
  funext c d
  simp only [st, cpy]
  by_cases h1 : c = k
  · by_cases h2 : d = b
    · rw [if_pos ⟨h1, h2⟩, if_pos ⟨h1, by omega, by omega⟩, h2, Nat.sub_self, Nat.add_zero]
    · rw [if_neg (by omega)]
      by_cases h3 : b ≤ d ∧ d < b + (n + 1)
      · rw [if_pos ⟨h1, by omega, by omega⟩, if_pos ⟨h1, h3⟩, show a + 1 + (d - (b + 1)) = a + (d - b) by omega]
      · rw [if_neg (by omega), if_neg (by omega)]
  · rw [if_neg (by omega), if_neg (by omega), if_neg (by omega)]
theorem mcf (σ : Mem) (s a t b n : Nat) (hs : s < 4) (ht : t < 4) (ha : a + n ≤ 40) (hb : b + n ≤ 40) (hd : s ≠ t ∨ b ≤ a) : ∀ (r i f : Nat), i + r = n → r < f → X11_copy_L133 f (cpy σ 136 (40 * s + a) 136 (40 * t + b) i) s a t b n 0 i = some ((n : Int), cpy σ 136 (40 * s + a) 136 (40 * t + b) n) := by
  intro r
  induction r with
  | zero =>
    intro i f h1 h2
    obtain ⟨f, rfl⟩ : ∃ g, f = g + 1 := ⟨f - 1, by omega⟩
    show X11_copy_B133 _ _ _ _ _ _ _ _ _ = _
    unfold X11_copy_B133
    ((repeat (first | with_reducible refine (ag_ok (by omega) (by omega) (by decide)).trans ?_ | rw [lt_v] | rw [bd_some] | rw [bd2_some] | with_reducible refine (if_pos (by first | omega | (unfold w32; omega))).trans ?_ | with_reducible refine (if_neg (by first | omega | (unfold w32; omega))).trans ?_)); (repeat (first | with_reducible refine Eq.trans ?_ (if_pos (by first | omega | (unfold w32; omega))).symm | with_reducible refine Eq.trans ?_ (if_neg (by first | omega | (unfold w32; omega))).symm)); try rfl)
    rw [show i = n by omega]
  | succ r ih =>
    intro i f h1 h2
    obtain ⟨f, rfl⟩ : ∃ g, f = g + 1 := ⟨f - 1, by omega⟩
    show X11_copy_B133 _ _ _ _ _ _ _ _ _ = _
    unfold X11_copy_B133 X11_copy_B157
    repeat (first | with_reducible refine (ag_ok (by omega) (by omega) (by decide)).trans ?_ | rw [lt_v] | rw [bd_some] | rw [bd2_some] | with_reducible refine (if_pos (by first | omega | (unfold w32; omega))).trans ?_ | with_reducible refine (if_neg (by first | omega | (unfold w32; omega))).trans ?_)
    rw [show ((40 : Int) * s + a + i).toNat = 40 * s + a + i by omega, show ((40 : Int) * t + b + i).toNat = 40 * t + b + i by omega, cpy_get (by omega), cpy_succ]
    exact ih (i + 1) f (by omega) (by omega)
theorem mcb (σ : Mem) (s a b n : Nat) (hs : s < 4) (ha : a + n ≤ 40) (hb : b + n ≤ 40) (hd : a < b) : ∀ (r i f : Nat), i + r = n → r < f → X11_copy_L133 f (cpy σ 136 (40 * s + a + r) 136 (40 * s + b + r) i) s a s b n 1 i = some ((n : Int), cpy σ 136 (40 * s + a) 136 (40 * s + b) n) := by
  intro r
  induction r with
  | zero =>
    intro i f h1 h2
    obtain ⟨f, rfl⟩ : ∃ g, f = g + 1 := ⟨f - 1, by omega⟩
    show X11_copy_B133 _ _ _ _ _ _ _ _ _ = _
    unfold X11_copy_B133
    ((repeat (first | with_reducible refine (ag_ok (by omega) (by omega) (by decide)).trans ?_ | rw [lt_v] | rw [bd_some] | rw [bd2_some] | with_reducible refine (if_pos (by first | omega | (unfold w32; omega))).trans ?_ | with_reducible refine (if_neg (by first | omega | (unfold w32; omega))).trans ?_)); (repeat (first | with_reducible refine Eq.trans ?_ (if_pos (by first | omega | (unfold w32; omega))).symm | with_reducible refine Eq.trans ?_ (if_neg (by first | omega | (unfold w32; omega))).symm)); try rfl)
    rw [show i = n by omega]
    rfl
  | succ r ih =>
    intro i f h1 h2
    obtain ⟨f, rfl⟩ : ∃ g, f = g + 1 := ⟨f - 1, by omega⟩
    show X11_copy_B133 _ _ _ _ _ _ _ _ _ = _
    unfold X11_copy_B133 X11_copy_B157
    repeat (first | with_reducible refine (ag_ok (by omega) (by omega) (by decide)).trans ?_ | rw [lt_v] | rw [bd_some] | rw [bd2_some] | with_reducible refine (if_pos (by first | omega | (unfold w32; omega))).trans ?_ | with_reducible refine (if_neg (by first | omega | (unfold w32; omega))).trans ?_)
    rw [show ((40 : Int) * s + a + (n - 1 - i)).toNat = 40 * s + a + r by omega, show ((40 : Int) * s + b + (n - 1 - i)).toNat = 40 * s + b + r by omega, cpy_get (by omega)]
    have := cpy_pre σ 136 (40 * s + a + r) (40 * s + b + r) i
    rw [show 40 * s + a + (r + 1) = 40 * s + a + r + 1 by omega, show 40 * s + b + (r + 1) = 40 * s + b + r + 1 by omega, this]
    exact ih (i + 1) f (by omega) (by omega)
