/-! breakOf, price, judge -/
theorem CRB.brks {r : Nat → Int} {σ : Mem} (h : CRB 1 r σ) (hw : WF r) {k q : Nat} (hk : (k : Int) < r 665) (hq : q < 3) : σ (5 + q) k = brk r k q := by
  have hn := hw.num
  have := h.2.2.2.2.2.1 k (by omega) hk q hq
  rw [show 1 + 4 + q = 5 + q by omega] at this
  exact this
theorem CRB.numb {r : Nat → Int} {σ : Mem} (h : CRB 1 r σ) : σ 4 3 = r 665 := h.2.2.2.2.1
def brS (r : Nat → Int) (k : Nat) (w v : Int) : Prop := (w = 0 ∧ v = brk r k 0) ∨ (w = 1 ∧ v = brk r k 1) ∨ (w = 2 ∧ v = brk r k 2) ∨ (w = 3 ∧ ((mbS r (brk r k 0) (brk r k 1).toNat (brk r k 2) ∧ v = 1) ∨ (¬ mbS r (brk r k 0) (brk r k 1).toNat (brk r k 2) ∧ v = 0))) ∨ (w = 4 ∧ v = prS r (brk r k 0) (brk r k 1).toNat (brk r k 2))
theorem c_breakOf {r : Nat → Int} {σ : Mem} (hw : WF r) (h : CRB 1 r σ) {k w : Int} (hk : inR k) (hww : inR w) : ((0 ≤ k ∧ k < r 665) ∧ 0 ≤ w ∧ w ≤ 4 → ∃ v, X10_breakOf σ k w = some (v, σ) ∧ brS r k.toNat w v) ∧ (¬ ((0 ≤ k ∧ k < r 665) ∧ 0 ≤ w ∧ w ≤ 4) → X10_breakOf σ k w = some (-1000001, tel σ 0)) := by
  have hn := hw.num
  have hi := has_if (σ := σ) (B := 4) hk (by rw [h.numb]; exact hn)
  rw [h.numb] at hi
  have hw1 := within_if (σ := σ) hww (a := 0) (b := 4) (iR0 (by decide) (by decide)) (iR0 (by decide) (by decide))
  unfold X10_breakOf X10_breakOf_B25
  by_cases h1 : 0 ≤ k ∧ k < r 665
  · rw [if_pos h1] at hi
    by_cases h2 : 0 ≤ w ∧ w ≤ 4
    · refine ⟨fun _ => ?_, fun q => absurd ⟨h1, h2⟩ q⟩
      rw [if_pos h2] at hw1
      obtain ⟨k, rfl⟩ := Int.eq_ofNat_of_zero_le h1.1
      rw [Int.toNat_natCast]
      obtain ⟨g1, g2, g3⟩ := hw.brk_in h1.2
      have b0 : σ 5 k = brk r k 0 := h.brks hw h1.2 (q := 0) (by omega)
      have b1 : σ 6 k = brk r k 1 := h.brks hw h1.2 (q := 1) (by omega)
      have b2 : σ 7 k = brk r k 2 := h.brks hw h1.2 (q := 2) (by omega)
      obtain ⟨p, hp⟩ := Int.eq_ofNat_of_zero_le g2.1
      have hp4 : p < 4 := by omega
      rw [hp, Int.toNat_natCast] at g3
      have h40 := hw.bars hp4
      rw [bdk hi, if_neg (by decide), bdk hw1, if_pos (by decide)]
      unfold brS
      rcases (by omega : w = 0 ∨ w = 1 ∨ w = 2 ∨ w = 3 ∨ w = 4) with e | e | e | e | e
      · refine ⟨brk r k 0, ?_, Or.inl ⟨e, rfl⟩⟩
        rw [if_pos (by first | omega | (unfold w32; omega)), ag_nat (by omega) (by decide), b0]
      · refine ⟨brk r k 1, ?_, Or.inr (Or.inl ⟨e, rfl⟩)⟩
        rw [if_neg (by first | omega | (unfold w32; omega)), if_pos (by first | omega | (unfold w32; omega)), ag_nat (by omega) (by decide), b1]
      · refine ⟨brk r k 2, ?_, Or.inr (Or.inr (Or.inl ⟨e, rfl⟩))⟩
        rw [if_neg (by first | omega | (unfold w32; omega)), if_neg (by first | omega | (unfold w32; omega)), if_pos (by first | omega | (unfold w32; omega)), ag_nat (by omega) (by decide), b2]
      · obtain ⟨v, v1, v2⟩ := c_mayBreak hw h hp4 g1 g3
        rw [if_neg (by first | omega | (unfold w32; omega)), if_neg (by first | omega | (unfold w32; omega)), if_neg (by first | omega | (unfold w32; omega)), if_pos (by first | omega | (unfold w32; omega)), ag_nat (by omega) (by decide), ag_nat (by omega) (by decide), ag_nat (by omega) (by decide), b0, b1, b2, hp, bdk v1]
        refine ⟨v, ?_, Or.inr (Or.inr (Or.inr (Or.inl ⟨e, by rw [Int.toNat_natCast]; exact v2⟩)))⟩
        rcases v2 with ⟨_, rfl⟩ | ⟨_, rfl⟩
        · rfl
        · rfl
      · refine ⟨_, ?_, Or.inr (Or.inr (Or.inr (Or.inr ⟨e, rfl⟩)))⟩
        rw [if_neg (by first | omega | (unfold w32; omega)), if_neg (by first | omega | (unfold w32; omega)), if_neg (by first | omega | (unfold w32; omega)), if_neg (by first | omega | (unfold w32; omega)), ag_nat (by omega) (by decide), ag_nat (by omega) (by decide), ag_nat (by omega) (by decide), b0, b1, b2, hp, bdk (c_priceOf hw h hp4 g1 ⟨by omega, by omega⟩), Int.toNat_natCast]
    · refine ⟨fun q => absurd q.2 h2, fun _ => ?_⟩
      rw [if_neg h2] at hw1
      ((repeat (first | with_reducible refine (ag_ok (by omega) (by omega) (by decide)).trans ?_ | rewrite [lt_v] | rewrite [bd_some] | rewrite [bd2_some] | rewrite [bdk (hi)] | rewrite [bdk (hw1)] | rewrite [bd2k (tell_0 σ)] | with_reducible refine (if_pos (by first | omega | (unfold w32; omega))).trans ?_ | with_reducible refine (if_neg (by first | omega | (unfold w32; omega))).trans ?_)); (repeat (first | with_reducible refine Eq.trans ?_ (if_pos (by first | omega | (unfold w32; omega))).symm | with_reducible refine Eq.trans ?_ (if_neg (by first | omega | (unfold w32; omega))).symm)); try rfl)
  · refine ⟨fun q => absurd q.1 h1, fun _ => ?_⟩
    rw [if_neg h1] at hi
    ((repeat (first | with_reducible refine (ag_ok (by omega) (by omega) (by decide)).trans ?_ | rewrite [lt_v] | rewrite [bd_some] | rewrite [bd2_some] | rewrite [bdk (hi)] | rewrite [bd2k (tell_0 σ)] | with_reducible refine (if_pos (by first | omega | (unfold w32; omega))).trans ?_ | with_reducible refine (if_neg (by first | omega | (unfold w32; omega))).trans ?_)); (repeat (first | with_reducible refine Eq.trans ?_ (if_pos (by first | omega | (unfold w32; omega))).symm | with_reducible refine Eq.trans ?_ (if_neg (by first | omega | (unfold w32; omega))).symm)); try rfl)
theorem m_breakOf {σ : Mem} (hw : WF (σ 112)) {k w : Int} (hk : inR k) (hww : inR w) : ((0 ≤ k ∧ k < σ 112 665) ∧ 0 ≤ w ∧ w ≤ 4 → ∃ v, X11_breakOf σ k w = some (v, σ) ∧ brS (σ 112) k.toNat w v) ∧ (¬ ((0 ≤ k ∧ k < σ 112 665) ∧ 0 ≤ w ∧ w ≤ 4) → X11_breakOf σ k w = some (-1000001, fnd σ 0)) := by
  have hn := hw.num
  have hi := isBreak_if (σ := σ) hk hn
  have hw1 := in_if (σ := σ) hww (a := 0) (b := 4) (iR0 (by decide) (by decide)) (iR0 (by decide) (by decide))
  unfold X11_breakOf X11_breakOf_B20
  rw [inR_w hww]
  by_cases h1 : 0 ≤ k ∧ k < σ 112 665
  · rw [if_pos h1] at hi
    by_cases h2 : 0 ≤ w ∧ w ≤ 4
    · refine ⟨fun _ => ?_, fun q => absurd ⟨h1, h2⟩ q⟩
      rw [if_pos h2] at hw1
      obtain ⟨k, rfl⟩ := Int.eq_ofNat_of_zero_le h1.1
      rw [Int.toNat_natCast]
      rw [bdk hi, if_neg (by decide), bdk hw1, if_pos (by decide)]
      have o0 : X11_of σ k 0 = some (brk (σ 112) k 0) := m_ofN (q := 0) (by omega) (by omega)
      have o1 : X11_of σ k 1 = some (brk (σ 112) k 1) := m_ofN (q := 1) (by omega) (by omega)
      have o2 : X11_of σ k 2 = some (brk (σ 112) k 2) := m_ofN (q := 2) (by omega) (by omega)
      unfold brS
      rcases (by omega : w = 0 ∨ w = 1 ∨ w = 2 ∨ w = 3 ∨ w = 4) with e | e | e | e | e
      · refine ⟨_, ?_, Or.inl ⟨e, rfl⟩⟩
        subst e
        rw [if_neg (by decide), bdk o0]
      · refine ⟨_, ?_, Or.inr (Or.inl ⟨e, rfl⟩)⟩
        subst e
        rw [if_neg (by decide), bdk o1]
      · refine ⟨_, ?_, Or.inr (Or.inr (Or.inl ⟨e, rfl⟩))⟩
        subst e
        rw [if_neg (by decide), bdk o2]
      · obtain ⟨v, v1, v2⟩ := m_mayBe hw h1.2
        refine ⟨v, ?_, Or.inr (Or.inr (Or.inr (Or.inl ⟨e, v2⟩)))⟩
        subst e
        rw [if_pos (by decide), if_neg (by decide), bdk v1]
        rcases v2 with ⟨_, rfl⟩ | ⟨_, rfl⟩
        · rfl
        · rfl
      · refine ⟨_, ?_, Or.inr (Or.inr (Or.inr (Or.inr ⟨e, rfl⟩)))⟩
        subst e
        rw [if_pos (by decide), if_pos (by decide), bdk (m_priceOf hw h1.2)]
    · refine ⟨fun q => absurd q.2 h2, fun _ => ?_⟩
      rw [if_neg h2] at hw1
      ((repeat (first | with_reducible refine (ag_ok (by omega) (by omega) (by decide)).trans ?_ | rewrite [lt_v] | rewrite [bd_some] | rewrite [bd2_some] | rewrite [bdk (hi)] | rewrite [bdk (hw1)] | rewrite [bd2k (finds_0 σ)] | with_reducible refine (if_pos (by first | omega | (unfold w32; omega))).trans ?_ | with_reducible refine (if_neg (by first | omega | (unfold w32; omega))).trans ?_)); (repeat (first | with_reducible refine Eq.trans ?_ (if_pos (by first | omega | (unfold w32; omega))).symm | with_reducible refine Eq.trans ?_ (if_neg (by first | omega | (unfold w32; omega))).symm)); try rfl)
  · refine ⟨fun q => absurd q.1 h1, fun _ => ?_⟩
    rw [if_neg h1] at hi
    ((repeat (first | with_reducible refine (ag_ok (by omega) (by omega) (by decide)).trans ?_ | rewrite [lt_v] | rewrite [bd_some] | rewrite [bd2_some] | rewrite [bdk (hi)] | rewrite [bd2k (finds_0 σ)] | with_reducible refine (if_pos (by first | omega | (unfold w32; omega))).trans ?_ | with_reducible refine (if_neg (by first | omega | (unfold w32; omega))).trans ?_)); (repeat (first | with_reducible refine Eq.trans ?_ (if_pos (by first | omega | (unfold w32; omega))).symm | with_reducible refine Eq.trans ?_ (if_neg (by first | omega | (unfold w32; omega))).symm)); try rfl)
theorem brS_eq {r : Nat → Int} {k : Nat} {w v u : Int} (h1 : brS r k w v) (h2 : brS r k w u) : v = u := by
  unfold brS at h1 h2
  rcases h1 with h1 | h1 | h1 | ⟨e, h1⟩ | h1
  · omega
  · omega
  · omega
  · rcases h2 with h2 | h2 | h2 | ⟨_, h2⟩ | h2
    · omega
    · omega
    · omega
    · rcases h1 with h1 | h1
      · rcases h2 with h2 | h2
        · omega
        · exact absurd h1.1 h2.1
      · rcases h2 with h2 | h2
        · exact absurd h2.1 h1.1
        · omega
    · omega
  · omega
def prT (r : Nat → Int) (p : Nat) : Nat → Nat → Int
  | 0, _ => 0
  | n + 1, i => (if brk r i 1 = p then prS r (brk r i 0) p (brk r i 2) else 0) + prT r p n (i + 1)
theorem c_price {r : Nat → Int} {σ : Mem} (hw : WF r) (h : CRB 1 r σ) {p N : Nat} (hp : p < 4) (hN : r 665 = N) : ∀ (n i f : Nat) (acc : Int), i + n = N → n < f → X10_price_L27 f σ p 4 acc i = some (acc + prT r p n i, σ) := by
  have hn := hw.num
  have h43 := h.numb
  intro n
  induction n with
  | zero =>
    intro i f acc h1 h2
    obtain ⟨f, rfl⟩ : ∃ x, f = x + 1 := ⟨f - 1, by omega⟩
    show X10_price_B27 _ _ _ _ _ _ = some (acc + 0, σ)
    rw [Int.add_zero]
    unfold X10_price_B27
    ((repeat (first | with_reducible refine (ag_ok (by omega) (by omega) (by decide)).trans ?_ | rewrite [lt_v] | rewrite [bd_some] | rewrite [bd2_some] | with_reducible refine (if_pos (by first | omega | (unfold w32; omega))).trans ?_ | with_reducible refine (if_neg (by first | omega | (unfold w32; omega))).trans ?_)); (repeat (first | with_reducible refine Eq.trans ?_ (if_pos (by first | omega | (unfold w32; omega))).symm | with_reducible refine Eq.trans ?_ (if_neg (by first | omega | (unfold w32; omega))).symm)); try rfl)
  | succ n ih =>
    intro i f acc h1 h2
    obtain ⟨f, rfl⟩ : ∃ x, f = x + 1 := ⟨f - 1, by omega⟩
    show X10_price_B27 _ _ _ _ _ _ = _
    obtain ⟨g1, g2, g3⟩ := hw.brk_in (k := i) (by omega)
    have b0 : σ 5 i = brk r i 0 := h.brks hw (by omega) (q := 0) (by omega)
    have b1 : σ 6 i = brk r i 1 := h.brks hw (by omega) (q := 1) (by omega)
    have b2 : σ 7 i = brk r i 2 := h.brks hw (by omega) (q := 2) (by omega)
    unfold X10_price_B27 X10_price_B72 prT
    rw [if_neg (by first | omega | (unfold w32; omega)), ag_nat (by omega) (by decide)]
    show (if w32 (σ 6 i) ≠ w32 p then _ else _) = _
    rw [b1]
    by_cases hc : brk r i 1 = p
    · rw [hc, Int.toNat_natCast] at g3
      have h40 := hw.bars hp
      rw [if_neg (by first | omega | (unfold w32; omega)), ag_nat (by omega) (by decide), ag_nat (by omega) (by decide)]
      show bd (X7_priceOf σ 1 (σ 5 i) p (σ 7 i)) _ = _
      rw [b0, b2, bdk (c_priceOf hw h hp g1 ⟨by omega, by omega⟩), lt_v, lt_v, if_pos hc]
      have := ih (i + 1) f (acc + prS r (brk r i 0) p (brk r i 2)) (by omega) (by omega)
      rw [Int.add_assoc] at this
      exact this
    · rw [if_pos (by first | omega | (unfold w32; omega)), lt_v, if_neg hc, Int.zero_add]
      exact ih (i + 1) f acc (by omega) (by omega)
theorem m_price {σ : Mem} (hw : WF (σ 112)) {p N : Nat} (hp : p < 4) (hN : σ 112 665 = N) : ∀ (n i f : Nat) (acc : Int), i + n = N → n < f → X11_price_L17 f σ p acc i = some (acc + prT (σ 112) p n i, σ) := by
  have hn := hw.num
  have e : σ 112 (665 : Int).toNat = N := hN
  intro n
  induction n with
  | zero =>
    intro i f acc h1 h2
    obtain ⟨f, rfl⟩ : ∃ x, f = x + 1 := ⟨f - 1, by omega⟩
    show X11_price_B17 _ _ _ _ _ = some (acc + 0, σ)
    rw [Int.add_zero]
    unfold X11_price_B17
    ((repeat (first | with_reducible refine (ag_ok (by omega) (by omega) (by decide)).trans ?_ | rewrite [lt_v] | rewrite [bd_some] | rewrite [bd2_some] | with_reducible refine (if_pos (by first | omega | (unfold w32; omega))).trans ?_ | with_reducible refine (if_neg (by first | omega | (unfold w32; omega))).trans ?_)); (repeat (first | with_reducible refine Eq.trans ?_ (if_pos (by first | omega | (unfold w32; omega))).symm | with_reducible refine Eq.trans ?_ (if_neg (by first | omega | (unfold w32; omega))).symm)); try rfl)
  | succ n ih =>
    intro i f acc h1 h2
    obtain ⟨f, rfl⟩ : ∃ x, f = x + 1 := ⟨f - 1, by omega⟩
    show X11_price_B17 _ _ _ _ _ = _
    obtain ⟨g1, g2, g3⟩ := hw.brk_in (k := i) (by omega)
    have o1 : X11_of σ i 1 = some (brk (σ 112) i 1) := m_ofN (q := 1) (by omega) (by omega)
    have mp := m_priceOf hw (k := i) (by omega)
    unfold X11_price_B17 X11_price_B49 prT
    by_cases hc : brk (σ 112) i 1 = p
    · rw [hc, Int.toNat_natCast] at mp
      repeat (first | with_reducible refine (ag_ok (by omega) (by omega) (by decide)).trans ?_ | rewrite [lt_v] | rewrite [bd_some] | rewrite [bd2_some] | rewrite [bdk (o1)] | rewrite [bdk (mp)] | with_reducible refine (if_pos (by first | omega | (unfold w32; omega))).trans ?_ | with_reducible refine (if_neg (by first | omega | (unfold w32; omega))).trans ?_)
      rw [if_pos hc]
      have := ih (i + 1) f (acc + prS (σ 112) (brk (σ 112) i 0) p (brk (σ 112) i 2)) (by omega) (by omega)
      rw [Int.add_assoc] at this
      exact this
    · repeat (first | with_reducible refine (ag_ok (by omega) (by omega) (by decide)).trans ?_ | rewrite [lt_v] | rewrite [bd_some] | rewrite [bd2_some] | rewrite [bdk (o1)] | rewrite [bdk (mp)] | with_reducible refine (if_pos (by first | omega | (unfold w32; omega))).trans ?_ | with_reducible refine (if_neg (by first | omega | (unfold w32; omega))).trans ?_)
      rw [if_neg hc, Int.zero_add, Int.add_zero]
      exact ih (i + 1) f acc (by omega) (by omega)
