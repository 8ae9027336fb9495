/-! cut: the calls and what they leave -/
def okCut (r : Nat → Int) (p b n : Int) : Prop := (0 ≤ p ∧ p ≤ 3 ∧ 0 ≤ b ∧ b < r (9 + 165 * p.toNat)) ∧ 1 ≤ n ∧ n ≤ r (9 + 165 * p.toNat) - b
def cutc (σ : Mem) (p b n : Nat) (B : Int) : Mem := st (cpy σ (11 + 3 * p) (4 * (b + n)) (11 + 3 * p) (4 * b) (4 * (B.toNat - (b + n)))) (9 + 3 * p) 2 (B - n)
def cutm (σ : Mem) (p b n : Nat) (B : Int) : Mem := st (cpy σ 112 (10 + 165 * p + 4 * b + 4 * n) 112 (10 + 165 * p + 4 * b) (4 * ((B - n).toNat - b))) 112 (9 + 165 * p) (B - n)
theorem c_drop {σ : Mem} {p b n : Nat} (hp : p < 4) (hB : (b : Int) + n ≤ σ (9 + 3 * p) 2) (h40 : σ (9 + 3 * p) 2 ≤ 40) : X5_drop σ (9 + 3 * p) b n = some (cutc σ p b n (σ (9 + 3 * p) 2)) := by
  unfold X5_drop
  rw [lt_v]
  unfold ac
  repeat (first | with_reducible refine (ag_ok (by omega) (by omega) (by decide)).trans ?_ | rewrite [lt_v] | rewrite [bd_some] | rewrite [bd2_some] | with_reducible refine (if_pos (by first | omega | (unfold w32; omega))).trans ?_ | with_reducible refine (if_neg (by first | omega | (unfold w32; omega))).trans ?_)
  unfold cutc
  rw [cpy_ne (k := 9 + 3 * p) (by omega), w32_id (by omega) (by omega), w32_id (by omega) (by omega), w32_id (by omega) (by omega), show (((b : Int) + n) * 4).toNat = 4 * (b + n) by omega, show ((b : Int) * 4).toNat = 4 * b by omega, show ((σ (9 + 3 * p) 2 - ((b : Int) + n)) * 4).toNat = 4 * ((σ (9 + 3 * p) 2).toNat - (b + n)) by omega, show 9 + 3 * p + 2 = 11 + 3 * p by omega]
theorem c_cut {σ : Mem} {p b n : Int} (hp : inR p) (hb : inR b) (hn : inR n) {N : Nat} (hN : N ≤ 30) (h3 : σ 4 3 = N) (hk : ∀ k, k < N → inR (σ 6 k)) (h40 : ∀ p, p < 4 → 0 ≤ σ (9 + 3 * p) 2 ∧ σ (9 + 3 * p) 2 ≤ 40) : (¬ ((0 ≤ p ∧ p ≤ 3 ∧ 0 ≤ b ∧ b < σ (9 + 3 * p.toNat) 2) ∧ 1 ≤ n ∧ n ≤ σ (9 + 3 * p.toNat) 2 - b) → X10_cut σ p b n = some (-1000001, tel σ 0)) ∧ ((0 ≤ p ∧ p ≤ 3 ∧ 0 ≤ b ∧ b < σ (9 + 3 * p.toNat) 2) ∧ 1 ≤ n ∧ n ≤ σ (9 + 3 * p.toNat) 2 - b → (¬ (∀ k, k < N → σ 6 k ≠ p) → X10_cut σ p b n = some (-1000005, tel σ 4)) ∧ ((∀ k, k < N → σ 6 k ≠ p) → X10_cut σ p b n = some (σ (9 + 3 * p.toNat) 2 - n, fgp (cutc σ p.toNat b.toNat n.toNat (σ (9 + 3 * p.toNat) 2)) p.toNat))) := by
  have hi := isBar_if (σ := σ) hp hb h40
  obtain ⟨p1, p2⟩ := id hp
  obtain ⟨b1, b2⟩ := id hb
  obtain ⟨n1, n2⟩ := id hn
  unfold X10_cut X10_cut_B31
  by_cases h1 : 0 ≤ p ∧ p ≤ 3 ∧ 0 ≤ b ∧ b < σ (9 + 3 * p.toNat) 2
  · rw [if_pos h1] at hi
    have hB := h40 p.toNat (by omega)
    have hw := within_if (σ := σ) hn (a := 1) (b := σ (9 + 3 * p.toNat) 2 - b) (iR0 (by decide) (by decide)) (iR0 (by omega) (by omega))
    by_cases h2 : 1 ≤ n ∧ n ≤ σ (9 + 3 * p.toNat) 2 - b
    · rw [if_pos h2] at hw
      refine ⟨fun q => absurd ⟨h1, h2⟩ q, fun _ => ?_⟩
      obtain ⟨v, v1, v2, v3, v4⟩ := c_ofPart σ p N hN h3 hp hk N 0 5000 0 (by omega) (by omega)
      have v1' : X0_ofPart σ 4 p = some v := v1
      refine ⟨fun q => ?_, fun q => ?_⟩
      · have : ¬ v ≤ 0 := fun h => q (fun k hk => v4.1 h k (by omega) hk)
        ((repeat (first | with_reducible refine (ag_ok (by omega) (by omega) (by decide)).trans ?_ | rewrite [lt_v] | rewrite [bd_some] | rewrite [bd2_some] | rewrite [bdk (hi)] | rewrite [bdk (hw)] | rewrite [bdk (v1')] | rewrite [bd2k (tell_4 σ)] | with_reducible refine (if_pos (by first | omega | (unfold w32; omega))).trans ?_ | with_reducible refine (if_neg (by first | omega | (unfold w32; omega))).trans ?_)); (repeat (first | with_reducible refine Eq.trans ?_ (if_pos (by first | omega | (unfold w32; omega))).symm | with_reducible refine Eq.trans ?_ (if_neg (by first | omega | (unfold w32; omega))).symm)); try rfl)
      · have hv : v ≤ 0 := v4.2 (fun k _ hk => q k hk)
        obtain ⟨p, rfl⟩ := Int.eq_ofNat_of_zero_le (a := p) (by omega)
        obtain ⟨b, rfl⟩ := Int.eq_ofNat_of_zero_le (a := b) (by omega)
        obtain ⟨n, rfl⟩ := Int.eq_ofNat_of_zero_le (a := n) (by omega)
        rw [Int.toNat_natCast] at h1 h2 hB
        simp only [Int.toNat_natCast] at hw ⊢
        rw [bdk hi]
        have hd := c_drop (σ := σ) (p := p) (b := b) (n := n) (by omega) (by omega) (by omega)
        have hf := forgetPart_eq (cutc σ p b n (σ (9 + 3 * p) 2)) p (by omega)
        rw [if_neg (by decide), ag_nat (by omega) (by decide), bdk hw, if_pos (by decide), bdk v1', if_pos (by first | omega | (unfold w32; omega)), ag_nat (by omega) (by decide), bdk hd, bdk hf, ag_nat (by omega) (by decide)]
        have e : fgp (cutc σ p b n (σ (9 + 3 * p) 2)) p (9 + 3 * p) = cutc σ p b n (σ (9 + 3 * p) 2) (9 + 3 * p) := fgp_ne (by omega) (by omega)
        rw [e]
        have e2 : cutc σ p b n (σ (9 + 3 * p) 2) (9 + 3 * p) 2 = σ (9 + 3 * p) 2 - n := by unfold cutc; rw [st_at]
        rw [e2]
    · rw [if_neg h2] at hw
      refine ⟨fun _ => ?_, fun q => absurd q.2 h2⟩
      ((repeat (first | with_reducible refine (ag_ok (by omega) (by omega) (by decide)).trans ?_ | rewrite [lt_v] | rewrite [bd_some] | rewrite [bd2_some] | rewrite [bdk (hi)] | rewrite [bdk (hw)] | rewrite [bd2k (tell_0 σ)] | with_reducible refine (if_pos (by first | omega | (unfold w32; omega))).trans ?_ | with_reducible refine (if_neg (by first | omega | (unfold w32; omega))).trans ?_)); (repeat (first | with_reducible refine Eq.trans ?_ (if_pos (by first | omega | (unfold w32; omega))).symm | with_reducible refine Eq.trans ?_ (if_neg (by first | omega | (unfold w32; omega))).symm)); try rfl)
  · rw [if_neg h1] at hi
    refine ⟨fun _ => ?_, fun q => absurd q.1 h1⟩
    ((repeat (first | with_reducible refine (ag_ok (by omega) (by omega) (by decide)).trans ?_ | rewrite [lt_v] | rewrite [bd_some] | rewrite [bd2_some] | rewrite [bdk (hi)] | rewrite [bd2k (tell_0 σ)] | with_reducible refine (if_pos (by first | omega | (unfold w32; omega))).trans ?_ | with_reducible refine (if_neg (by first | omega | (unfold w32; omega))).trans ?_)); (repeat (first | with_reducible refine Eq.trans ?_ (if_pos (by first | omega | (unfold w32; omega))).symm | with_reducible refine Eq.trans ?_ (if_neg (by first | omega | (unfold w32; omega))).symm)); try rfl)
theorem m_cut {σ : Mem} {p b n : Int} (hp : inR p) (hb : inR b) (hn : inR n) {N : Nat} (hN : N ≤ 30) (h3 : σ 112 665 = N) (hk : ∀ k, k < N → inR (σ 112 (667 + 3 * k))) (h40 : ∀ p, p < 4 → 0 ≤ σ 112 (9 + 165 * p) ∧ σ 112 (9 + 165 * p) ≤ 40) : (¬ okCut (σ 112) p b n → X11_cut σ p b n = some (-1000001, fnd σ 0)) ∧ (okCut (σ 112) p b n → (¬ (∀ k, k < N → σ 112 (667 + 3 * k) ≠ p) → X11_cut σ p b n = some (-1000005, fnd σ 4)) ∧ ((∀ k, k < N → σ 112 (667 + 3 * k) ≠ p) → X11_cut σ p b n = some (σ 112 (9 + 165 * p.toNat) - n, cutm σ p.toNat b.toNat n.toNat (σ 112 (9 + 165 * p.toNat))))) := by
  have hi := mBar_if (σ := σ) hp hb h40
  obtain ⟨p1, p2⟩ := id hp
  obtain ⟨b1, b2⟩ := id hb
  obtain ⟨n1, n2⟩ := id hn
  unfold X11_cut X11_cut_B26 okCut
  by_cases h1 : 0 ≤ p ∧ p ≤ 3 ∧ 0 ≤ b ∧ b < σ 112 (9 + 165 * p.toNat)
  · rw [if_pos h1] at hi
    have hB := h40 p.toNat (by omega)
    have hw := in_if (σ := σ) hn (a := 1) (b := σ 112 (9 + 165 * p.toNat) - b) (iR0 (by decide) (by decide)) (iR0 (by omega) (by omega))
    have hbs := mbars (σ := σ) (p := p) ⟨h1.1, h1.2.1⟩
    have ew : w32 (σ 112 (9 + 165 * p.toNat) - b) = σ 112 (9 + 165 * p.toNat) - b := w32_id (by omega) (by omega)
    by_cases h2 : 1 ≤ n ∧ n ≤ σ 112 (9 + 165 * p.toNat) - b
    · rw [if_pos h2] at hw
      refine ⟨fun q => absurd ⟨h1, h2⟩ q, fun _ => ?_⟩
      have hc := m_cut35 σ p b n N hN h3 ⟨h1.1, h1.2.1⟩ hk N 0 5000 (by omega) (by omega)
      have go : ∀ x, X11_cut_L35 5000 σ p b n 0 = x → (bd (X11_isBar σ p b) fun r1 => if w32 r1 = 0 then bd2 (X11_finds σ 0) fun r1 s2 => some (r1, s2) else bd (X11_bars σ p) fun r2 => bd (X11_in σ (w32 n) 1 (w32 (r2 - b))) fun r3 => if w32 r3 ≠ 0 then X11_cut_L35 5000 σ p b n 0 else bd2 (X11_finds σ 0) fun r1 s2 => some (r1, s2)) = x := by
        intro x hx
        rw [inR_w hn]
        repeat (first | with_reducible refine (ag_ok (by omega) (by omega) (by decide)).trans ?_ | rewrite [lt_v] | rewrite [bd_some] | rewrite [bd2_some] | rewrite [bdk (hi)] | rewrite [bdk (hbs)] | rewrite [ew] | rewrite [bdk (hw)] | with_reducible refine (if_pos (by first | omega | (unfold w32; omega))).trans ?_ | with_reducible refine (if_neg (by first | omega | (unfold w32; omega))).trans ?_)
        exact hx
      refine ⟨fun q => ?_, fun q => ?_⟩
      · exact go _ (hc.2 (fun h => q (fun k hk => h k (by omega) hk)))
      · refine go _ ((hc.1 (fun k _ hk => q k hk)).trans ?_)
        obtain ⟨p, rfl⟩ := Int.eq_ofNat_of_zero_le (a := p) (by omega)
        obtain ⟨b, rfl⟩ := Int.eq_ofNat_of_zero_le (a := b) (by omega)
        obtain ⟨n, rfl⟩ := Int.eq_ofNat_of_zero_le (a := n) (by omega)
        rw [Int.toNat_natCast] at h1 h2 hB
        simp only [Int.toNat_natCast]
        obtain ⟨t, ht⟩ := Int.eq_ofNat_of_zero_le (a := σ 112 (9 + 165 * p) - n) (by omega)
        have := m_cut91 σ p b n t (by omega) (by omega) (t - b) 0 5000 (by omega) (by omega)
        rw [Nat.mul_zero, cpy_0, Nat.add_zero] at this
        unfold cutm
        rw [ht, Int.toNat_natCast]
        exact this
    · rw [if_neg h2] at hw
      refine ⟨fun _ => ?_, fun q => absurd q.2 h2⟩
      rw [inR_w hn]
      ((repeat (first | with_reducible refine (ag_ok (by omega) (by omega) (by decide)).trans ?_ | rewrite [lt_v] | rewrite [bd_some] | rewrite [bd2_some] | rewrite [bdk (hi)] | rewrite [bdk (hbs)] | rewrite [ew] | rewrite [bdk (hw)] | rewrite [bd2k (finds_0 σ)] | with_reducible refine (if_pos (by first | omega | (unfold w32; omega))).trans ?_ | with_reducible refine (if_neg (by first | omega | (unfold w32; omega))).trans ?_)); (repeat (first | with_reducible refine Eq.trans ?_ (if_pos (by first | omega | (unfold w32; omega))).symm | with_reducible refine Eq.trans ?_ (if_neg (by first | omega | (unfold w32; omega))).symm)); try rfl)
  · rw [if_neg h1] at hi
    refine ⟨fun _ => ?_, fun q => absurd q.1 h1⟩
    ((repeat (first | with_reducible refine (ag_ok (by omega) (by omega) (by decide)).trans ?_ | rewrite [lt_v] | rewrite [bd_some] | rewrite [bd2_some] | rewrite [bdk (hi)] | rewrite [bd2k (finds_0 σ)] | with_reducible refine (if_pos (by first | omega | (unfold w32; omega))).trans ?_ | with_reducible refine (if_neg (by first | omega | (unfold w32; omega))).trans ?_)); (repeat (first | with_reducible refine Eq.trans ?_ (if_pos (by first | omega | (unfold w32; omega))).symm | with_reducible refine Eq.trans ?_ (if_neg (by first | omega | (unfold w32; omega))).symm)); try rfl)
