/-! rows that differ at one place -/
theorem tr_ne {p q w x : Nat} (hw : w < 4) (hx : x < 10) (h5 : 5 ≤ x) (h : ¬ (p = q ∧ x = 5 + w)) : x + 165 * q ≠ 5 + 165 * p + w := by
  rcases Nat.lt_trichotomy p q with h1 | h1 | h1
  · omega
  · subst h1; omega
  · omega
theorem tr_ne2 {p q w b x : Nat} (hw : w < 4) (hq : q < 4) (hp : p < 4) (hb : b < 40) (hx : x < 4) : 10 + x + 165 * q + 4 * b ≠ 5 + 165 * p + w := by
  rcases Nat.lt_trichotomy p q with h1 | h1 | h1
  · omega
  · subst h1; omega
  · omega
def okT (p w : Nat) (v : Int) : Prop := (w = 0 → 30 ≤ v ∧ v ≤ 240) ∧ (w = 1 → 0 ≤ v ∧ v ≤ 8) ∧ (w = 2 → -1 ≤ v ∧ v ≤ 3 ∧ v ≠ (p : Int)) ∧ (w = 3 → 0 ≤ v ∧ v ≤ 1023)
theorem WF.trait {r : Nat → Int} (hw : WF r) {p w : Nat} {v : Int} (hp : p < 4) (hww : w < 4) (hv : okT p w v) : WF (up r (5 + 165 * p + w) v) := by
  obtain ⟨h1, h2, h3, h4, h5, h6⟩ := hw
  have eb : ∀ q, q < 4 → up r (5 + 165 * p + w) v (9 + 165 * q) = r (9 + 165 * q) := fun q hq => up_ne (tr_ne hww (by omega) (by omega) (by omega))
  refine ⟨?_, fun q hq => ?_, fun q hq b hb => ?_, ?_, fun k hk => ?_, fun s hs => ?_⟩
  · rw [up_ne (by omega), up_ne (by omega), up_ne (by omega), up_ne (by omega), up_ne (by omega)]; exact h1
  · obtain ⟨a1, a2, a3, a4, a5⟩ := h2 q hq
    rw [eb q hq]
    have t : ∀ x, x < 4 → up r (5 + 165 * p + w) v (5 + x + 165 * q) = if p = q ∧ x = w then v else r (5 + x + 165 * q) := fun x hx => by
      by_cases c : p = q ∧ x = w
      · rw [if_pos c, c.1, c.2, show 5 + w + 165 * q = 5 + 165 * q + w by omega, up_at]
      · rw [if_neg c, up_ne (tr_ne hww (by omega) (by omega) (by omega))]
    have t0 := t 0 (by omega)
    have t1 := t 1 (by omega)
    have t2 := t 2 (by omega)
    have t3 := t 3 (by omega)
    rw [show 5 + 0 + 165 * q = 5 + 165 * q by omega] at t0
    rw [show 5 + 1 + 165 * q = 6 + 165 * q by omega] at t1
    rw [show 5 + 2 + 165 * q = 7 + 165 * q by omega] at t2
    rw [show 5 + 3 + 165 * q = 8 + 165 * q by omega] at t3
    rw [t0, t1, t2, t3]
    obtain ⟨v0, v1, v2, v3⟩ := hv
    refine ⟨?_, ?_, ?_, ?_, a5⟩
    · split
      · rename_i c; exact v0 c.2.symm
      · exact a1
    · split
      · rename_i c; exact v1 c.2.symm
      · exact a2
    · split
      · rename_i c; rw [← c.1]; exact v2 c.2.symm
      · exact a3
    · split
      · rename_i c; exact v3 c.2.symm
      · exact a4
  · rw [eb q hq] at hb
    have h40 := (h2 q hq).2.2.2.2
    have := h3 q hq b hb
    rw [up_ne (by have := tr_ne2 (x := 0) hww hq hp (show b < 40 by omega) (by omega); omega), up_ne (by have := tr_ne2 (x := 1) hww hq hp (show b < 40 by omega) (by omega); omega), up_ne (by have := tr_ne2 (x := 2) hww hq hp (show b < 40 by omega) (by omega); omega), up_ne (by have := tr_ne2 (x := 3) hww hq hp (show b < 40 by omega) (by omega); omega)]
    exact this
  · rw [up_ne (by omega)]; exact h4
  · rw [up_ne (by omega)] at hk
    have := h5 k hk
    rw [up_ne (by omega), up_ne (by omega), up_ne (by omega), eb _ (by omega)]
    exact this
  · rw [up_ne (by omega), up_ne (by omega)]; exact h6 s hs
def okR (i : Nat) (v : Int) : Prop := (i = 0 → 20 ≤ v ∧ v ≤ 200) ∧ (i = 1 → 1 ≤ v ∧ v ≤ 6) ∧ (i = 2 → 0 ≤ v ∧ v ≤ 999) ∧ (i = 3 → 0 ≤ v ∧ v ≤ 99) ∧ (i = 4 → 0 ≤ v ∧ v ≤ 999)
theorem WF.rule {r : Nat → Int} (hw : WF r) {i : Nat} {v : Int} (hi : i < 5) (hv : okR i v) : WF (up r i v) := by
  obtain ⟨⟨r0, r1, r2, r3, r4⟩, h2, h3, h4, h5, h6⟩ := hw
  obtain ⟨v0, v1, v2, v3, v4⟩ := hv
  have e : ∀ j, 5 ≤ j → up r i v j = r j := fun j hj => up_ne (by omega)
  have t : ∀ j, up r i v j = if j = i then v else r j := fun j => rfl
  refine ⟨⟨?_, ?_, ?_, ?_, ?_⟩, fun q hq => ?_, fun q hq b hb => ?_, ?_, fun k hk => ?_, fun s hs => ?_⟩
  · rw [t]; split
    · rename_i c; exact v0 c.symm
    · exact r0
  · rw [t]; split
    · rename_i c; exact v1 c.symm
    · exact r1
  · rw [t]; split
    · rename_i c; exact v2 c.symm
    · exact r2
  · rw [t]; split
    · rename_i c; exact v3 c.symm
    · exact r3
  · rw [t]; split
    · rename_i c; exact v4 c.symm
    · exact r4
  · rw [e _ (by omega), e _ (by omega), e _ (by omega), e _ (by omega), e _ (by omega)]; exact h2 q hq
  · rw [e _ (by omega)] at hb
    rw [e _ (by omega), e _ (by omega), e _ (by omega), e _ (by omega)]; exact h3 q hq b hb
  · rw [e _ (by omega)]; exact h4
  · rw [e _ (by omega)] at hk
    rw [e _ (by omega), e _ (by omega), e _ (by omega), e _ (by omega)]; exact h5 k hk
  · rw [e _ (by omega), e _ (by omega)]; exact h6 s hs
/-- rows alike in what tells how long a hand is free -/
def alk (r r' : Nat → Int) : Prop := ∀ q, q < 4 → r' (5 + 165 * q) = r (5 + 165 * q) ∧ r' (7 + 165 * q) = r (7 + 165 * q) ∧ r' (9 + 165 * q) = r (9 + 165 * q) ∧ ∀ j, j < 160 → r' (10 + 165 * q + j) = r (10 + 165 * q + j)
theorem fbs_congr {r r' : Nat → Int} (h : alk r r') (hw : WF r) {q : Nat} (hq : q < 4) (d : Int) : ∀ (n : Nat) (c b : Int), fbs r' q d n c b = fbs r q d n c b
  | 0, _, _ => rfl
  | n + 1, c, b => by
    have h40 := hw.bars hq
    obtain ⟨_, _, h3, h4⟩ := h q hq
    have ih := fbs_congr h hw hq d n (c - 1) (b + d)
    unfold fbs
    rw [h3, ih]
    by_cases hb : 0 ≤ b ∧ b < r (9 + 165 * q)
    · have e1 : hnd r' q b = hnd r q b := by
        unfold hnd
        have := h4 (4 * b.toNat + 1) (by omega)
        rw [show 10 + 165 * q + 4 * b.toNat + 1 = 10 + 165 * q + (4 * b.toNat + 1) by omega]
        exact this
      have e2 : bts r' q b = bts r q b := by
        unfold bts
        have := h4 (4 * b.toNat + 2) (by omega)
        rw [show 10 + 165 * q + 4 * b.toNat + 2 = 10 + 165 * q + (4 * b.toNat + 2) by omega]
        exact this
      rw [if_pos hb, if_pos hb, e1, e2]
    · rw [if_neg hb, if_neg hb]
theorem frS_congr {r r' : Nat → Int} (h : alk r r') (hw : WF r) {q : Nat} (hq : q < 4) (b m : Int) : frS r' q b m = frS r q b m := by
  unfold frS
  rw [fbs_congr h hw hq, fbs_congr h hw hq, (h q hq).1]
theorem esS_congr {r r' : Nat → Int} (h : alk r r') (hw : WF r) {p : Nat} (hp : p < 4) (m : Int) (b : Nat) : esS r' p m b = esS r p m b := by
  have hh := hw.help hp
  have e : nbF r' p b = nbF r p b := by
    unfold nbF
    rw [(h p hp).2.1]
    by_cases c : 0 ≤ r (7 + 165 * p)
    · rw [(h _ (show (r (7 + 165 * p)).toNat < 4 by omega)).2.2.1, frS_congr h hw (by omega)]
    · rw [if_neg (fun x => c x.1), if_neg (fun x => c x.1)]
  unfold esS
  rw [e, frS_congr h hw hp]
theorem alk_trait {r : Nat → Int} {p w : Nat} {v : Int} (hp : p < 4) (hw : w = 1 ∨ w = 3) : alk r (up r (5 + 165 * p + w) v) := fun q hq => by
  have hw4 : w < 4 := by omega
  refine ⟨up_ne (tr_ne hw4 (by omega) (by omega) (by omega)), up_ne (tr_ne hw4 (by omega) (by omega) (by omega)), up_ne (tr_ne hw4 (by omega) (by omega) (by omega)), fun j hj => up_ne ?_⟩
  have := tr_ne2 (x := j % 4) (b := j / 4) hw4 hq hp (by omega) (by omega)
  omega
theorem alk_rule {r : Nat → Int} {i : Nat} {v : Int} (hi : i < 5) : alk r (up r i v) := fun q hq => ⟨up_ne (by omega), up_ne (by omega), up_ne (by omega), fun j hj => up_ne (by omega)⟩
/-! the reference's stops -/
theorem m_stopsOf {r0 : Nat → Int} {p : Nat} (hp : p < 4) {ρ : Mem} (hw : WF (ρ 112)) (hw0 : WF r0) (hN0 : r0 (9 + 165 * p) = ρ 112 (9 + 165 * p)) (hpm : ∀ s, s < 3 → PMs r0 p s ρ) : ∃ v ρ', X11_stopsOf ρ p = some (v, ρ') ∧ (∀ q, q < 120 ∨ 125 < q → ρ' q = ρ q) ∧ (-1 ≤ v ∧ v ≤ 40) ∧ (v = 0 ↔ 0 < (ρ 112 (9 + 165 * p)).toNat ∧ nf (ρ 112 (9 + 165 * p)).toNat (pkn r0 p 3) (ρ 112 4) (tnB (ρ 112 (8 + 165 * p)).toNat) (spB (ρ 112) p) 0 0) ∧ (v = -1 ↔ ρ 112 (9 + 165 * p) = 0 ∨ bL (ρ 112) r0 p 0 0 = none) := by
  have h40 := hw.bars hp
  obtain ⟨N, hN⟩ : ∃ N : Nat, ρ 112 (9 + 165 * p) = N := ⟨(ρ 112 (9 + 165 * p)).toNat, by omega⟩
  obtain ⟨ρ1, t1, t2, t3, t4⟩ := m_lays hp hw hw0 hN0 hpm
  unfold X11_stopsOf
  rw [bd2k t1]
  by_cases c : ρ 112 (9 + 165 * p) = 0 ∨ bL (ρ 112) r0 p 0 0 = none
  · rw [if_pos c, if_pos (by decide)]
    refine ⟨-1, ρ1, rfl, t2, by omega, ⟨fun h => by omega, ?_⟩, ⟨fun _ => c, fun _ => rfl⟩⟩
    rintro ⟨h1, w, h2, h3⟩
    rcases c with c | c
    · omega
    · have : bL (ρ 112) r0 p 0 0 = some w := h2
      rw [c] at this
      cases this
  · rw [if_neg c, if_neg (by decide), ag_ok (by omega) (by omega) (by decide), show (0 : Int).toNat = 0 from rfl]
    have hNp : 0 < N := by
      by_cases c0 : N = 0
      · exact absurd (Or.inl (by omega)) c
      · omega
    obtain ⟨z, z1, z2⟩ := t4 0 0 (by omega) (by omega)
    cases hb : bL (ρ 112) r0 p 0 0 with
    | none => exact absurd (Or.inr hb) c
    | some w =>
      have hb' : bW (ρ 112 (9 + 165 * p)).toNat (pkn r0 p 3) (ρ 112 4) (tnB (ρ 112 (8 + 165 * p)).toNat) (spB (ρ 112) p) 0 0 = some w := hb
      rw [hb'] at z1
      have e121 : ρ1 121 0 = w.1 := z1.1
      have i := bW_in (fun b k _ hk => bnd_pkn hw0 hp (by omega) 3 (by omega)) hw.page 0 0 40 0 0 w (by omega) hb'
      rw [e121]
      refine ⟨w.1, ρ1, rfl, t2, by omega, ⟨fun h => ⟨by omega, w, hb', h⟩, ?_⟩, ⟨fun h => by omega, fun h => ?_⟩⟩
      · rintro ⟨_, u, h2, h3⟩
        rw [hb'] at h2
        rw [Option.some.inj h2]; exact h3
      · rcases h with h | h
        · omega
        · cases h
