/-! how long a hand is free; stops; turns -/
def nbF (r : Nat → Int) (p : Nat) (b : Int) : Int := if 0 ≤ r (7 + 165 * p) ∧ b < r (9 + 165 * (r (7 + 165 * p)).toNat) then frS r (r (7 + 165 * p)).toNat b 0 else -1
theorem c_nbF {r : Nat → Int} {σ : Mem} (hw : WF r) (h : CRB 1 r σ) {p : Nat} (hp : p < 4) {b : Int} (hb : 0 ≤ b ∧ b < 40) : X7_neighbourFree σ 1 p b = some (nbF r p b) ∧ -1 ≤ nbF r p b ∧ nbF r p b ≤ 200000 := by
  have hn := hw.need
  have hh := hw.help hp
  have e : σ (1 + 1 + 7 + 3 * p + 1) 2 = r (7 + 165 * p) := by
    rw [show 1 + 1 + 7 + 3 * p + 1 = 10 + 3 * p by omega, h.trt hp (by omega), show 5 + 165 * p + 2 = 7 + 165 * p by omega]
  unfold X7_neighbourFree nbF
  by_cases h1 : 0 ≤ r (7 + 165 * p)
  · obtain ⟨q, hq⟩ := Int.eq_ofNat_of_zero_le h1
    have hq4 : q < 4 := by omega
    have h40 := hw.bars hq4
    have hpt := isPart_t (σ := σ) (p := (q : Int)) (by omega) (by omega)
    have hph := part_has (σ := σ) (k := 9 + 3 * q) (b := b) (iR0 (by omega) (by omega)) (by rw [h.nbars hq4]; exact h40)
    rw [h.nbars hq4] at hph
    rw [hq, Int.toNat_natCast]
    by_cases h2 : b < r (9 + 165 * q)
    · rw [if_pos (by omega)] at hph
      have hfr := c_freeBehind hw h hq4 (b := b) (m := 0) hb (by omega)
      have hin := frS_in hw hq4 b 0
      rw [if_pos ⟨by omega, h2⟩]
      refine ⟨?_, by omega, by omega⟩
      rw [ag_nat (by omega) (by decide), ag_ok (by omega) (by omega) (by decide), lt_v, show (2 : Int).toNat = 2 from rfl, e, hq, bdk hpt, if_neg (by decide), ag_nat (by omega) (by decide)]
      show bd (X5_has σ (1 + 1 + 7 + 3 * q) b) _ = _
      rw [show 1 + 1 + 7 + 3 * q = 9 + 3 * q by omega, bdk hph, if_pos (by decide), ag_nat (by omega) (by decide)]
      show bd (X5_freeBehind σ (1 + 1 + 7 + 3 * q) b 0) _ = _
      rw [show 1 + 1 + 7 + 3 * q = 9 + 3 * q by omega, bdk hfr]
    · rw [if_neg (by omega)] at hph
      rw [if_neg (fun c => h2 c.2)]
      refine ⟨?_, by omega, by omega⟩
      rw [ag_nat (by omega) (by decide), ag_ok (by omega) (by omega) (by decide), lt_v, show (2 : Int).toNat = 2 from rfl, e, hq, bdk hpt, if_neg (by decide), ag_nat (by omega) (by decide)]
      show bd (X5_has σ (1 + 1 + 7 + 3 * q) b) _ = _
      rw [show 1 + 1 + 7 + 3 * q = 9 + 3 * q by omega, bdk hph, if_neg (by decide)]
  · have hpf := isPart_f (σ := σ) (p := r (7 + 165 * p)) (by omega) (iR0 (by omega) (by omega))
    rw [if_neg (fun c => h1 c.1)]
    refine ⟨?_, by omega, by omega⟩
    rw [ag_nat (by omega) (by decide), ag_ok (by omega) (by omega) (by decide), lt_v, show (2 : Int).toNat = 2 from rfl, e, bdk hpf, if_pos (by decide)]
theorem nbF_in {r : Nat → Int} (hw : WF r) {p : Nat} (hp : p < 4) (b : Int) : -1 ≤ nbF r p b ∧ nbF r p b ≤ 200000 := by
  have hh := hw.help hp
  unfold nbF
  split
  · have := frS_in hw (p := (r (7 + 165 * p)).toNat) (by omega) b 0
    omega
  · omega
theorem hlS_iff {r : Nat → Int} {p : Nat} {b : Int} (h : 0 ≤ r 2) : hlS r p b ↔ r 2 ≤ nbF r p b := by
  unfold hlS nbF
  by_cases c : 0 ≤ r (7 + 165 * p) ∧ b < r (9 + 165 * (r (7 + 165 * p)).toNat)
  · rw [if_pos c]
    exact ⟨fun x => x.2.2, fun x => ⟨c.1, c.2, x⟩⟩
  · rw [if_neg c]
    exact ⟨fun x => absurd ⟨x.1, x.2.1⟩ c, fun x => by omega⟩
def esS (r : Nat → Int) (p : Nat) (m : Int) (b : Nat) : Int := if frS r p b m < nbF r p b then nbF r p b else frS r p b m
theorem esS_in {r : Nat → Int} (hw : WF r) {p : Nat} (hp : p < 4) (m : Int) (b : Nat) : 0 ≤ esS r p m b ∧ esS r p m b ≤ 200000 := by
  have h1 := frS_in hw hp b m
  have h2 := nbF_in hw hp b
  unfold esS
  split <;> omega
theorem c_easeL {r : Nat → Int} (hw : WF r) {p : Nat} (hp : p < 4) {m : Int} (hm : 0 ≤ m ∧ m ≤ 8) {N : Nat} (hN : r (9 + 165 * p) = N) : ∀ (n k f : Nat) (τ : Mem), k + n = N → n < f → CRB 1 r τ → (∀ j, j < k → τ 58 j = esS r p m j) → ∃ τ', X1_findEase_L11 f τ 1 p m (9 + 3 * p) k = some τ' ∧ (∀ q, q ≠ 58 → τ' q = τ q) ∧ ∀ j, j < N → τ' 58 j = esS r p m j := by
  have h40 := hw.bars hp
  intro n
  induction n with
  | zero =>
    intro k f τ h1 h2 h3 h4
    obtain ⟨f, rfl⟩ : ∃ x, f = x + 1 := ⟨f - 1, by omega⟩
    refine ⟨τ, ?_, fun _ _ => rfl, fun j hj => h4 j (by omega)⟩
    show X1_findEase_B11 _ _ _ _ _ _ _ = _
    unfold X1_findEase_B11
    rw [h3.nbars hp, if_pos (by first | omega | (unfold w32; omega))]
  | succ n ih =>
    intro k f τ h1 h2 h3 h4
    obtain ⟨f, rfl⟩ : ∃ x, f = x + 1 := ⟨f - 1, by omega⟩
    have hfr := c_freeBehind hw h3 hp (b := (k : Int)) (m := m) (by omega) hm
    have hnb := (c_nbF hw h3 hp (b := (k : Int)) (by omega)).1
    have i1 := frS_in hw hp k m
    have i2 := nbF_in hw hp k
    have e : imx (frS r p k m) (nbF r p k) = esS r p m k := by
      unfold imx esS
      rw [w32_id (by omega) (by omega), w32_id (by omega) (by omega)]
    have e58 : st τ 58 k (esS r p m k) 58 = up (τ 58) k (esS r p m k) := st_self _ _ _ _
    obtain ⟨τ', t1, t2, t3⟩ := ih (k + 1) f (st τ 58 k (esS r p m k)) (by omega) (by omega) (h3.oth (by omega)) (fun j hj => by
      rw [e58]
      by_cases hjk : j = k
      · rw [hjk, up_at]
      · rw [up_ne hjk]; exact h4 j (by omega))
    refine ⟨τ', ?_, fun q hq => by rw [t2 q hq, st_ne hq], t3⟩
    show X1_findEase_B11 _ _ _ _ _ _ _ = _
    unfold X1_findEase_B11
    rw [h3.nbars hp, if_neg (by first | omega | (unfold w32; omega)), bdk hfr, bdk hnb, ag_nat (by omega) (by decide), lt_v, lt_v, e]
    exact t1
theorem c_findEase {r : Nat → Int} (hw : WF r) {p : Nat} (hp : p < 4) {m : Int} (hm : 0 ≤ m ∧ m ≤ 8) {τ : Mem} (hc : CRB 1 r τ) : ∃ τ', X1_findEase τ 1 p m = some τ' ∧ (∀ q, q ≠ 58 → τ' q = τ q) ∧ ∀ j : Nat, (j : Int) < r (9 + 165 * p) → τ' 58 j = esS r p m j := by
  have h40 := hw.bars hp
  obtain ⟨N, hN⟩ : ∃ N : Nat, r (9 + 165 * p) = N := ⟨(r (9 + 165 * p)).toNat, by omega⟩
  obtain ⟨τ', t1, t2, t3⟩ := c_easeL hw hp hm hN N 0 5000 τ (by omega) (by omega) hc (fun j hj => by omega)
  refine ⟨τ', ?_, t2, fun j hj => t3 j (by omega)⟩
  unfold X1_findEase
  rw [ag_nat (by omega) (by decide), show 1 + 1 + 7 + 3 * p = 9 + 3 * p by omega]
  exact t1
theorem m_stopsL {p : Nat} (hp : p < 4) {r : Nat → Int} (hw : WF r) {N : Nat} (hN : r (9 + 165 * p) = N) : ∀ (n k f : Nat) (ρ : Mem), k + n = N → n < f → ρ 112 = r → (∀ j, j < k → ρ 120 j = if esS r p (r (6 + 165 * p)) j < r 2 then 1 else 0) → ∃ ρ', X11_findStops_L2 f ρ p k = some ρ' ∧ (∀ q, q ≠ 120 → ρ' q = ρ q) ∧ ∀ j, j < N → ρ' 120 j = if esS r p (r (6 + 165 * p)) j < r 2 then 1 else 0 := by
  have h40 := hw.bars hp
  have hn := hw.need
  have hme := hw.mem hp
  intro n
  induction n with
  | zero =>
    intro k f ρ h1 h2 h3 h4
    obtain ⟨f, rfl⟩ : ∃ x, f = x + 1 := ⟨f - 1, by omega⟩
    refine ⟨ρ, ?_, fun _ _ => rfl, fun j hj => h4 j (by omega)⟩
    show X11_findStops_B2 _ _ _ _ = _
    unfold X11_findStops_B2
    rw [bdk (mbarsN hp), h3, hN, if_pos (by first | omega | (unfold w32; omega))]
  | succ n ih =>
    intro k f ρ h1 h2 h3 h4
    obtain ⟨f, rfl⟩ : ∃ x, f = x + 1 := ⟨f - 1, by omega⟩
    have hfr := m_free (σ := ρ) (by rw [h3]; exact hw) hp (b := (k : Int)) (fl := 1) (by omega) (Or.inr rfl)
    rw [if_neg (by decide), h3] at hfr
    obtain ⟨v, hv, hv2⟩ := m_help (σ := ρ) (by rw [h3]; exact hw) hp (b := (k : Int)) (by omega)
    rw [h3] at hv2
    rw [hlS_iff (by omega)] at hv2
    have i1 := frS_in hw hp k (r (6 + 165 * p))
    have i2 := nbF_in hw hp k
    have cont : ∀ z : Int, z = (if esS r p (r (6 + 165 * p)) k < r 2 then 1 else 0) → ∃ ρ', X11_findStops_B46 (X11_findStops_L2 f) ρ p k 120 k z = some ρ' ∧ (∀ q, q ≠ 120 → ρ' q = ρ q) ∧ ∀ j, j < N → ρ' 120 j = if esS r p (r (6 + 165 * p)) j < r 2 then 1 else 0 := by
      intro z hz
      have e120 : st ρ 120 k z 120 = up (ρ 120) k z := st_self _ _ _ _
      obtain ⟨ρ', t1, t2, t3⟩ := ih (k + 1) f (st ρ 120 k z) (by omega) (by omega) (by rw [st_ne (by omega)]; exact h3) (fun j hj => by
        rw [e120]
        by_cases hjk : j = k
        · rw [hjk, up_at]; exact hz
        · rw [up_ne hjk]; exact h4 j (by omega))
      refine ⟨ρ', ?_, fun q hq => by rw [t2 q hq, st_ne hq], t3⟩
      have hbg : ∀ K : Option Mem, bg z K = K := fun K => by
        rw [hz]; split
        · exact bg_1
        · exact bg_0
      unfold X11_findStops_B46
      rw [ag_nat (by omega) (by decide), hbg, lt_v, lt_v]
      exact t1
    show ∃ ρ', X11_findStops_B2 _ _ _ _ = _ ∧ _
    have e2 : ρ 112 (2 : Int).toNat = r 2 := by rw [h3]; rfl
    unfold X11_findStops_B2 X11_findStops_B45
    rw [bdk (mbarsN hp), h3, hN, if_neg (by first | omega | (unfold w32; omega)), bdk hfr, ag_ok (by omega) (by omega) (by decide), show r (2 : Int).toNat = r 2 from rfl]
    by_cases hc : r 2 ≤ frS r p k (r (6 + 165 * p))
    · rw [if_pos (by first | omega | (unfold w32; omega))]
      exact cont 0 (by unfold esS; rw [if_neg (by split <;> omega)])
    · rw [if_neg (by first | omega | (unfold w32; omega)), bdk hv]
      rcases hv2 with ⟨c1, c2⟩ | ⟨c1, c2⟩
      · rw [if_pos (by first | omega | (unfold w32; omega))]
        exact cont 0 (by unfold esS; rw [if_neg (by split <;> omega)])
      · rw [if_neg (by first | omega | (unfold w32; omega))]
        exact cont 1 (by unfold esS; rw [if_pos (by split <;> omega)])
theorem m_findStops {p : Nat} (hp : p < 4) {ρ : Mem} (hw : WF (ρ 112)) : ∃ ρ', X11_findStops ρ p = some ρ' ∧ (∀ q, q ≠ 120 → ρ' q = ρ q) ∧ ∀ j : Nat, (j : Int) < ρ 112 (9 + 165 * p) → ρ' 120 j = if esS (ρ 112) p (ρ 112 (6 + 165 * p)) j < ρ 112 2 then 1 else 0 := by
  have h40 := hw.bars hp
  obtain ⟨N, hN⟩ : ∃ N : Nat, ρ 112 (9 + 165 * p) = N := ⟨(ρ 112 (9 + 165 * p)).toNat, by omega⟩
  obtain ⟨ρ', t1, t2, t3⟩ := m_stopsL hp hw hN N 0 5000 ρ (by omega) (by omega) rfl (fun j hj => by omega)
  exact ⟨ρ', t1, t2, fun j hj => t3 j (by omega)⟩
theorem WF.flds {r : Nat → Int} (hw : WF r) {p : Nat} (hp : p < 4) : 0 ≤ r (8 + 165 * p) ∧ r (8 + 165 * p) ≤ 1023 := (hw.2.1 p hp).2.2.2.1
def tnB (x g : Nat) : Bool := decide (g % 2 = 0) && (decide (9 < g) || !x.testBit g)
theorem tnB_q {x g : Nat} (hx : x < 1024) : tnB x (qst g) = tnB x g := by
  have h : ∀ g, (tnB x g = true ↔ tnP x g) := fun g => by
    unfold tnB tnP
    simp
  have := tnP_qst (g := g) hx
  rw [← h, ← h] at this
  cases h1 : tnB x (qst g) <;> cases h2 : tnB x g <;> simp_all
theorem tnB_t {x q : Nat} (hx : x < 1024) (hq : q < 12) : tnB x q = (trn x).testBit q := by
  have h : (tnB x q = true ↔ tnP x q) := by
    unfold tnB tnP
    simp
  have h2 : qst q = q := if_pos hq
  have := tnP_q (x := x) (g := q) hx
  rw [h2, ← h] at this
  cases h1 : tnB x q <;> cases h2 : (trn x).testBit q <;> simp_all
theorem irm2 {g : Nat} (h : g < 1000) : irm (g : Int) 2 = ((g % 2 : Nat) : Int) := by
  unfold irm
  rw [w32_id (by omega) (by omega), show w32 2 = 2 from rfl, Int.tdiv_eq_ediv_of_nonneg (by omega)]
  omega
theorem m_isTurn {ρ : Mem} (hw : WF (ρ 112)) {p g : Nat} (hp : p < 4) (hg : g < 100) : X11_isTurn ρ p g = some (if tnB (ρ 112 (8 + 165 * p)).toNat g = true then 1 else 0) := by
  have hf := hw.flds hp
  unfold X11_isTurn X11_part
  rw [dg_ok (by decide), irm2 (by omega)]
  by_cases h1 : g % 2 = 0
  · rw [h1, if_neg (by decide)]
    by_cases h9 : 9 < g
    · rw [if_pos (by first | omega | (unfold w32; omega))]
      unfold tnB
      simp [h1, h9]
    · rw [if_neg (by first | omega | (unfold w32; omega)), bd_some, ag_ok (by omega) (by omega) (by decide), show ((5 : Int) + 165 * p + 3).toNat = 8 + 165 * p by omega]
      obtain ⟨x, hx⟩ : ∃ x : Nat, ρ 112 (8 + 165 * p) = x := ⟨(ρ 112 (8 + 165 * p)).toNat, by omega⟩
      rw [hx, bit_nat (by omega) (by omega), Int.toNat_natCast]
      unfold tnB
      cases hb : x.testBit g
      · simp [h1, h9, w32]
      · simp [h1, h9, w32]
  · rw [if_pos (by rw [w32_id (by omega) (by omega)]; omega)]
    unfold tnB
    simp [h1]
