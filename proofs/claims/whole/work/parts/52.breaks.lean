/-! free behind a bar; breaks that may be; prices -/
def frS (r : Nat → Int) (p : Nat) (b m : Int) : Int := (fbs r p (-1) 41 0 b + fbs r p 1 41 m (b + 1)) * 6000 / r (5 + 165 * p)
theorem WF.tempo {r : Nat → Int} (hw : WF r) {p : Nat} (hp : p < 4) : 30 ≤ r (5 + 165 * p) ∧ r (5 + 165 * p) ≤ 240 := (hw.2.1 p hp).1
theorem WF.mem {r : Nat → Int} (hw : WF r) {p : Nat} (hp : p < 4) : 0 ≤ r (6 + 165 * p) ∧ r (6 + 165 * p) ≤ 8 := (hw.2.1 p hp).2.1
theorem CRB.trt {r : Nat → Int} {σ : Mem} (h : CRB 1 r σ) {p w : Nat} (hp : p < 4) (hw : w < 4) : σ (10 + 3 * p) w = r (5 + 165 * p + w) := by
  have := h.2.1 p hp w hw
  rw [show 1 + 9 + 3 * p = 10 + 3 * p by omega] at this
  exact this
theorem frS_in {r : Nat → Int} (hw : WF r) {p : Nat} (hp : p < 4) (b m : Int) : 0 ≤ frS r p b m ∧ frS r p b m ≤ 200000 := by
  have h1 := fbs_in hw hp (-1) 41 0 b
  have h2 := fbs_in hw hp 1 41 m (b + 1)
  have h3 := hw.tempo hp
  unfold frS
  refine ⟨Int.ediv_nonneg (by omega) (by omega), ?_⟩
  have : (fbs r p (-1) 41 0 b + fbs r p 1 41 m (b + 1)) * 6000 / r (5 + 165 * p) * r (5 + 165 * p) ≤ (fbs r p (-1) 41 0 b + fbs r p 1 41 m (b + 1)) * 6000 := Int.ediv_mul_le _ (by omega)
  by_cases hc : (fbs r p (-1) 41 0 b + fbs r p 1 41 m (b + 1)) * 6000 / r (5 + 165 * p) ≤ 200000
  · exact hc
  · have h4 : 200001 * 30 ≤ (fbs r p (-1) 41 0 b + fbs r p 1 41 m (b + 1)) * 6000 / r (5 + 165 * p) * r (5 + 165 * p) := Int.mul_le_mul (by omega) (by omega) (by omega) (by omega)
    omega
theorem c_freeBehind {r : Nat → Int} {σ : Mem} (hw : WF r) (h : CRB 1 r σ) {p : Nat} (hp : p < 4) {b m : Int} (hb : 0 ≤ b ∧ b < 40) (hm : 0 ≤ m ∧ m ≤ 8) : X5_freeBehind σ (9 + 3 * p) b m = some (frS r p b m) := by
  have h40 := hw.bars hp
  have ht := hw.tempo hp
  have h1 := c_fb hw h hp (-1) 0 b (by omega) (by omega) (by omega) 40 5000 0 0 (by omega) (by omega) (by omega)
  have h2 := c_fb hw h hp 1 m (b + 1) (by omega) (by omega) (by omega) 40 5000 0 0 (by omega) (by omega) (by omega)
  have h3 := fbs_in hw hp (-1) 41 0 b
  have h4 := fbs_in hw hp 1 41 m (b + 1)
  rw [Int.zero_add, Int.zero_mul, Int.add_zero, Int.sub_zero] at h1 h2
  have h1 : X5_freeBeats_L6 σ 5000 (9 + 3 * p) b (-1) 0 0 0 = some (fbs r p (-1) 41 0 b) := h1
  have h2 : X5_freeBeats_L6 σ 5000 (9 + 3 * p) (b + 1) 1 m 0 0 = some (fbs r p 1 41 m (b + 1)) := h2
  have e : σ (9 + 3 * p + 1) 0 = r (5 + 165 * p) := by
    rw [show 9 + 3 * p + 1 = 10 + 3 * p by omega]
    exact h.trt hp (by omega)
  have e2 : imx 1 (r (5 + 165 * p)) = r (5 + 165 * p) := by
    unfold imx
    rw [if_pos (by first | omega | (unfold w32; omega))]
  have e3 : w32 (r (5 + 165 * p)) ≠ 0 := (by first | omega | (unfold w32; omega))
  unfold X5_freeBehind X5_freeBeats
  rw [bdk h1, bdk h2, lt_v, ag_ok (by omega) (by omega) (by decide), show (0 : Int).toNat = 0 from rfl, e, e2, dg_ok e3, idv_ok (by omega) (by omega)]
  rfl
theorem m_free {σ : Mem} (hw : WF (σ 112)) {p : Nat} (hp : p < 4) {b fl : Int} (hb : 0 ≤ b ∧ b < 40) (hf : fl = 0 ∨ fl = 1) : X11_free σ p b fl = some (frS (σ 112) p b (if fl = 0 then 0 else σ 112 (6 + 165 * p))) := by
  have h40 := hw.bars hp
  have ht := hw.tempo hp
  have hm := hw.mem hp
  have h1 := m_fb hw hp (-1) 41 5000 0 0 b (by omega) (by omega) (by omega) (by omega) (by omega) (by omega)
  rw [Int.zero_add] at h1
  have go : ∀ m, 0 ≤ m → m ≤ 8 → X11_free_B33 σ p (fbs (σ 112) p (-1) 41 0 b) p (b + 1) 1 m = some (frS (σ 112) p b m) := by
    intro m hm1 hm2
    have h2 := m_fb hw hp 1 41 5000 0 m (b + 1) (by omega) (by omega) (by omega) (by omega) (by omega) (by omega)
    have h3 := fbs_in hw hp (-1) 41 0 b
    have h4 := fbs_in hw hp 1 41 m (b + 1)
    rw [Int.zero_add] at h2
    have e3 : w32 (σ 112 (5 + 165 * p)) ≠ 0 := (by first | omega | (unfold w32; omega))
    unfold X11_free_B33 X11_beatsFree X11_part
    rw [bdk h2, lt_v, bd_some, ag_ok (by omega) (by omega) (by decide), show ((5 : Int) + 165 * p).toNat = 5 + 165 * p by omega, dg_ok e3, idv_ok (by omega) (by omega)]
    rfl
  unfold X11_free X11_beatsFree X11_part
  rw [bdk h1]
  rcases hf with rfl | rfl
  · rw [if_pos (by decide), if_pos rfl]
    exact go 0 (by omega) (by omega)
  · rw [if_neg (by decide), if_neg (by decide), bd_some, ag_ok (by omega) (by omega) (by decide), show ((5 : Int) + 165 * p + 1).toNat = 6 + 165 * p by omega]
    exact go _ hm.1 hm.2
def mkd (r : Nat → Int) (p : Nat) (b k : Int) : Int := w32 (ian (r (10 + 165 * p + 4 * b.toNat + 3)) k)
def meS (r : Nat → Int) (p : Nat) (b : Int) : Int := if b = r (9 + 165 * p) - 1 then 1 else if mkd r p b 1 = 0 then 1 else 0
theorem CRB.fac {r : Nat → Int} {σ : Mem} (h : CRB 1 r σ) (hw : WF r) {p : Nat} (hp : p < 4) {b : Int} (hb : 0 ≤ b ∧ b < r (9 + 165 * p)) {w : Nat} (hww : w < 4) : σ (9 + 3 * p + 2) (b * 4 + w).toNat = r (10 + 165 * p + 4 * b.toNat + w) := by
  have h40 := hw.bars hp
  have := h.2.2.2.1 p hp (4 * b.toNat + w) (by omega) (by omega)
  rw [show (b * 4 + (w : Int)).toNat = 4 * b.toNat + w by omega, show 9 + 3 * p + 2 = 1 + 10 + 3 * p by omega, this, show 10 + 165 * p + (4 * b.toNat + w) = 10 + 165 * p + 4 * b.toNat + w by omega]
theorem c_mayEnd {r : Nat → Int} {σ : Mem} (hw : WF r) (h : CRB 1 r σ) {p : Nat} (hp : p < 4) {b : Int} (hb : 0 ≤ b ∧ b < r (9 + 165 * p)) : X5_mayEndLine σ (9 + 3 * p) b = some (meS r p b) := by
  have h40 := hw.bars hp
  have hB := h.nbars hp
  have hf : σ (9 + 3 * p + 2) (b * 4 + 3).toNat = r (10 + 165 * p + 4 * b.toNat + 3) := h.fac hw hp hb (w := 3) (by omega)
  unfold X5_mayEndLine meS
  by_cases h1 : b = r (9 + 165 * p) - 1
  · repeat (first | with_reducible refine (ag_ok (by omega) (by omega) (by decide)).trans ?_ | rewrite [lt_v] | rewrite [bd_some] | rewrite [bd2_some] | with_reducible refine (if_pos (by first | omega | (unfold w32; omega))).trans ?_ | with_reducible refine (if_neg (by first | omega | (unfold w32; omega))).trans ?_)
    rw [if_pos h1]
  · rw [if_neg h1, if_neg (by first | omega | (unfold w32; omega)), ag_ok (by omega) (by omega) (by decide), hf]
    unfold mkd
    by_cases h2 : w32 (ian (r (10 + 165 * p + 4 * b.toNat + 3)) 1) = 0
    · rw [if_neg (fun q => q h2), if_pos h2]
    · rw [if_pos h2, if_neg h2]
theorem m_mark {σ : Mem} {p : Nat} (hp : p < 4) {b k : Int} (hb : 0 ≤ b ∧ b < 40) : X11_hasMark σ p b k = some (if mkd (σ 112) p b k = 0 then 0 else 1) := by
  unfold X11_hasMark mkd
  rw [bdk m_at, ag_ok (by omega) (by omega) (by decide), show ((5 : Int) + 165 * p + 5 + 4 * b + 3).toNat = 10 + 165 * p + 4 * b.toNat + 3 by omega]
  by_cases h : w32 (ian (σ 112 (10 + 165 * p + 4 * b.toNat + 3)) k) = 0
  · rw [if_pos h, if_pos h]
  · rw [if_neg h, if_neg h]
theorem c_mark {r : Nat → Int} {σ : Mem} (hw : WF r) (h : CRB 1 r σ) {p : Nat} (hp : p < 4) {b k : Int} (hb : 0 ≤ b ∧ b < r (9 + 165 * p)) : X5_isMarked σ (9 + 3 * p) b k = some (if mkd r p b k = 0 then 0 else 1) := by
  have h40 := hw.bars hp
  have hf : σ (9 + 3 * p + 2) (b * 4 + 3).toNat = r (10 + 165 * p + 4 * b.toNat + 3) := h.fac hw hp hb (w := 3) (by omega)
  unfold X5_isMarked mkd
  rw [ag_ok (by omega) (by omega) (by decide), hf]
  by_cases h2 : w32 (ian (r (10 + 165 * p + 4 * b.toNat + 3)) k) = 0
  · rw [if_pos h2, if_pos h2]
  · rw [if_neg h2, if_neg h2]
theorem m_mayEnd {σ : Mem} (hw : WF (σ 112)) {p : Nat} (hp : p < 4) {b : Int} (hb : 0 ≤ b ∧ b < σ 112 (9 + 165 * p)) : X11_mayEnd σ p b = some (meS (σ 112) p b) := by
  have h40 := hw.bars hp
  have hm := m_mark (σ := σ) hp (b := b) (k := 1) ⟨by omega, by omega⟩
  unfold X11_mayEnd meS
  rw [bdk (mbarsN hp)]
  by_cases h1 : b = σ 112 (9 + 165 * p) - 1
  · repeat (first | with_reducible refine (ag_ok (by omega) (by omega) (by decide)).trans ?_ | rewrite [lt_v] | rewrite [bd_some] | rewrite [bd2_some] | with_reducible refine (if_pos (by first | omega | (unfold w32; omega))).trans ?_ | with_reducible refine (if_neg (by first | omega | (unfold w32; omega))).trans ?_)
    rw [if_pos h1]
  · rw [if_neg (by first | omega | (unfold w32; omega)), if_neg h1, bdk hm]
    by_cases h2 : mkd (σ 112) p b 1 = 0
    · rw [if_pos h2, if_pos h2, if_neg (by decide)]
    · rw [if_neg h2, if_neg h2, if_pos (by decide)]
