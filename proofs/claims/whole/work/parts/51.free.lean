/-! free: beats free in front of and behind a bar's end -/
def hnd (r : Nat → Int) (p : Nat) (b : Int) : Int := r (10 + 165 * p + 4 * b.toNat + 1)
def bts (r : Nat → Int) (p : Nat) (b : Int) : Int := r (10 + 165 * p + 4 * b.toNat + 2)
def fbs (r : Nat → Int) (p : Nat) (d : Int) : Nat → Int → Int → Int
  | 0, _, _ => 0
  | n + 1, c, b => if 0 ≤ b ∧ b < r (9 + 165 * p) then (if 0 < c ∨ hnd r p b = 2 then bts r p b + fbs r p d n (c - 1) (b + d) else if hnd r p b = 1 then bts r p b / 2 else 0) else 0
theorem WF.bars {r : Nat → Int} (hw : WF r) {p : Nat} (hp : p < 4) : 0 ≤ r (9 + 165 * p) ∧ r (9 + 165 * p) ≤ 40 := (hw.2.1 p hp).2.2.2.2
theorem WF.hnd_in {r : Nat → Int} (hw : WF r) {p : Nat} (hp : p < 4) {b : Int} (h : 0 ≤ b ∧ b < r (9 + 165 * p)) : 0 ≤ hnd r p b ∧ hnd r p b ≤ 2 := by
  have := (hw.2.2.1 p hp b.toNat (by omega)).2.1
  unfold hnd
  rw [show 10 + 165 * p + 4 * b.toNat + 1 = 11 + 165 * p + 4 * b.toNat by omega]
  exact this
theorem WF.bts_in {r : Nat → Int} (hw : WF r) {p : Nat} (hp : p < 4) {b : Int} (h : 0 ≤ b ∧ b < r (9 + 165 * p)) : 1 ≤ bts r p b ∧ bts r p b ≤ 12 := by
  have := (hw.2.2.1 p hp b.toNat (by omega)).2.2.1
  unfold bts
  rw [show 10 + 165 * p + 4 * b.toNat + 2 = 12 + 165 * p + 4 * b.toNat by omega]
  exact this
theorem fbs_in {r : Nat → Int} (hw : WF r) {p : Nat} (hp : p < 4) (d : Int) : ∀ (n : Nat) (c b : Int), 0 ≤ fbs r p d n c b ∧ fbs r p d n c b ≤ 12 * n
  | 0, _, _ => by show (0 : Int) ≤ 0 ∧ (0 : Int) ≤ 12 * ((0 : Nat) : Int); omega
  | n + 1, c, b => by
    have ih := fbs_in hw hp d n (c - 1) (b + d)
    unfold fbs
    by_cases h1 : 0 ≤ b ∧ b < r (9 + 165 * p)
    · have hb := hw.bts_in hp h1
      rw [if_pos h1]
      by_cases h2 : 0 < c ∨ hnd r p b = 2
      · rw [if_pos h2]; omega
      · rw [if_neg h2]
        by_cases h3 : hnd r p b = 1
        · rw [if_pos h3]; omega
        · rw [if_neg h3]; omega
    · rw [if_neg h1]; omega
theorem CRB.facts {r : Nat → Int} {σ : Mem} (h : CRB 1 r σ) (hw : WF r) {p : Nat} (hp : p < 4) {b : Int} (hb : 0 ≤ b ∧ b < r (9 + 165 * p)) {w : Nat} (hww : w < 4) : X5_fact σ (9 + 3 * p) b w = some (r (10 + 165 * p + 4 * b.toNat + w)) := by
  have h40 := hw.bars hp
  have := c_fact (σ := σ) (k := 9 + 3 * p) (b := b) (w := (w : Int)) ⟨by omega, by omega⟩ ⟨by omega, by omega⟩
  rw [this, Int.toNat_natCast, show 9 + 3 * p + 2 = 1 + 10 + 3 * p by omega, h.2.2.2.1 p hp (4 * b.toNat + w) (by omega) (by omega), show 10 + 165 * p + (4 * b.toNat + w) = 10 + 165 * p + 4 * b.toNat + w by omega]
theorem CRB.nbars {r : Nat → Int} {σ : Mem} (h : CRB 1 r σ) {p : Nat} (hp : p < 4) : σ (9 + 3 * p) 2 = r (9 + 165 * p) := by
  have := h.2.2.1 p hp
  rw [show 1 + 8 + 3 * p = 9 + 3 * p by omega] at this
  exact this
theorem idv_ok {x y : Int} (hx : 0 ≤ x ∧ x < 2147483648) (hy : 0 < y ∧ y < 2147483648) : idv x y = x / y := by
  unfold idv
  rw [w32_id (by omega) (by omega), w32_id (by omega) (by omega)]
  exact Int.tdiv_eq_ediv_of_nonneg hx.1
theorem c_fb {r : Nat → Int} {σ : Mem} (hw : WF r) (h : CRB 1 r σ) {p : Nat} (hp : p < 4) (d c a : Int) (hd : (d = -1 ∧ a < 40) ∨ d = 1) (ha : 0 ≤ a ∧ a ≤ 40) (hc : 0 ≤ c ∧ c ≤ 1000) : ∀ (n f : Nat) (acc k : Int), n < f → 0 ≤ k → k + n = 40 → X5_freeBeats_L6 σ f (9 + 3 * p) a d c acc k = some (acc + fbs r p d (n + 1) (c - k) (a + k * d)) := by
  have hB := h.nbars hp
  have h40 := hw.bars hp
  intro n
  induction n with
  | zero =>
    intro f acc k h1 h2 h3
    obtain ⟨f, rfl⟩ : ∃ x, f = x + 1 := ⟨f - 1, by omega⟩
    have hk : k = 40 := by omega
    have hr : a + k * d < 0 ∨ r (9 + 165 * p) ≤ a + k * d := by
      rw [hk]; omega
    show X5_freeBeats_B6 _ _ _ _ _ _ _ _ = _
    unfold X5_freeBeats_B6 fbs
    rw [if_neg (c := 0 ≤ a + k * d ∧ a + k * d < r (9 + 165 * p)) (by omega), Int.add_zero]
    ((repeat (first | with_reducible refine (ag_ok (by omega) (by omega) (by decide)).trans ?_ | rewrite [lt_v] | rewrite [bd_some] | rewrite [bd2_some] | with_reducible refine (if_pos (by first | omega | (unfold w32; omega))).trans ?_ | with_reducible refine (if_neg (by first | omega | (unfold w32; omega))).trans ?_)); (repeat (first | with_reducible refine Eq.trans ?_ (if_pos (by first | omega | (unfold w32; omega))).symm | with_reducible refine Eq.trans ?_ (if_neg (by first | omega | (unfold w32; omega))).symm)); try rfl)
  | succ n ih =>
    intro f acc k h1 h2 h3
    obtain ⟨f, rfl⟩ : ∃ x, f = x + 1 := ⟨f - 1, by omega⟩
    have hr : (d = -1 ∧ a + k * d = a - k) ∨ (d = 1 ∧ a + k * d = a + k) := by
      rcases hd with ⟨rfl, _⟩ | rfl
      · exact Or.inl ⟨rfl, by omega⟩
      · exact Or.inr ⟨rfl, by omega⟩
    have e := ih f (acc + bts r p (a + k * d)) (k + 1) (by omega) (by omega) (by omega)
    have e1 : a + (k + 1) * d = a + k * d + d := by
      rw [Int.add_mul, Int.one_mul, Int.add_assoc]
    rw [e1, show c - (k + 1) = c - k - 1 by omega] at e
    have hs := part_has (σ := σ) (k := 9 + 3 * p) (b := a + k * d) ⟨by omega, by omega⟩ (by omega)
    show X5_freeBeats_B6 _ _ _ _ _ _ _ _ = _
    unfold X5_freeBeats_B6 X5_freeBeats_B50
    rw [show fbs r p d (n + 1 + 1) (c - k) (a + k * d) = if 0 ≤ a + k * d ∧ a + k * d < r (9 + 165 * p) then (if 0 < c - k ∨ hnd r p (a + k * d) = 2 then bts r p (a + k * d) + fbs r p d (n + 1) (c - k - 1) (a + k * d + d) else if hnd r p (a + k * d) = 1 then bts r p (a + k * d) / 2 else 0) else 0 from rfl]
    generalize a + k * d = b at *
    by_cases hb : 0 ≤ b ∧ b < r (9 + 165 * p)
    · rw [if_pos hb]
      rw [if_pos (by omega)] at hs
      have f1 := h.facts hw hp hb (w := 1) (by omega)
      have f2 := h.facts hw hp hb (w := 2) (by omega)
      have g1 := hw.hnd_in hp hb
      have g2 := hw.bts_in hp hb
      have f1 : X5_fact σ (9 + 3 * p) b 1 = some (hnd r p b) := f1
      have f2 : X5_fact σ (9 + 3 * p) b 2 = some (bts r p b) := f2
      have w2 : w32 (2 : Int) ≠ 0 := by decide
      by_cases hc : k < c
      · repeat (first | with_reducible refine (ag_ok (by omega) (by omega) (by decide)).trans ?_ | rewrite [lt_v] | rewrite [bd_some] | rewrite [bd2_some] | rewrite [bdk (hs)] | rewrite [bdk (f2)] | with_reducible refine (if_pos (by first | omega | (unfold w32; omega))).trans ?_ | with_reducible refine (if_neg (by first | omega | (unfold w32; omega))).trans ?_)
        rw [if_pos (Or.inl (by omega))]
        refine e.trans ?_
        rw [Int.add_assoc]
      · by_cases hh : hnd r p b = 2
        · repeat (first | with_reducible refine (ag_ok (by omega) (by omega) (by decide)).trans ?_ | rewrite [lt_v] | rewrite [bd_some] | rewrite [bd2_some] | rewrite [bdk (hs)] | rewrite [bdk (f1)] | rewrite [bdk (f2)] | with_reducible refine (if_pos (by first | omega | (unfold w32; omega))).trans ?_ | with_reducible refine (if_neg (by first | omega | (unfold w32; omega))).trans ?_)
          rw [if_pos (Or.inr hh)]
          refine e.trans ?_
          rw [Int.add_assoc]
        · rw [if_neg (c := 0 < c - k ∨ hnd r p b = 2) (by omega)]
          by_cases hh1 : hnd r p b = 1
          · repeat (first | with_reducible refine (ag_ok (by omega) (by omega) (by decide)).trans ?_ | rewrite [lt_v] | rewrite [bd_some] | rewrite [bd2_some] | rewrite [bdk (hs)] | rewrite [bdk (f1)] | rewrite [bdk (f2)] | rewrite [dg_ok w2] | with_reducible refine (if_pos (by first | omega | (unfold w32; omega))).trans ?_ | with_reducible refine (if_neg (by first | omega | (unfold w32; omega))).trans ?_)
            rw [if_pos hh1, idv_ok (by omega) (by omega)]
          · repeat (first | with_reducible refine (ag_ok (by omega) (by omega) (by decide)).trans ?_ | rewrite [lt_v] | rewrite [bd_some] | rewrite [bd2_some] | rewrite [bdk (hs)] | rewrite [bdk (f1)] | rewrite [bdk (f2)] | with_reducible refine (if_pos (by first | omega | (unfold w32; omega))).trans ?_ | with_reducible refine (if_neg (by first | omega | (unfold w32; omega))).trans ?_)
            rw [if_neg hh1, Int.add_zero]
    · rw [if_neg hb, Int.add_zero]
      rw [if_neg (by omega)] at hs
      ((repeat (first | with_reducible refine (ag_ok (by omega) (by omega) (by decide)).trans ?_ | rewrite [lt_v] | rewrite [bd_some] | rewrite [bd2_some] | rewrite [bdk (hs)] | with_reducible refine (if_pos (by first | omega | (unfold w32; omega))).trans ?_ | with_reducible refine (if_neg (by first | omega | (unfold w32; omega))).trans ?_)); (repeat (first | with_reducible refine Eq.trans ?_ (if_pos (by first | omega | (unfold w32; omega))).symm | with_reducible refine Eq.trans ?_ (if_neg (by first | omega | (unfold w32; omega))).symm)); try rfl)
theorem m_hand {σ : Mem} {p : Nat} (hp : p < 4) {b : Int} (hb : 0 ≤ b ∧ b < 40) : X11_hand σ p b = some (hnd (σ 112) p b) := by
  unfold X11_hand hnd
  repeat (first | with_reducible refine (ag_ok (by omega) (by omega) (by decide)).trans ?_ | rewrite [lt_v] | rewrite [bd_some] | rewrite [bd2_some] | rewrite [bdk (m_at)] | with_reducible refine (if_pos (by first | omega | (unfold w32; omega))).trans ?_ | with_reducible refine (if_neg (by first | omega | (unfold w32; omega))).trans ?_)
  rw [show ((5 : Int) + 165 * p + 5 + 4 * b + 1).toNat = 10 + 165 * p + 4 * b.toNat + 1 by omega]
theorem m_beats {σ : Mem} {p : Nat} (hp : p < 4) {b : Int} (hb : 0 ≤ b ∧ b < 40) : X11_beats σ p b = some (bts (σ 112) p b) := by
  unfold X11_beats bts
  repeat (first | with_reducible refine (ag_ok (by omega) (by omega) (by decide)).trans ?_ | rewrite [lt_v] | rewrite [bd_some] | rewrite [bd2_some] | rewrite [bdk (m_at)] | with_reducible refine (if_pos (by first | omega | (unfold w32; omega))).trans ?_ | with_reducible refine (if_neg (by first | omega | (unfold w32; omega))).trans ?_)
  rw [show ((5 : Int) + 165 * p + 5 + 4 * b + 2).toNat = 10 + 165 * p + 4 * b.toNat + 2 by omega]
theorem mbarsN {σ : Mem} {p : Nat} (hp : p < 4) : X11_bars σ p = some (σ 112 (9 + 165 * p)) := by
  have := mbars (σ := σ) (p := (p : Int)) ⟨by omega, by omega⟩
  rw [Int.toNat_natCast] at this
  exact this
theorem m_fb {σ : Mem} (hw : WF (σ 112)) {p : Nat} (hp : p < 4) (d : Int) : ∀ (n f : Nat) (acc c b : Int), n < f → -100 ≤ b → b ≤ 100 → -1000 ≤ c - n → c ≤ 1000 → (d = -1 ∧ b < n) ∨ (d = 1 ∧ σ 112 (9 + 165 * p) - b ≤ n) → X11_beatsFree_L10 σ f p d acc b c = some (acc + fbs (σ 112) p d n c b) := by
  have h40 := hw.bars hp
  have hbs := mbarsN (σ := σ) hp
  intro n
  induction n with
  | zero =>
    intro f acc c b h1 h2 h3 h4 h5 h6
    obtain ⟨f, rfl⟩ : ∃ x, f = x + 1 := ⟨f - 1, by omega⟩
    show X11_beatsFree_B10 _ _ _ _ _ _ _ = some (acc + 0)
    rw [Int.add_zero]
    unfold X11_beatsFree_B10 X11_beatsFree_B65 X11_beatsFree_B95 X11_beatsFree_B96
    by_cases hb : b < 0
    · ((repeat (first | with_reducible refine (ag_ok (by omega) (by omega) (by decide)).trans ?_ | rewrite [lt_v] | rewrite [bd_some] | rewrite [bd2_some] | rewrite [bdk (hbs)] | with_reducible refine (if_pos (by first | omega | (unfold w32; omega))).trans ?_ | with_reducible refine (if_neg (by first | omega | (unfold w32; omega))).trans ?_)); (repeat (first | with_reducible refine Eq.trans ?_ (if_pos (by first | omega | (unfold w32; omega))).symm | with_reducible refine Eq.trans ?_ (if_neg (by first | omega | (unfold w32; omega))).symm)); try rfl)
    · ((repeat (first | with_reducible refine (ag_ok (by omega) (by omega) (by decide)).trans ?_ | rewrite [lt_v] | rewrite [bd_some] | rewrite [bd2_some] | rewrite [bdk (hbs)] | with_reducible refine (if_pos (by first | omega | (unfold w32; omega))).trans ?_ | with_reducible refine (if_neg (by first | omega | (unfold w32; omega))).trans ?_)); (repeat (first | with_reducible refine Eq.trans ?_ (if_pos (by first | omega | (unfold w32; omega))).symm | with_reducible refine Eq.trans ?_ (if_neg (by first | omega | (unfold w32; omega))).symm)); try rfl)
  | succ n ih =>
    intro f acc c b h1 h2 h3 h4 h5 h6
    obtain ⟨f, rfl⟩ : ∃ x, f = x + 1 := ⟨f - 1, by omega⟩
    show X11_beatsFree_B10 _ _ _ _ _ _ _ = _
    unfold X11_beatsFree_B10 X11_beatsFree_B41 X11_beatsFree_B65 X11_beatsFree_B95 X11_beatsFree_B96 fbs
    by_cases hb : 0 ≤ b ∧ b < σ 112 (9 + 165 * p)
    · rw [if_pos hb]
      have f1 := m_hand (σ := σ) hp (b := b) ⟨by omega, by omega⟩
      have f2 := m_beats (σ := σ) hp (b := b) ⟨by omega, by omega⟩
      have g1 := hw.hnd_in hp hb
      have g2 := hw.bts_in hp hb
      have e := ih f (acc + bts (σ 112) p b) (c - 1) (b + d) (by omega) (by omega) (by omega) (by omega) (by omega) (by omega)
      have w2 : w32 (2 : Int) ≠ 0 := by decide
      by_cases hc : 0 < c
      · repeat (first | with_reducible refine (ag_ok (by omega) (by omega) (by decide)).trans ?_ | rewrite [lt_v] | rewrite [bd_some] | rewrite [bd2_some] | rewrite [bdk (hbs)] | rewrite [bdk (f2)] | with_reducible refine (if_pos (by first | omega | (unfold w32; omega))).trans ?_ | with_reducible refine (if_neg (by first | omega | (unfold w32; omega))).trans ?_)
        rw [if_pos (Or.inl hc)]
        refine e.trans ?_
        rw [Int.add_assoc]
      · by_cases hh : hnd (σ 112) p b = 2
        · repeat (first | with_reducible refine (ag_ok (by omega) (by omega) (by decide)).trans ?_ | rewrite [lt_v] | rewrite [bd_some] | rewrite [bd2_some] | rewrite [bdk (hbs)] | rewrite [bdk (f1)] | rewrite [bdk (f2)] | with_reducible refine (if_pos (by first | omega | (unfold w32; omega))).trans ?_ | with_reducible refine (if_neg (by first | omega | (unfold w32; omega))).trans ?_)
          rw [if_pos (Or.inr hh)]
          refine e.trans ?_
          rw [Int.add_assoc]
        · rw [if_neg (c := 0 < c ∨ hnd (σ 112) p b = 2) (by omega)]
          by_cases hh1 : hnd (σ 112) p b = 1
          · repeat (first | with_reducible refine (ag_ok (by omega) (by omega) (by decide)).trans ?_ | rewrite [lt_v] | rewrite [bd_some] | rewrite [bd2_some] | rewrite [bdk (hbs)] | rewrite [bdk (f1)] | rewrite [bdk (f2)] | rewrite [dg_ok w2] | with_reducible refine (if_pos (by first | omega | (unfold w32; omega))).trans ?_ | with_reducible refine (if_neg (by first | omega | (unfold w32; omega))).trans ?_)
            rw [if_pos hh1, idv_ok (by omega) (by omega)]
          · repeat (first | with_reducible refine (ag_ok (by omega) (by omega) (by decide)).trans ?_ | rewrite [lt_v] | rewrite [bd_some] | rewrite [bd2_some] | rewrite [bdk (hbs)] | rewrite [bdk (f1)] | rewrite [bdk (f2)] | with_reducible refine (if_pos (by first | omega | (unfold w32; omega))).trans ?_ | with_reducible refine (if_neg (by first | omega | (unfold w32; omega))).trans ?_)
            rw [if_neg hh1, Int.add_zero]
    · rw [if_neg hb, Int.add_zero]
      by_cases hb : b < 0
      · ((repeat (first | with_reducible refine (ag_ok (by omega) (by omega) (by decide)).trans ?_ | rewrite [lt_v] | rewrite [bd_some] | rewrite [bd2_some] | rewrite [bdk (hbs)] | with_reducible refine (if_pos (by first | omega | (unfold w32; omega))).trans ?_ | with_reducible refine (if_neg (by first | omega | (unfold w32; omega))).trans ?_)); (repeat (first | with_reducible refine Eq.trans ?_ (if_pos (by first | omega | (unfold w32; omega))).symm | with_reducible refine Eq.trans ?_ (if_neg (by first | omega | (unfold w32; omega))).symm)); try rfl)
      · ((repeat (first | with_reducible refine (ag_ok (by omega) (by omega) (by decide)).trans ?_ | rewrite [lt_v] | rewrite [bd_some] | rewrite [bd2_some] | rewrite [bdk (hbs)] | with_reducible refine (if_pos (by first | omega | (unfold w32; omega))).trans ?_ | with_reducible refine (if_neg (by first | omega | (unfold w32; omega))).trans ?_)); (repeat (first | with_reducible refine Eq.trans ?_ (if_pos (by first | omega | (unfold w32; omega))).symm | with_reducible refine Eq.trans ?_ (if_neg (by first | omega | (unfold w32; omega))).symm)); try rfl)
