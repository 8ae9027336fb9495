/-! rooms of a stretch of bars -/
def rsm (r : Nat → Int) (p : Nat) (s : Int) : Nat → Int → Int
  | 0, _ => 0
  | n + 1, a => rmF (r (10 + 165 * p + 4 * a.toNat)) s + rsm r p s n (a + 1)
theorem WF.room {r : Nat → Int} (hw : WF r) {p : Nat} (hp : p < 4) {b : Int} (h : 0 ≤ b ∧ b < r (9 + 165 * p)) : 1 ≤ r (10 + 165 * p + 4 * b.toNat) ∧ r (10 + 165 * p + 4 * b.toNat) ≤ 60 := (hw.2.2.1 p hp b.toNat (by omega)).1
theorem rsm_in {r : Nat → Int} (hw : WF r) {p : Nat} (hp : p < 4) {s : Int} (hs : 0 ≤ s ∧ s ≤ 2) : ∀ (n : Nat) (a : Int), 0 ≤ a → a + n ≤ r (9 + 165 * p) → n ≤ rsm r p s n a ∧ rsm r p s n a ≤ 60 * n
  | 0, _, _, _ => by show ((0 : Nat) : Int) ≤ 0 ∧ (0 : Int) ≤ 60 * ((0 : Nat) : Int); omega
  | n + 1, a, h1, h2 => by
    have ih := rsm_in hw hp hs n (a + 1) (by omega) (by omega)
    have hx := rmF_in (hw.room hp (b := a) ⟨h1, by omega⟩) hs
    unfold rsm
    omega
theorem rmF_0 (x : Int) : rmF x 0 = x := by unfold rmF; omega
theorem c_rooms {r : Nat → Int} {σ : Mem} (hw : WF r) (h : CRB 1 r σ) {p : Nat} (hp : p < 4) (e : Int) (he : e < r (9 + 165 * p)) : ∀ (n f : Nat) (acc a : Int), n < f → 0 ≤ a → a + n = e + 1 → X5_roomFromTo_L5 σ f (9 + 3 * p) e acc a = some (acc + rsm r p 0 n a) := by
  have h40 := hw.bars hp
  intro n
  induction n with
  | zero =>
    intro f acc a h1 h2 h3
    obtain ⟨f, rfl⟩ : ∃ x, f = x + 1 := ⟨f - 1, by omega⟩
    show X5_roomFromTo_B5 _ _ _ _ _ _ = some (acc + 0)
    rw [Int.add_zero]
    unfold X5_roomFromTo_B5
    ((repeat (first | with_reducible refine (ag_ok (by omega) (by omega) (by decide)).trans ?_ | rewrite [lt_v] | rewrite [bd_some] | rewrite [bd2_some] | with_reducible refine (if_pos (by first | omega | (unfold w32; omega))).trans ?_ | with_reducible refine (if_neg (by first | omega | (unfold w32; omega))).trans ?_)); (repeat (first | with_reducible refine Eq.trans ?_ (if_pos (by first | omega | (unfold w32; omega))).symm | with_reducible refine Eq.trans ?_ (if_neg (by first | omega | (unfold w32; omega))).symm)); try rfl)
  | succ n ih =>
    intro f acc a h1 h2 h3
    obtain ⟨f, rfl⟩ : ∃ x, f = x + 1 := ⟨f - 1, by omega⟩
    show X5_roomFromTo_B5 _ _ _ _ _ _ = _
    have f0 : X5_fact σ (9 + 3 * p) a 0 = some (r (10 + 165 * p + 4 * a.toNat)) := h.facts hw hp (b := a) ⟨h2, by omega⟩ (w := 0) (by omega)
    unfold X5_roomFromTo_B5 rsm
    repeat (first | with_reducible refine (ag_ok (by omega) (by omega) (by decide)).trans ?_ | rewrite [lt_v] | rewrite [bd_some] | rewrite [bd2_some] | rewrite [bdk (f0)] | with_reducible refine (if_pos (by first | omega | (unfold w32; omega))).trans ?_ | with_reducible refine (if_neg (by first | omega | (unfold w32; omega))).trans ?_)
    rw [ih f _ (a + 1) (by omega) (by omega) (by omega), rmF_0, Int.add_assoc]
theorem m_rooms {σ : Mem} (hw : WF (σ 112)) {p : Nat} (hp : p < 4) {s : Int} (hs : 0 ≤ s ∧ s ≤ 2) (l5 e : Int) (he : -10 ≤ e ∧ e < σ 112 (9 + 165 * p)) : ∀ (n f : Nat) (acc a : Int), n < f → 0 ≤ a → a + n = e + 1 → X11_rooms_L6 σ f p e s l5 acc a = some (acc + rsm (σ 112) p s n a) := by
  have h40 := hw.bars hp
  intro n
  induction n with
  | zero =>
    intro f acc a h1 h2 h3
    obtain ⟨f, rfl⟩ : ∃ x, f = x + 1 := ⟨f - 1, by omega⟩
    show X11_rooms_B6 _ _ _ _ _ _ _ _ = some (acc + 0)
    rw [Int.add_zero]
    unfold X11_rooms_B6
    ((repeat (first | with_reducible refine (ag_ok (by omega) (by omega) (by decide)).trans ?_ | rewrite [lt_v] | rewrite [bd_some] | rewrite [bd2_some] | with_reducible refine (if_pos (by first | omega | (unfold w32; omega))).trans ?_ | with_reducible refine (if_neg (by first | omega | (unfold w32; omega))).trans ?_)); (repeat (first | with_reducible refine Eq.trans ?_ (if_pos (by first | omega | (unfold w32; omega))).symm | with_reducible refine Eq.trans ?_ (if_neg (by first | omega | (unfold w32; omega))).symm)); try rfl)
  | succ n ih =>
    intro f acc a h1 h2 h3
    obtain ⟨f, rfl⟩ : ∃ x, f = x + 1 := ⟨f - 1, by omega⟩
    show X11_rooms_B6 _ _ _ _ _ _ _ _ = _
    have hx := hw.room hp (b := a) ⟨h2, by omega⟩
    have f0 := m_room (σ := σ) (p := (p : Int)) (b := a) (s := s) ⟨by omega, by omega⟩ ⟨by omega, by omega⟩ hs (by rw [Int.toNat_natCast]; exact hx)
    rw [Int.toNat_natCast] at f0
    unfold X11_rooms_B6 rsm
    repeat (first | with_reducible refine (ag_ok (by omega) (by omega) (by decide)).trans ?_ | rewrite [lt_v] | rewrite [bd_some] | rewrite [bd2_some] | rewrite [bdk (f0)] | with_reducible refine (if_pos (by first | omega | (unfold w32; omega))).trans ?_ | with_reducible refine (if_neg (by first | omega | (unfold w32; omega))).trans ?_)
    rw [ih f _ (a + 1) (by omega) (by omega) (by omega), Int.add_assoc]
/-! the calls free, breakOf -/
theorem WF.h40 {r : Nat → Int} {σ : Mem} (hw : WF r) (h : CRB 1 r σ) : ∀ p, p < 4 → 0 ≤ σ (9 + 3 * p) 2 ∧ σ (9 + 3 * p) 2 ≤ 40 := fun p hp => by rw [h.nbars hp]; exact hw.bars hp
theorem c_free {r : Nat → Int} {σ : Mem} (hw : WF r) (h : CRB 1 r σ) {p b f : Int} (hp : inR p) (hb : inR b) (hf : inR f) : X10_free σ p b f = if (0 ≤ p ∧ p ≤ 3 ∧ 0 ≤ b ∧ b < r (9 + 165 * p.toNat)) ∧ 0 ≤ f ∧ f ≤ 1 then some (frS r p.toNat b (if f = 0 then 0 else r (6 + 165 * p.toNat)), σ) else some (-1000001, tel σ 0) := by
  have hi := isBar_if (σ := σ) hp hb (hw.h40 h)
  have hw1 := within_if (σ := σ) hf (a := 0) (b := 1) (iR0 (by decide) (by decide)) (iR0 (by decide) (by decide))
  obtain ⟨f1, f2⟩ := id hf
  unfold X10_free X10_free_B18 X10_free_B54
  by_cases h1 : 0 ≤ p ∧ p ≤ 3 ∧ 0 ≤ b ∧ b < r (9 + 165 * p.toNat)
  · have hp4 : p.toNat < 4 := by omega
    have hm := hw.mem hp4
    have h40 := hw.bars hp4
    rw [h.nbars hp4, if_pos h1] at hi
    by_cases h2 : 0 ≤ f ∧ f ≤ 1
    · rw [if_pos h2] at hw1
      have em : σ (9 + 3 * p.toNat + 1) (1 : Int).toNat = r (6 + 165 * p.toNat) := by
        rw [show 9 + 3 * p.toNat + 1 = 10 + 3 * p.toNat by omega, show 6 + 165 * p.toNat = 5 + 165 * p.toNat + 1 by omega]
        exact h.trt hp4 (by omega)
      by_cases h3 : f = 0
      · have := c_freeBehind hw h hp4 (b := b) (m := 0) ⟨by omega, by omega⟩ (by omega)
        repeat (first | with_reducible refine (ag_ok (by omega) (by omega) (by decide)).trans ?_ | rewrite [lt_v] | rewrite [bd_some] | rewrite [bd2_some] | rewrite [bdk (hi)] | rewrite [bdk (hw1)] | rewrite [bdk (this)] | with_reducible refine (if_pos (by first | omega | (unfold w32; omega))).trans ?_ | with_reducible refine (if_neg (by first | omega | (unfold w32; omega))).trans ?_)
        repeat (first | with_reducible refine Eq.trans ?_ (if_pos (by first | omega | (unfold w32; omega))).symm | with_reducible refine Eq.trans ?_ (if_neg (by first | omega | (unfold w32; omega))).symm)
        rw [if_pos h3]
      · have := c_freeBehind hw h hp4 (b := b) (m := _) ⟨by omega, by omega⟩ hm
        rw [← em] at this
        repeat (first | with_reducible refine (ag_ok (by omega) (by omega) (by decide)).trans ?_ | rewrite [lt_v] | rewrite [bd_some] | rewrite [bd2_some] | rewrite [bdk (hi)] | rewrite [bdk (hw1)] | rewrite [bdk (this)] | with_reducible refine (if_pos (by first | omega | (unfold w32; omega))).trans ?_ | with_reducible refine (if_neg (by first | omega | (unfold w32; omega))).trans ?_)
        repeat (first | with_reducible refine Eq.trans ?_ (if_pos (by first | omega | (unfold w32; omega))).symm | with_reducible refine Eq.trans ?_ (if_neg (by first | omega | (unfold w32; omega))).symm)
        rw [if_neg h3, em]
    · rw [if_neg h2] at hw1
      ((repeat (first | with_reducible refine (ag_ok (by omega) (by omega) (by decide)).trans ?_ | rewrite [lt_v] | rewrite [bd_some] | rewrite [bd2_some] | rewrite [bdk (hi)] | rewrite [bdk (hw1)] | rewrite [bd2k (tell_0 σ)] | with_reducible refine (if_pos (by first | omega | (unfold w32; omega))).trans ?_ | with_reducible refine (if_neg (by first | omega | (unfold w32; omega))).trans ?_)); (repeat (first | with_reducible refine Eq.trans ?_ (if_pos (by first | omega | (unfold w32; omega))).symm | with_reducible refine Eq.trans ?_ (if_neg (by first | omega | (unfold w32; omega))).symm)); try rfl)
  · have : ¬ (0 ≤ p ∧ p ≤ 3 ∧ 0 ≤ b ∧ b < σ (9 + 3 * p.toNat) 2) := fun q => h1 (by rw [← h.nbars (by omega)]; exact q)
    rw [if_neg this] at hi
    ((repeat (first | with_reducible refine (ag_ok (by omega) (by omega) (by decide)).trans ?_ | rewrite [lt_v] | rewrite [bd_some] | rewrite [bd2_some] | rewrite [bdk (hi)] | rewrite [bd2k (tell_0 σ)] | with_reducible refine (if_pos (by first | omega | (unfold w32; omega))).trans ?_ | with_reducible refine (if_neg (by first | omega | (unfold w32; omega))).trans ?_)); (repeat (first | with_reducible refine Eq.trans ?_ (if_pos (by first | omega | (unfold w32; omega))).symm | with_reducible refine Eq.trans ?_ (if_neg (by first | omega | (unfold w32; omega))).symm)); try rfl)
theorem WF.m40 {σ : Mem} (hw : WF (σ 112)) : ∀ p, p < 4 → 0 ≤ σ 112 (9 + 165 * p) ∧ σ 112 (9 + 165 * p) ≤ 40 := fun _ hp => hw.bars hp
theorem m_free_ {σ : Mem} (hw : WF (σ 112)) {p b f : Int} (hp : inR p) (hb : inR b) (hf : inR f) : X11_free_ σ p b f = if (0 ≤ p ∧ p ≤ 3 ∧ 0 ≤ b ∧ b < σ 112 (9 + 165 * p.toNat)) ∧ 0 ≤ f ∧ f ≤ 1 then some (frS (σ 112) p.toNat b (if f = 0 then 0 else σ 112 (6 + 165 * p.toNat)), σ) else some (-1000001, fnd σ 0) := by
  have hi := mBar_if (σ := σ) hp hb hw.m40
  have hw1 := in_if (σ := σ) hf (a := 0) (b := 1) (iR0 (by decide) (by decide)) (iR0 (by decide) (by decide))
  obtain ⟨f1, f2⟩ := id hf
  unfold X11_free_ X11_free__B38 X11_free__B32
  rw [inR_w hf]
  by_cases h1 : 0 ≤ p ∧ p ≤ 3 ∧ 0 ≤ b ∧ b < σ 112 (9 + 165 * p.toNat)
  · have hp4 : p.toNat < 4 := by omega
    have h40 := hw.bars hp4
    rw [if_pos h1] at hi
    by_cases h2 : 0 ≤ f ∧ f ≤ 1
    · rw [if_pos h2] at hw1
      have f0 := m_free hw hp4 (b := b) (fl := 0) ⟨by omega, by omega⟩ (Or.inl rfl)
      have f1 := m_free hw hp4 (b := b) (fl := 1) ⟨by omega, by omega⟩ (Or.inr rfl)
      rw [show ((p.toNat : Nat) : Int) = p by omega] at f0 f1
      rw [bdk hi, if_neg (by decide), bdk hw1, if_neg (by decide), if_pos (c := (0 ≤ p ∧ p ≤ 3 ∧ 0 ≤ b ∧ b < σ 112 (9 + 165 * p.toNat)) ∧ 0 ≤ f ∧ f ≤ 1) ⟨h1, h2⟩]
      by_cases h3 : f = 0
      · rw [h3, if_pos (by decide), bdk f0]
      · rw [show f = 1 by omega, if_neg (by decide), bdk f1]
    · rw [if_neg h2] at hw1
      ((repeat (first | with_reducible refine (ag_ok (by omega) (by omega) (by decide)).trans ?_ | rewrite [lt_v] | rewrite [bd_some] | rewrite [bd2_some] | rewrite [bdk (hi)] | rewrite [bdk (hw1)] | rewrite [bd2k (finds_0 σ)] | with_reducible refine (if_pos (by first | omega | (unfold w32; omega))).trans ?_ | with_reducible refine (if_neg (by first | omega | (unfold w32; omega))).trans ?_)); (repeat (first | with_reducible refine Eq.trans ?_ (if_pos (by first | omega | (unfold w32; omega))).symm | with_reducible refine Eq.trans ?_ (if_neg (by first | omega | (unfold w32; omega))).symm)); try rfl)
  · rw [if_neg h1] at hi
    ((repeat (first | with_reducible refine (ag_ok (by omega) (by omega) (by decide)).trans ?_ | rewrite [lt_v] | rewrite [bd_some] | rewrite [bd2_some] | rewrite [bdk (hi)] | rewrite [bd2k (finds_0 σ)] | with_reducible refine (if_pos (by first | omega | (unfold w32; omega))).trans ?_ | with_reducible refine (if_neg (by first | omega | (unfold w32; omega))).trans ?_)); (repeat (first | with_reducible refine Eq.trans ?_ (if_pos (by first | omega | (unfold w32; omega))).symm | with_reducible refine Eq.trans ?_ (if_neg (by first | omega | (unfold w32; omega))).symm)); try rfl)
