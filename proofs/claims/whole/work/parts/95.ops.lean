/-! the small calls -/
theorem Rel.row {τ ρ τ' ρ' : Mem} (h : Rel τ ρ) (h1 : WF (ρ' 112)) (h2 : CRB 1 (ρ' 112) τ') (h3 : CA (ρ' 112) τ') (h4 : ∀ q, q = 0 ∨ (20 < q ∧ q < 41) ∨ q = 42 ∨ q = 43 ∨ (61 < q ∧ q < 71) → τ' q = τ q) (h5 : ∀ q, 111 ≤ q → q ≠ 112 → ρ' q = ρ q) : Rel τ' ρ' := by
  obtain ⟨a, b, c, d, e, f, g⟩ := h
  exact ⟨h1, h2, c.frame (by rw [h4 0 (by omega)]) (fun q _ _ => h4 q (by omega)) (by rw [h5 111 (by omega) (by omega)]) (h5 113 (by omega) (by omega)), d.frame (by rw [h4 42 (by omega)]) (h4 43 (by omega)) (by rw [h5 111 (by omega) (by omega)]) (h5 115 (by omega) (by omega)), fun i hi => by rw [h4 62 (by omega), h5 114 (by omega) (by omega)]; exact e i hi, f.frame (fun q _ _ => h4 q (by omega)) (h5 134 (by omega) (by omega)) (h5 135 (by omega) (by omega)) (h5 136 (by omega) (by omega)), h3⟩
theorem sim_same {x y : Mem → Option (Int × Mem)} {τ ρ : Mem} (h : Rel τ ρ) {v : Int} (hx : x τ = some (v, τ)) (hy : y ρ = some (v, ρ)) : ∃ r τ' ρ', x τ = some (r, τ') ∧ y ρ = some (r, ρ') ∧ Rel τ' ρ' ∧ (∀ q, 111 ≤ q → τ' q = τ q) ∧ ∀ q, q < 111 → ρ' q = ρ q := ⟨v, τ, ρ, hx, hy, h, fun _ _ => rfl, fun _ _ => rfl⟩
theorem agP_trait {r : Nat → Int} (hwf : WF r) {q w : Nat} {v : Int} (hq : q < 4) (hw : w < 4) {p : Nat} (hp : p < 4) : agP r (up r (5 + 165 * q + w) v) p := ⟨up_ne (by omega), up_ne (by omega), up_ne (by omega), up_ne (tr_ne hw (by omega) (by omega) (by omega)), fun b hb => by
  have h40 := hwf.bars hp
  have hb40 : b < 40 := by omega
  exact ⟨up_ne (by have := tr_ne2 (x := 0) hw hp hq hb40 (by omega); omega), up_ne (by have := tr_ne2 (x := 3) hw hp hq hb40 (by omega); omega)⟩⟩
theorem sim_set {a b c : Int} (ha : inR a) (hb : inR b) (hc : inR c) : Sim (fun τ => X10_set τ a b c) (fun ρ => X11_set ρ a b c) := by
  intro τ ρ h
  by_cases ok : okSet a b c
  · obtain ⟨o1, o2, o3, o4⟩ := id ok
    obtain ⟨p, rfl⟩ := Int.eq_ofNat_of_zero_le o1.1
    obtain ⟨w, rfl⟩ := Int.eq_ofNat_of_zero_le o2.1
    have hp : p < 4 := by omega
    have hw : w < 4 := by omega
    rw [Int.toNat_natCast] at o3
    have okt : okT p w c := by
      refine ⟨fun e => ?_, fun e => ?_, fun e => ?_, fun e => ?_⟩
      · rw [e] at o3; exact o3
      · rw [e] at o3; exact o3
      · rw [e] at o3; exact ⟨o3.1, o3.2, fun d => o4 ⟨by omega, d⟩⟩
      · rw [e] at o3; exact o3
    have e1 := c_set_ok (σ := τ) hc ok
    have e2 := m_set_ok (σ := ρ) hc ok
    have row : st ρ 112 (5 + 165 * p + w) c 112 = up (ρ 112) (5 + 165 * p + w) c := st_self _ _ _ _
    have hcr : CRB 1 (up (ρ 112) (5 + 165 * p + w) c) (st τ (10 + 3 * p) w c) := by
      have := h.2.1.trait (v := c) hp hw
      rw [show 1 + 9 + 3 * p = 10 + 3 * p by omega] at this
      exact this
    refine ⟨_, _, _, (by show X10_set τ p w c = _; rw [e1, h.2.1.trt hp hw]), e2, ?_, fun q hq => ?_, fun q hq => st_ne (by omega)⟩
    · refine h.row (by rw [row]; exact h.1.trait hp hw okt) (by rw [row]; exact hcr.frame (fun k _ _ => fgl_ne (by omega))) (by rw [row]; exact h.2.2.2.2.2.2.gl h.1 (fun q hq => agP_trait h.1 hp hw hq) (fun q _ _ => st_ne (by omega))) (fun q hq => by rw [fgl_ne (by omega), st_ne (by omega)]) (fun q _ hq => st_ne hq)
    · rw [fgl_ne (by omega), st_ne (by omega)]
  · exact sim_tell (x := fun τ => X10_set τ a b c) (y := fun ρ => X11_set ρ a b c) (k := 0) h (by omega) (c_set_no ha hb hc ok) (m_set_no ha hb hc ok)
theorem sim_rule {a b : Int} (ha : inR a) (hb : inR b) : Sim (fun τ => X10_rule τ a b) (fun ρ => X11_rule ρ a b) := by
  intro τ ρ h
  by_cases ok : okRule a b
  · obtain ⟨o1, o2⟩ := id ok
    obtain ⟨w, rfl⟩ := Int.eq_ofNat_of_zero_le o1.1
    have hw : w < 5 := by omega
    rw [Int.toNat_natCast] at o2
    have okr : okR w b := by
      refine ⟨fun e => ?_, fun e => ?_, fun e => ?_, fun e => ?_, fun e => ?_⟩ <;> (rw [e] at o2; exact o2)
    have e1 := c_rule_ok (σ := τ) hb ok
    have e2 := (m_rule (σ := ρ) ha hb).1 ok
    rw [Int.toNat_natCast] at e2
    have row : st ρ 112 w b 112 = up (ρ 112) w b := st_self _ _ _ _
    have hcr : CRB 1 (up (ρ 112) w b) (st τ 3 w b) := h.2.1.rule (v := b) hw
    refine ⟨_, _, _, (by show X10_rule τ w b = _; rw [e1, h.2.1.rul hw]), e2, ?_, fun q hq => ?_, fun q hq => st_ne (by omega)⟩
    · by_cases c : w = 2 ∨ w = 4
      · rw [if_pos c]
        exact h.row (by rw [row]; exact h.1.rule hw okr) (by rw [row]; exact hcr.frame (fun k _ _ => fgl_ne (by omega))) (by rw [row]; exact h.2.2.2.2.2.2.gl h.1 (fun q hq => ⟨up_ne (by omega), up_ne (by omega), up_ne (by omega), up_ne (by omega), fun b hb => ⟨up_ne (by omega), up_ne (by omega)⟩⟩) (fun q _ _ => st_ne (by omega))) (fun q hq => by rw [fgl_ne (by omega), st_ne (by omega)]) (fun q _ hq => st_ne hq)
      · rw [if_neg c]
        exact h.row (by rw [row]; exact h.1.rule hw okr) (by rw [row]; exact hcr.frame (fun k _ _ => fga_ne (by omega))) CA.ga (fun q hq => by rw [fga_ne (by omega), st_ne (by omega)]) (fun q _ hq => st_ne hq)
    · split
      · rw [fgl_ne (by omega), st_ne (by omega)]
      · rw [fga_ne (by omega), st_ne (by omega)]
  · exact sim_tell (x := fun τ => X10_rule τ a b) (y := fun ρ => X11_rule ρ a b) (k := 0) h (by omega) (c_rule_no ha hb ok) ((m_rule ha hb).2 ok)
theorem sim_wipe : Sim (fun τ => X10_wipe τ) (fun ρ => X11_wipe ρ) := by
  intro τ ρ h
  obtain ⟨a, b, c, d, e, f, g⟩ := id h
  have e1 := c_wipe τ
  have e2 := m_wipe ρ
  rw [d.2.2.1] at e2
  refine ⟨_, _, _, e1, e2, ?_, fun q hq => st_ne (by omega), fun q hq => st_ne (by omega)⟩
  have t1 : ∀ q, q ≠ 42 → st τ 42 1 0 q = τ q := fun q hq => st_ne hq
  have t2 : ∀ q, q ≠ 111 → st ρ 111 5 0 q = ρ q := fun q hq => st_ne hq
  exact ⟨by rw [t2 112 (by omega)]; exact a, by rw [t2 112 (by omega)]; exact b.frame (fun k _ _ => t1 k (by omega)), c.frame (by rw [t1 0 (by omega)]) (fun q _ _ => t1 q (by omega)) (by rw [st_self, up_ne (by omega)]) (t2 113 (by omega)), ⟨by rw [st_at]; omega, by rw [st_at]; omega, by rw [st_at, st_at], fun i hi => by rw [st_at] at hi; omega⟩, fun i hi => by rw [t1 62 (by omega), t2 114 (by omega)]; exact e i hi, f.frame (fun q _ _ => t1 q (by omega)) (t2 134 (by omega)) (t2 135 (by omega)) (t2 136 (by omega)), by rw [t2 112 (by omega)]; exact g.frame (fun q _ _ => t1 q (by omega))⟩
theorem sim_tear : Sim (fun τ => X10_tear τ) (fun ρ => X11_tear ρ) := by
  intro τ ρ h
  obtain ⟨a, b, c, d, e, f, g⟩ := id h
  have k1 : τ 0 2 = ρ 111 2 ∧ (τ 0 2 = 0 ∨ τ 0 2 = 1) := by
    rcases c with ⟨c1, c2⟩ | ⟨c1, c2, _⟩
    · exact ⟨by omega, by omega⟩
    · exact ⟨by omega, by omega⟩
  have e1 := c_tear (σ := τ) k1.2
  have e2 := m_tear (σ := ρ) (by rw [← k1.1]; exact k1.2)
  rw [← k1.1] at e2
  refine ⟨_, _, _, e1, e2, ?_, fun q hq => st_ne (by omega), fun q hq => st_ne (by omega)⟩
  have t1 : ∀ q, q ≠ 0 → st τ 0 2 0 q = τ q := fun q hq => st_ne hq
  have t2 : ∀ q, q ≠ 111 → st ρ 111 2 0 q = ρ q := fun q hq => st_ne hq
  exact ⟨by rw [t2 112 (by omega)]; exact a, by rw [t2 112 (by omega)]; exact b.frame (fun k _ _ => t1 k (by omega)), Or.inl ⟨st_at _ _ _ _, st_at _ _ _ _⟩, d.frame (by rw [t1 42 (by omega)]) (t1 43 (by omega)) (by rw [st_self, up_ne (by omega)]) (t2 115 (by omega)), fun i hi => by rw [t1 62 (by omega), t2 114 (by omega)]; exact e i hi, f.frame (fun q _ _ => t1 q (by omega)) (t2 134 (by omega)) (t2 135 (by omega)) (t2 136 (by omega)), by rw [t2 112 (by omega)]; exact g.frame (fun q _ _ => t1 q (by omega))⟩
theorem okBar_eq {r : Nat → Int} {τ : Mem} (h : CRB 1 r τ) {p b : Int} : okBar (fun p => τ (9 + 3 * p) 2) p b ↔ okBar (fun p => r (9 + 165 * p)) p b := by
  constructor
  · rintro ⟨a, c, d, e⟩
    have e' : b < τ (9 + 3 * p.toNat) 2 := e
    rw [h.nbars (p := p.toNat) (by omega)] at e'
    exact ⟨a, c, d, e'⟩
  · rintro ⟨a, c, d, e⟩
    have e' : b < r (9 + 165 * p.toNat) := e
    rw [← h.nbars (p := p.toNat) (by omega)] at e'
    exact ⟨a, c, d, e'⟩
theorem okBar_fact {r : Nat → Int} (hwf : WF r) {τ : Mem} (h : CRB 1 r τ) {p b : Int} (hb : okBar (fun p => r (9 + 165 * p)) p b) {w : Nat} (hw : w < 4) : τ (11 + 3 * p.toNat) (4 * b.toNat + w) = r (10 + 165 * p.toNat + 4 * b.toNat + w) := by
  obtain ⟨o1, o2, o3, o4'⟩ := hb
  have o4 : b < r (9 + 165 * p.toNat) := o4'
  clear o4'
  have h40 := hwf.bars (p := p.toNat) (by omega)
  have := h.2.2.2.1 p.toNat (by omega) (4 * b.toNat + w) (by omega) (by omega)
  rw [show 1 + 10 + 3 * p.toNat = 11 + 3 * p.toNat by omega, show 10 + 165 * p.toNat + (4 * b.toNat + w) = 10 + 165 * p.toNat + 4 * b.toNat + w by omega] at this
  exact this
theorem sim_bar {a b c : Int} (ha : inR a) (hb : inR b) (hc : inR c) : Sim (fun τ => X10_bar τ a b c) (fun ρ => X11_bar ρ a b c) := by
  intro τ ρ h
  have e1 := c_bar (σ := τ) ha hb hc (h.1.h40 h.2.1)
  have e2 := m_bar (σ := ρ) ha hb hc h.1.m40
  rw [okBar_eq h.2.1] at e1
  by_cases ok : okBar (fun p => ρ 112 (9 + 165 * p)) a b ∧ 0 ≤ c ∧ c ≤ 3
  · have v := okBar_fact h.1 h.2.1 ok.1 (w := c.toNat) (by omega)
    exact sim_same (x := fun τ => X10_bar τ a b c) (y := fun ρ => X11_bar ρ a b c) h (by show X10_bar τ a b c = _; rw [e1.1 ok, v]) (e2.1 ok)
  · exact sim_tell (x := fun τ => X10_bar τ a b c) (y := fun ρ => X11_bar ρ a b c) (k := 0) h (by omega) (e1.2 ok) (e2.2 ok)
theorem sim_room {a b c : Int} (ha : inR a) (hb : inR b) (hc : inR c) : Sim (fun τ => X10_room τ a b c) (fun ρ => X11_room_ ρ a b c) := by
  intro τ ρ h
  have rm : okBar (fun p => ρ 112 (9 + 165 * p)) a b → 1 ≤ ρ 112 (10 + 165 * a.toNat + 4 * b.toNat) ∧ ρ 112 (10 + 165 * a.toNat + 4 * b.toNat) ≤ 60 := fun o => h.1.room (p := a.toNat) (by have := o.1; have := o.2.1; omega) ⟨o.2.2.1, o.2.2.2⟩
  have fe : okBar (fun p => ρ 112 (9 + 165 * p)) a b → τ (11 + 3 * a.toNat) (4 * b.toNat) = ρ 112 (10 + 165 * a.toNat + 4 * b.toNat) := fun o => okBar_fact h.1 h.2.1 o (w := 0) (by omega)
  have e1 := c_room (σ := τ) ha hb hc (h.1.h40 h.2.1) (fun o => by rw [fe ((okBar_eq h.2.1).mp o)]; exact rm ((okBar_eq h.2.1).mp o))
  have e2 := m_room_ (σ := ρ) ha hb hc h.1.m40 rm
  rw [okBar_eq h.2.1] at e1
  by_cases ok : okBar (fun p => ρ 112 (9 + 165 * p)) a b ∧ 0 ≤ c ∧ c ≤ 2
  · exact sim_same (x := fun τ => X10_room τ a b c) (y := fun ρ => X11_room_ ρ a b c) h (by show X10_room τ a b c = _; rw [e1.1 ok, fe ok.1]) (e2.1 ok)
  · exact sim_tell (x := fun τ => X10_room τ a b c) (y := fun ρ => X11_room_ ρ a b c) (k := 0) h (by omega) (e1.2 ok) (e2.2 ok)
theorem sim_free {a b c : Int} (ha : inR a) (hb : inR b) (hc : inR c) : Sim (fun τ => X10_free τ a b c) (fun ρ => X11_free_ ρ a b c) := by
  intro τ ρ h
  have e1 := c_free h.1 h.2.1 ha hb hc
  have e2 := m_free_ (σ := ρ) h.1 ha hb hc
  by_cases ok : (0 ≤ a ∧ a ≤ 3 ∧ 0 ≤ b ∧ b < ρ 112 (9 + 165 * a.toNat)) ∧ 0 ≤ c ∧ c ≤ 1
  · rw [if_pos ok] at e1 e2
    exact sim_same (x := fun τ => X10_free τ a b c) (y := fun ρ => X11_free_ ρ a b c) h e1 e2
  · rw [if_neg ok] at e1 e2
    exact sim_tell (x := fun τ => X10_free τ a b c) (y := fun ρ => X11_free_ ρ a b c) (k := 0) h (by omega) e1 e2
theorem sum7_congr {f g : Nat → Int} (h : ∀ i, i < 7 → f i = g i) : sum7 f = sum7 g := by
  unfold sum7
  rw [h 0 (by omega), h 1 (by omega), h 2 (by omega), h 3 (by omega), h 4 (by omega), h 5 (by omega), h 6 (by omega)]
theorem sim_status {a : Int} (ha : inR a) : Sim (fun τ => X10_status τ a) (fun ρ => X11_status ρ a) := by
  intro τ ρ h
  have e1 := c_status (σ := τ) ha
  have e2 := m_status (σ := ρ) ha
  have et := h.2.2.2.2.1
  by_cases ok : -1 ≤ a ∧ a ≤ 6
  · rw [if_pos ok] at e1 e2
    by_cases c : a < 0
    · rw [if_pos c] at e1 e2
      rw [sum7_congr et] at e1
      exact sim_same (x := fun τ => X10_status τ a) (y := fun ρ => X11_status ρ a) h e1 e2
    · rw [if_neg c] at e1 e2
      rw [et a.toNat (by omega)] at e1
      exact sim_same (x := fun τ => X10_status τ a) (y := fun ρ => X11_status ρ a) h e1 e2
  · rw [if_neg ok] at e1 e2
    exact sim_tell (x := fun τ => X10_status τ a) (y := fun ρ => X11_status ρ a) (k := 0) h (by omega) e1 e2
theorem spots_in {r : Nat → Int} (hw : WF r) {i : Nat} (hi : i < 10) : inR (r (756 + i)) := by
  have h1 := hw.2.2.2.2.2 i hi
  have h2 := hw.num
  exact ⟨by omega, by omega⟩
theorem sim_count {a : Int} (ha : inR a) : Sim (fun τ => X10_count τ a) (fun ρ => X11_count ρ a) := by
  intro τ ρ h
  have hsp : ∀ i, i < 10 → τ 8 i = ρ 112 (756 + i) := fun i hi => h.2.1.2.2.2.2.2.2 i hi
  have e1 := c_count (σ := τ) ha (fun i hi => by rw [hsp i hi]; exact spots_in h.1 hi)
  have e2 := m_count (σ := ρ) ha (fun i hi => spots_in h.1 hi)
  have n0 := h.2.1.nbars (p := 0) (by omega)
  have n1 := h.2.1.nbars (p := 1) (by omega)
  have n2 := h.2.1.nbars (p := 2) (by omega)
  have n3 := h.2.1.nbars (p := 3) (by omega)
  have q0 : τ 9 2 = ρ 112 9 := n0
  have q1 : τ 12 2 = ρ 112 174 := n1
  have q2 : τ 15 2 = ρ 112 339 := n2
  have q3 : τ 18 2 = ρ 112 504 := n3
  have hh : held (τ 8) 10 = held (fun s => ρ 112 (756 + s)) 10 := held_congr 10 hsp
  rw [q0, q1, q2, q3, h.2.1.numb, hh] at e1
  rw [h.2.2.2.1.2.2.1] at e2
  by_cases c0 : a = 0
  · rw [if_pos c0] at e1 e2
    exact sim_same (x := fun τ => X10_count τ a) (y := fun ρ => X11_count ρ a) h e1 e2
  · rw [if_neg c0] at e1 e2
    by_cases c1 : a = 1
    · rw [if_pos c1] at e1 e2
      exact sim_same (x := fun τ => X10_count τ a) (y := fun ρ => X11_count ρ a) h e1 e2
    · rw [if_neg c1] at e1 e2
      by_cases c2 : a = 2
      · rw [if_pos c2] at e1 e2
        exact sim_same (x := fun τ => X10_count τ a) (y := fun ρ => X11_count ρ a) h e1 e2
      · rw [if_neg c2] at e1 e2
        by_cases c3 : a = 3
        · rw [if_pos c3] at e1 e2
          exact sim_same (x := fun τ => X10_count τ a) (y := fun ρ => X11_count ρ a) h e1 e2
        · rw [if_neg c3] at e1 e2
          exact sim_tell (x := fun τ => X10_count τ a) (y := fun ρ => X11_count ρ a) (k := 0) h (by omega) e1 e2
