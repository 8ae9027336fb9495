/-! line, page -/
def okSp (r : Nat → Int) (a b c d : Int) : Prop := (0 ≤ a ∧ a ≤ 3 ∧ 0 ≤ b ∧ b < r (9 + 165 * a.toNat)) ∧ (0 ≤ c ∧ c < r (9 + 165 * a.toNat)) ∧ b ≤ c ∧ 0 ≤ d ∧ d ≤ 2
theorem c_stretch {r : Nat → Int} {σ : Mem} (hw : WF r) (h : CRB 1 r σ) {a b c : Int} (ha : inR a) (hb : inR b) (hc : inR c) : X10_isStretch σ a b c = some (if (0 ≤ a ∧ a ≤ 3 ∧ 0 ≤ b ∧ b < r (9 + 165 * a.toNat)) ∧ (0 ≤ a ∧ a ≤ 3 ∧ 0 ≤ c ∧ c < r (9 + 165 * a.toNat)) ∧ b ≤ c then 1 else 0) := by
  have e : ∀ x : Int, (0 ≤ a ∧ a ≤ 3 ∧ 0 ≤ x ∧ x < σ (9 + 3 * a.toNat) 2) ↔ (0 ≤ a ∧ a ≤ 3 ∧ 0 ≤ x ∧ x < r (9 + 165 * a.toNat)) := fun x => by
    constructor
    · rintro ⟨q1, q2, q3, q4⟩
      rw [h.nbars (by omega)] at q4
      exact ⟨q1, q2, q3, q4⟩
    · rintro ⟨q1, q2, q3, q4⟩
      rw [h.nbars (by omega)]
      exact ⟨q1, q2, q3, q4⟩
  have i1 := isBar_if (σ := σ) ha hb (hw.h40 h)
  have i2 := isBar_if (σ := σ) ha hc (hw.h40 h)
  obtain ⟨b1, b2⟩ := id hb
  obtain ⟨c1, c2⟩ := id hc
  unfold X10_isStretch
  rw [bdk i1]
  by_cases q1 : 0 ≤ a ∧ a ≤ 3 ∧ 0 ≤ b ∧ b < r (9 + 165 * a.toNat)
  · rw [if_pos ((e b).mpr q1), if_neg (by decide), bdk i2]
    by_cases q2 : 0 ≤ a ∧ a ≤ 3 ∧ 0 ≤ c ∧ c < r (9 + 165 * a.toNat)
    · rw [if_pos ((e c).mpr q2), if_neg (by decide)]
      by_cases q3 : b ≤ c
      · rw [if_neg (by first | omega | (unfold w32; omega)), if_pos ⟨q1, q2, q3⟩]
      · rw [if_pos (by first | omega | (unfold w32; omega)), if_neg (fun q => q3 q.2.2)]
    · rw [if_neg (fun q => q2 ((e c).mp q)), if_pos (by decide), if_neg (fun q => q2 q.2.1)]
  · rw [if_neg (fun q => q1 ((e b).mp q)), if_pos (by decide), if_neg (fun q => q1 q.1)]
theorem m_span {σ : Mem} (hw : WF (σ 112)) {a b c d : Int} (ha : inR a) (hb : inR b) (hc : inR c) (hd : inR d) : X11_isSpan σ a b c d = some (if (0 ≤ a ∧ a ≤ 3 ∧ 0 ≤ b ∧ b < σ 112 (9 + 165 * a.toNat)) ∧ (0 ≤ a ∧ a ≤ 3 ∧ 0 ≤ c ∧ c < σ 112 (9 + 165 * a.toNat)) ∧ b ≤ c ∧ 0 ≤ d ∧ d ≤ 2 then 1 else 0) := by
  have i1 := mBar_if (σ := σ) ha hb hw.m40
  have i2 := mBar_if (σ := σ) ha hc hw.m40
  have i3 := in_if (σ := σ) hd (a := 0) (b := 2) (iR0 (by decide) (by decide)) (iR0 (by decide) (by decide))
  obtain ⟨b1, b2⟩ := id hb
  obtain ⟨c1, c2⟩ := id hc
  unfold X11_isSpan
  rw [bdk i1]
  by_cases q1 : 0 ≤ a ∧ a ≤ 3 ∧ 0 ≤ b ∧ b < σ 112 (9 + 165 * a.toNat)
  · rw [if_pos q1, if_neg (by decide), bdk i2]
    by_cases q2 : 0 ≤ a ∧ a ≤ 3 ∧ 0 ≤ c ∧ c < σ 112 (9 + 165 * a.toNat)
    · rw [if_pos q2, if_neg (by decide)]
      by_cases q3 : b ≤ c
      · rw [if_neg (by first | omega | (unfold w32; omega)), w32_id hd.1 hd.2, bdk i3]
        by_cases q4 : 0 ≤ d ∧ d ≤ 2
        · rw [if_pos q4, if_neg (by decide), if_pos ⟨q1, q2, q3, q4.1, q4.2⟩]
        · rw [if_neg q4, if_pos (by decide), if_neg (fun q => q4 q.2.2.2)]
      · rw [if_pos (by first | omega | (unfold w32; omega)), if_neg (fun q => q3 q.2.2.1)]
    · rw [if_neg q2, if_pos (by decide), if_neg (fun q => q2 q.2.1)]
  · rw [if_neg q1, if_pos (by decide), if_neg (fun q => q1 q.1)]
theorem Rel.eng {τ ρ τ' ρ' : Mem} (h : Rel τ ρ) (h1 : ∀ q, q ≠ 55 → q ≠ 56 → q ≠ 57 → τ' q = τ q) (h2 : ∀ q, q ≠ 117 → q ≠ 119 → ρ' q = ρ q) : Rel τ' ρ' := h.junk (fun q hq => h1 q (by omega) (by omega) (by omega)) (h.2.2.2.2.2.2.frame (fun q _ _ => h1 q (by omega) (by omega) (by omega))) (fun q hq => h2 q (by omega) (by omega)) (by rw [h2 111 (by omega) (by omega)]) (by rw [h2 111 (by omega) (by omega)])
theorem sim_line {a b c d : Int} (ha : inR a) (hb : inR b) (hc : inR c) (hd : inR d) : Sim (fun τ => X10_line τ a b c d) (fun ρ => X11_line ρ a b c d) := by
  intro τ ρ h
  have i1 := c_stretch h.1 h.2.1 ha hb hc
  have i2 := m_span (σ := ρ) h.1 ha hb hc hd
  have i3 := isSize_if (σ := τ) hd
  by_cases q : ((0 ≤ a ∧ a ≤ 3 ∧ 0 ≤ b ∧ b < ρ 112 (9 + 165 * a.toNat)) ∧ (0 ≤ a ∧ a ≤ 3 ∧ 0 ≤ c ∧ c < ρ 112 (9 + 165 * a.toNat)) ∧ b ≤ c) ∧ 0 ≤ d ∧ d ≤ 2
  · obtain ⟨q1, q2⟩ := q
    rw [if_pos q1] at i1
    rw [if_pos q2] at i3
    rw [if_pos ⟨q1.1, q1.2.1, q1.2.2, q2⟩] at i2
    obtain ⟨p, rfl⟩ := Int.eq_ofNat_of_zero_le q1.1.1
    obtain ⟨k, rfl⟩ := Int.eq_ofNat_of_zero_le q1.1.2.2.1
    obtain ⟨e, rfl⟩ := Int.eq_ofNat_of_zero_le q1.2.1.2.2.1
    rw [Int.toNat_natCast] at q1
    have hp : p < 4 := by omega
    have h40 := h.1.bars hp
    obtain ⟨τ', t1, t2, t3, t4, t5, t6⟩ := c_fillFrom h.1 hp q2 (a := k) (e := e) (by omega) (by omega) h.2.1
    have ht2 : ∀ x, x ≠ 55 → x ≠ 56 → x ≠ 57 → τ' x = τ x := fun x x1 x2 _ => t2 x x1 x2
    have rel : Rel τ' ρ := h.eng ht2 (fun _ _ _ => rfl)
    have ft : ∀ x, 111 ≤ x → τ' x = τ x := fun x hx => t2 x (by omega) (by omega)
    obtain ⟨w, l1, l2, l3, l4, l5⟩ := t5
    have hcls0 : X10_line τ p k e d = bd (X3_fits τ' k e) fun r6 => if w32 r6 ≠ 0 then bd (X3_costOf τ' k e) fun r7 => if w32 r7 ≠ w32 2147483647 then some (r7, τ') else bd2 (X10_tell τ' (-1000005)) fun r8 s9 => some (r8, s9) else bd2 (X10_tell τ' (-1000003)) fun r10 s11 => some (r10, s11) := by
      unfold X10_line
      rw [bdk i1, if_neg (by decide), bdk i3, if_pos (by decide), ag_nat hp (by decide), bdk t1]
    have hfit : X3_fits τ' k e = some (if w < e then 0 else 1) := by
      unfold X3_fits
      rw [ag_nat (by omega) (by decide), l1]
      by_cases cc : w < e
      · rw [if_pos (by first | omega | (unfold w32; omega)), if_pos cc]
      · rw [if_neg (by first | omega | (unfold w32; omega)), if_neg cc]
    have hlr := lrm_in h.1 hp q2 (a := k) (k := e) (by omega) (by omega)
    have hwd := h.1.wid
    have hrm := m_rooms (σ := ρ) h.1 hp q2 1 (e : Int) (by omega) (e + 1 - k) 5000 0 (k : Int) (by omega) (by omega) (by omega)
    have hrm' : X11_rooms ρ p k e d 1 = some (lrm (ρ 112) p d k e) := by
      rw [Int.zero_add] at hrm
      exact hrm
    have hme := m_mayEnd (σ := ρ) h.1 hp (b := (e : Int)) (by omega)
    have e0 : ρ 112 (0 : Int).toNat = ρ 112 0 := rfl
    have href0 : X11_line ρ p k e d = if w32 (lrm (ρ 112) p d k e) ≤ w32 (ρ 112 0) then bd (X11_mayEnd ρ p e) fun r4 => if w32 r4 = 0 then bd2 (X11_finds ρ 4) fun r5 s6 => some (r5, s6) else bd (X11_lineCost ρ p k e d (lrm (ρ 112) p d k e)) fun r7 => some (r7, ρ) else bd2 (X11_finds ρ 2) fun r8 s9 => some (r8, s9) := by
      unfold X11_line
      rw [bdk i2, if_pos (by decide), bdk hrm', ag_ok (by omega) (by omega) (by decide), e0]
    by_cases cc : w < e
    · have hnf := l5 e cc (by omega)
      refine sim_tell2 (x := fun τ => X10_line τ p k e d) (y := fun ρ => X11_line ρ p k e d) (k := 2) (c := -1000003) rel ft (fun _ _ => rfl) (by omega) ?_ ?_
      · show X10_line τ p k e d = _
        rw [hcls0, bdk hfit, if_pos cc, if_neg (by decide), bd2k (tell_2 τ')]
      · show X11_line ρ p k e d = _
        rw [href0, if_neg (by first | omega | (unfold w32; omega)), bd2k (finds_2 ρ)]
    · have hwe : w = e := by omega
      have hff : lrm (ρ 112) p d k e ≤ ρ 112 0 := by
        have := t6
        unfold FT at this
        rw [l1, hwe, Int.toNat_natCast] at this
        exact this (by omega)
      have hco : X3_costOf τ' k e = some (eC (lnc (ρ 112) p d k e)) := by
        unfold X3_costOf
        rw [ag_ok (by omega) (by omega) (by decide), show ((k : Int) * 40 + e).toNat = 40 * k + e by omega, l4 e (by omega) (by omega)]
      rcases meS_01 (ρ 112) p e with hh | hh
      · have hln : lnc (ρ 112) p d k e = none := if_neg (fun x => x.2 hh)
        refine sim_tell2 (x := fun τ => X10_line τ p k e d) (y := fun ρ => X11_line ρ p k e d) (k := 4) (c := -1000005) rel ft (fun _ _ => rfl) (by omega) ?_ ?_
        · show X10_line τ p k e d = _
          rw [hcls0, bdk hfit, if_neg cc, if_pos (by decide), bdk hco, hln, if_neg (by decide), bd2k (tell_4 τ')]
        · show X11_line ρ p k e d = _
          rw [href0, if_pos (by first | omega | (unfold w32; omega)), bdk hme, hh, if_pos (by decide), bd2k (finds_4 ρ)]
      · have hln : lnc (ρ 112) p d k e = some (lnv (ρ 112) p d k e) := if_pos ⟨hff, by omega⟩
        have hlv := lnv_in h.1 hp q2 (a := k) (k := e) (by omega) (by omega) hff
        have hlc := m_lineCost (σ := ρ) h.1 hp q2 (a := k) (k := e) (by omega) (by omega) hff
        refine ⟨lnv (ρ 112) p d k e, τ', ρ, ?_, ?_, rel, ft, fun _ _ => rfl⟩
        · show X10_line τ p k e d = _
          rw [hcls0, bdk hfit, if_neg cc, if_pos (by decide), bdk hco, hln, show eC (some (lnv (ρ 112) p d k e)) = lnv (ρ 112) p d k e from rfl, if_pos (by first | omega | (unfold w32; omega))]
        · show X11_line ρ p k e d = _
          rw [href0, if_pos (by first | omega | (unfold w32; omega)), bdk hme, hh, if_neg (by decide), bdk hlc]
  · refine sim_tell (x := fun τ => X10_line τ a b c d) (y := fun ρ => X11_line ρ a b c d) (k := 0) (c := -1000001) h (by omega) ?_ ?_
    · show X10_line τ a b c d = _
      unfold X10_line X10_line_B18
      rw [bdk i1]
      by_cases q1 : (0 ≤ a ∧ a ≤ 3 ∧ 0 ≤ b ∧ b < ρ 112 (9 + 165 * a.toNat)) ∧ (0 ≤ a ∧ a ≤ 3 ∧ 0 ≤ c ∧ c < ρ 112 (9 + 165 * a.toNat)) ∧ b ≤ c
      · rw [if_neg (fun x => q ⟨q1, x⟩)] at i3
        rw [if_pos q1, if_neg (by decide), bdk i3, if_neg (by decide), bd2k (tell_0 τ)]
      · rw [if_neg q1, if_pos (by decide), bd2k (tell_0 τ)]
    · show X11_line ρ a b c d = _
      unfold X11_line
      rw [if_neg (fun x => q ⟨⟨x.1, x.2.1, x.2.2.1⟩, x.2.2.2⟩)] at i2
      rw [bdk i2, if_neg (by decide), bd2k (finds_0 ρ)]
theorem sim_page {a b c d : Int} (ha : inR a) (hb : inR b) (hc : inR c) (hd : inR d) : Sim (fun τ => X10_page τ a b c d) (fun ρ => X11_page ρ a b c d) := by
  intro τ ρ h
  have i1 := c_stretch h.1 h.2.1 ha hb hc
  have i2 := m_span (σ := ρ) h.1 ha hb hc hd
  have i3 := isSize_if (σ := τ) hd
  by_cases q : ((0 ≤ a ∧ a ≤ 3 ∧ 0 ≤ b ∧ b < ρ 112 (9 + 165 * a.toNat)) ∧ (0 ≤ a ∧ a ≤ 3 ∧ 0 ≤ c ∧ c < ρ 112 (9 + 165 * a.toNat)) ∧ b ≤ c) ∧ 0 ≤ d ∧ d ≤ 2
  · obtain ⟨q1, q2⟩ := q
    rw [if_pos q1] at i1
    rw [if_pos q2] at i3
    rw [if_pos ⟨q1.1, q1.2.1, q1.2.2, q2⟩] at i2
    obtain ⟨p, rfl⟩ := Int.eq_ofNat_of_zero_le q1.1.1
    obtain ⟨k, rfl⟩ := Int.eq_ofNat_of_zero_le q1.1.2.2.1
    obtain ⟨e, rfl⟩ := Int.eq_ofNat_of_zero_le q1.2.1.2.2.1
    obtain ⟨s, rfl⟩ := Int.eq_ofNat_of_zero_le q2.1
    rw [Int.toNat_natCast] at q1
    have hp : p < 4 := by omega
    have h40 := h.1.bars hp
    have h6 := h.1.lines
    obtain ⟨L, hL⟩ : ∃ L : Nat, ρ 112 1 = L := ⟨(ρ 112 1).toNat, by omega⟩
    obtain ⟨τ1, t1, t2, t3⟩ := c_fill h.1 hp q2 (a := k) (e := e) (by omega) (by omega) h.2.1
    have e1 : τ1 3 (1 : Int).toNat = L := by rw [t2 3 (by omega) (by omega), ← hL]; exact h.2.1.rul (by omega)
    obtain ⟨τ2, u1, u2, u3⟩ := c_fillPages h.1 hp q2 (a := k) (e := e) (E := e) (L := L) (by omega) (by omega) (by omega) (by omega) t3
    have e2 : τ2 3 (1 : Int).toNat = L := by rw [u2 3 (by omega)]; exact e1
    have hpc := c_pageCost (τ := τ2) (L := L) (b := k) (by omega) (by omega)
    rw [u3 L (by omega) k (by omega) (by omega)] at hpc
    obtain ⟨ρ1, v1, v2, v3, v4⟩ := m_findLines (p := p) (s := s) (ρ := ρ) hp (by omega) h.1
    have e112 : ρ1 112 = ρ 112 := v2 112 (by omega)
    obtain ⟨ρ2, w1, w2, w3⟩ := m_findTails (p := p) (s := s) (e := e) (ρ := ρ1) hp (by omega) (by rw [e112]; exact h.1) (by rw [e112]; omega) (by rw [e112]; exact v4)
    rw [e112] at w3
    have e3 : ρ2 112 (1 : Int).toNat = L := by rw [w2 112 (by omega), e112]; exact hL
    have e4 : ρ2 119 (41 * (L : Int) + k).toNat = eM (tl (ρ 112) p s e L k) := by
      rw [show (41 * (L : Int) + k).toNat = 41 * L + k by omega]
      exact w3 L (by omega) k (by omega)
    have rel : Rel τ2 ρ2 := h.eng (fun x x1 x2 x3 => by rw [u2 x x3, t2 x x1 x2]) (fun x x1 x2 => by rw [w2 x x2, v2 x x1])
    have ft : ∀ x, 111 ≤ x → τ2 x = τ x := fun x hx => by rw [u2 x (by omega), t2 x (by omega) (by omega)]
    have fr : ∀ x, x < 111 → ρ2 x = ρ x := fun x hx => by rw [w2 x (by omega), v2 x (by omega)]
    have bt := bnd_tl h.1 hp q2 (e := e) (L := L) (b := k) (by omega) (by omega)
    have hcls : X10_page τ p k e s = if w32 (eC (tl (ρ 112) p s e L k)) ≠ w32 2147483647 then some (eC (tl (ρ 112) p s e L k), τ2) else some (-1000004, tel τ2 3) := by
      unfold X10_page
      rw [bdk i1, if_neg (by decide), bdk i3, if_pos (by decide), ag_nat hp (by decide), bdk t1, ag_ok (by omega) (by omega) (by decide), e1, bdk u1, ag_ok (by omega) (by omega) (by decide), e2, bdk hpc, bd2k (tell_3 τ2)]
    have href : X11_page ρ p k e s = if w32 1000000000 ≤ w32 (eM (tl (ρ 112) p s e L k)) then some (-1000004, fnd ρ2 3) else some (eM (tl (ρ 112) p s e L k), ρ2) := by
      unfold X11_page
      rw [bdk i2, if_pos (by decide), bdk v1, bdk w1, ag_ok (by omega) (by omega) (by decide), e3, ag_ok (by omega) (by omega) (by decide), lt_v, e4, bd2k (finds_3 ρ2)]
    cases ht : tl (ρ 112) p s e L k with
    | none =>
      rw [ht] at hcls href
      rw [if_neg (by decide)] at hcls
      rw [if_pos (by decide)] at href
      exact sim_tell2 (x := fun τ => X10_page τ p k e s) (y := fun ρ => X11_page ρ p k e s) (k := 3) rel ft fr (by omega) hcls href
    | some v =>
      have bv := bt v ht
      rw [ht, show eC (some v) = v from rfl, if_pos (by first | omega | (unfold w32; omega))] at hcls
      rw [ht, show eM (some v) = v from rfl, if_neg (by first | omega | (unfold w32; omega))] at href
      exact ⟨v, τ2, ρ2, hcls, href, rel, ft, fr⟩
  · refine sim_tell (x := fun τ => X10_page τ a b c d) (y := fun ρ => X11_page ρ a b c d) (k := 0) (c := -1000001) h (by omega) ?_ ?_
    · show X10_page τ a b c d = _
      unfold X10_page X10_page_B18
      rw [bdk i1]
      by_cases q1 : (0 ≤ a ∧ a ≤ 3 ∧ 0 ≤ b ∧ b < ρ 112 (9 + 165 * a.toNat)) ∧ (0 ≤ a ∧ a ≤ 3 ∧ 0 ≤ c ∧ c < ρ 112 (9 + 165 * a.toNat)) ∧ b ≤ c
      · rw [if_neg (fun x => q ⟨q1, x⟩)] at i3
        rw [if_pos q1, if_neg (by decide), bdk i3, if_neg (by decide), bd2k (tell_0 τ)]
      · rw [if_neg q1, if_pos (by decide), bd2k (tell_0 τ)]
    · show X11_page ρ a b c d = _
      unfold X11_page
      rw [if_neg (fun x => q ⟨⟨x.1, x.2.1, x.2.2.1⟩, x.2.2.2⟩)] at i2
      rw [bdk i2, if_neg (by decide), bd2k (finds_0 ρ)]
