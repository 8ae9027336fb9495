/-! breaks that may be; prices -/
def hlS (r : Nat → Int) (p : Nat) (b : Int) : Prop := 0 ≤ r (7 + 165 * p) ∧ b < r (9 + 165 * (r (7 + 165 * p)).toNat) ∧ r 2 ≤ frS r (r (7 + 165 * p)).toNat b 0
def mbS (r : Nat → Int) (k : Int) (p : Nat) (b : Int) : Prop := meS r p b ≠ 0 ∧ (k < 3 ∨ k = 4 ∨ (k = 6 ∧ r 2 ≤ frS r p b (r (6 + 165 * p))) ∨ ((k = 3 ∨ k = 5) ∧ r 2 ≤ frS r p b 0) ∨ (k = 5 ∧ hlS r p b))
def prS (r : Nat → Int) (k : Int) (p : Nat) (b : Int) : Int := if k = 0 then 1 else if k = 1 then 3 else if k = 2 then 11 else if k = 4 then 22 else if k = 3 then (if 300 ≤ frS r p b 0 then 11 else 11 + (300 - frS r p b 0) / 10) else if k = 5 then (if 300 ≤ frS r p b 0 then 11 else 11 + (300 - frS r p b 0) / 10) / 2 else (if 300 ≤ frS r p b 0 then 11 else 11 + (300 - frS r p b 0) / 10) + r (6 + 165 * p)
theorem meS_01 (r : Nat → Int) (p : Nat) (b : Int) : meS r p b = 0 ∨ meS r p b = 1 := by
  unfold meS
  by_cases h1 : b = r (9 + 165 * p) - 1
  · rw [if_pos h1]; exact Or.inr rfl
  · rw [if_neg h1]
    by_cases h2 : mkd r p b 1 = 0
    · rw [if_pos h2]; exact Or.inr rfl
    · rw [if_neg h2]; exact Or.inl rfl
theorem WF.need {r : Nat → Int} (hw : WF r) : 0 ≤ r 2 ∧ r 2 ≤ 999 := hw.1.2.2.1
theorem WF.help {r : Nat → Int} (hw : WF r) {p : Nat} (hp : p < 4) : -1 ≤ r (7 + 165 * p) ∧ r (7 + 165 * p) ≤ 3 ∧ r (7 + 165 * p) ≠ (p : Int) := (hw.2.1 p hp).2.2.1
theorem CRB.rul {r : Nat → Int} {σ : Mem} (h : CRB 1 r σ) {i : Nat} (hi : i < 5) : σ 3 i = r i := h.1 i hi
theorem c_neigh {r : Nat → Int} {σ : Mem} (hw : WF r) (h : CRB 1 r σ) {p : Nat} (hp : p < 4) {b : Int} (hb : 0 ≤ b ∧ b < 40) : ∃ v, X7_neighbourFree σ 1 p b = some v ∧ -1 ≤ v ∧ v ≤ 200000 ∧ (r 2 ≤ v ↔ hlS r p b) := by
  have hn := hw.need
  have hh := hw.help hp
  have e : σ (1 + 1 + 7 + 3 * p + 1) 2 = r (7 + 165 * p) := by
    rw [show 1 + 1 + 7 + 3 * p + 1 = 10 + 3 * p by omega, h.trt hp (by omega), show 5 + 165 * p + 2 = 7 + 165 * p by omega]
  unfold X7_neighbourFree
  by_cases h1 : 0 ≤ r (7 + 165 * p)
  · obtain ⟨q, hq⟩ := Int.eq_ofNat_of_zero_le h1
    have hq4 : q < 4 := by omega
    have h40 := hw.bars hq4
    have hpt := isPart_t (σ := σ) (p := (q : Int)) (by omega) (by omega)
    have hph := part_has (σ := σ) (k := 9 + 3 * q) (b := b) (iR0 (by omega) (by omega)) (by rw [h.nbars hq4]; exact h40)
    rw [h.nbars hq4] at hph
    by_cases h2 : b < r (9 + 165 * q)
    · rw [if_pos (by omega)] at hph
      have hfr := c_freeBehind hw h hq4 (b := b) (m := 0) hb (by omega)
      have hin := frS_in hw hq4 b 0
      refine ⟨frS r q b 0, ?_, by omega, by omega, ?_⟩
      · rw [ag_nat (by omega) (by decide), ag_ok (by omega) (by omega) (by decide), lt_v, show (2 : Int).toNat = 2 from rfl, e, hq, bdk hpt, if_neg (by decide), ag_nat (by omega) (by decide)]
        show bd (X5_has σ (1 + 1 + 7 + 3 * q) b) _ = _
        rw [show 1 + 1 + 7 + 3 * q = 9 + 3 * q by omega, bdk hph, if_pos (by decide), ag_nat (by omega) (by decide)]
        show bd (X5_freeBehind σ (1 + 1 + 7 + 3 * q) b 0) _ = _
        rw [show 1 + 1 + 7 + 3 * q = 9 + 3 * q by omega, bdk hfr]
      · unfold hlS
        rw [hq, Int.toNat_natCast]
        exact ⟨fun x => ⟨by omega, h2, x⟩, fun x => x.2.2⟩
    · rw [if_neg (by omega)] at hph
      refine ⟨-1, ?_, by omega, by omega, ?_⟩
      · rw [ag_nat (by omega) (by decide), ag_ok (by omega) (by omega) (by decide), lt_v, show (2 : Int).toNat = 2 from rfl, e, hq, bdk hpt, if_neg (by decide), ag_nat (by omega) (by decide)]
        show bd (X5_has σ (1 + 1 + 7 + 3 * q) b) _ = _
        rw [show 1 + 1 + 7 + 3 * q = 9 + 3 * q by omega, bdk hph, if_neg (by decide)]
      · unfold hlS
        rw [hq, Int.toNat_natCast]
        exact ⟨fun x => by omega, fun x => absurd x.2.1 h2⟩
  · have hpf := isPart_f (σ := σ) (p := r (7 + 165 * p)) (by omega) (iR0 (by omega) (by omega))
    refine ⟨-1, ?_, by omega, by omega, ?_⟩
    · rw [ag_nat (by omega) (by decide), ag_ok (by omega) (by omega) (by decide), lt_v, show (2 : Int).toNat = 2 from rfl, e, bdk hpf, if_pos (by decide)]
    · exact ⟨fun x => by omega, fun x => absurd x.1 h1⟩
theorem c_mayBreak {r : Nat → Int} {σ : Mem} (hw : WF r) (h : CRB 1 r σ) {p : Nat} (hp : p < 4) {k b : Int} (hk : 0 ≤ k ∧ k ≤ 6) (hb : 0 ≤ b ∧ b < r (9 + 165 * p)) : ∃ v, X7_mayBreak σ 1 k p b = some v ∧ ((mbS r k p b ∧ v = 1) ∨ (¬ mbS r k p b ∧ v = 0)) := by
  have h40 := hw.bars hp
  have hn := hw.need
  have hm := hw.mem hp
  have e1 : X5_mayEndLine σ (1 + 1 + 7 + 3 * p) b = some (meS r p b) := by
    rw [show 1 + 1 + 7 + 3 * p = 9 + 3 * p by omega]
    exact c_mayEnd hw h hp hb
  have fb : ∀ m, 0 ≤ m → m ≤ 8 → X5_freeBehind σ (1 + 1 + 7 + 3 * p) b m = some (frS r p b m) := fun m h1 h2 => by
    rw [show 1 + 1 + 7 + 3 * p = 9 + 3 * p by omega]
    exact c_freeBehind hw h hp ⟨by omega, by omega⟩ ⟨h1, h2⟩
  have f0 := fb 0 (by omega) (by omega)
  have f1 := fb _ hm.1 hm.2
  have i0 := frS_in hw hp b 0
  have i1 := frS_in hw hp b (r (6 + 165 * p))
  have em : σ (1 + 1 + 7 + 3 * p + 1) 1 = r (6 + 165 * p) := by
    rw [show 1 + 1 + 7 + 3 * p + 1 = 10 + 3 * p by omega, h.trt hp (by omega), show 5 + 165 * p + 1 = 6 + 165 * p by omega]
  have e2 : σ (1 + 2) 2 = r 2 := h.rul (by omega)
  obtain ⟨v, v1, v2, v3, v4⟩ := c_neigh hw h hp (b := b) ⟨by omega, by omega⟩
  unfold X7_mayBreak mbS
  rw [ag_nat (by omega) (by decide), bdk e1]
  rcases meS_01 r p b with hme | hme
  · refine ⟨0, ?_, Or.inr ⟨fun q => q.1 hme, rfl⟩⟩
    rw [hme, if_neg (by decide)]
  · rw [hme, if_pos (by decide), ag_ok (by omega) (by omega) (by decide), lt_v, show (2 : Int).toNat = 2 from rfl, e2]
    by_cases k3 : k = 3
    · by_cases hc : r 2 ≤ frS r p b 0
      · refine ⟨1, ?_, Or.inl ⟨⟨by omega, by omega⟩, rfl⟩⟩
        ((repeat (first | with_reducible refine (ag_ok (by omega) (by omega) (by decide)).trans ?_ | rewrite [lt_v] | rewrite [bd_some] | rewrite [bd2_some] | rewrite [bdk (f0)] | with_reducible refine (if_pos (by first | omega | (unfold w32; omega))).trans ?_ | with_reducible refine (if_neg (by first | omega | (unfold w32; omega))).trans ?_)); (repeat (first | with_reducible refine Eq.trans ?_ (if_pos (by first | omega | (unfold w32; omega))).symm | with_reducible refine Eq.trans ?_ (if_neg (by first | omega | (unfold w32; omega))).symm)); try rfl)
      · refine ⟨0, ?_, Or.inr ⟨by omega, rfl⟩⟩
        ((repeat (first | with_reducible refine (ag_ok (by omega) (by omega) (by decide)).trans ?_ | rewrite [lt_v] | rewrite [bd_some] | rewrite [bd2_some] | rewrite [bdk (f0)] | with_reducible refine (if_pos (by first | omega | (unfold w32; omega))).trans ?_ | with_reducible refine (if_neg (by first | omega | (unfold w32; omega))).trans ?_)); (repeat (first | with_reducible refine Eq.trans ?_ (if_pos (by first | omega | (unfold w32; omega))).symm | with_reducible refine Eq.trans ?_ (if_neg (by first | omega | (unfold w32; omega))).symm)); try rfl)
    · by_cases k4 : k = 4
      · refine ⟨1, ?_, Or.inl ⟨⟨by omega, by omega⟩, rfl⟩⟩
        ((repeat (first | with_reducible refine (ag_ok (by omega) (by omega) (by decide)).trans ?_ | rewrite [lt_v] | rewrite [bd_some] | rewrite [bd2_some] | with_reducible refine (if_pos (by first | omega | (unfold w32; omega))).trans ?_ | with_reducible refine (if_neg (by first | omega | (unfold w32; omega))).trans ?_)); (repeat (first | with_reducible refine Eq.trans ?_ (if_pos (by first | omega | (unfold w32; omega))).symm | with_reducible refine Eq.trans ?_ (if_neg (by first | omega | (unfold w32; omega))).symm)); try rfl)
      · by_cases k5 : k = 5
        · by_cases hc : r 2 ≤ frS r p b 0
          · refine ⟨1, ?_, Or.inl ⟨⟨by omega, by omega⟩, rfl⟩⟩
            ((repeat (first | with_reducible refine (ag_ok (by omega) (by omega) (by decide)).trans ?_ | rewrite [lt_v] | rewrite [bd_some] | rewrite [bd2_some] | rewrite [bdk (f0)] | with_reducible refine (if_pos (by first | omega | (unfold w32; omega))).trans ?_ | with_reducible refine (if_neg (by first | omega | (unfold w32; omega))).trans ?_)); (repeat (first | with_reducible refine Eq.trans ?_ (if_pos (by first | omega | (unfold w32; omega))).symm | with_reducible refine Eq.trans ?_ (if_neg (by first | omega | (unfold w32; omega))).symm)); try rfl)
          · by_cases hv : r 2 ≤ v
            · refine ⟨1, ?_, Or.inl ⟨⟨by omega, Or.inr (Or.inr (Or.inr (Or.inr ⟨k5, v4.1 hv⟩)))⟩, rfl⟩⟩
              ((repeat (first | with_reducible refine (ag_ok (by omega) (by omega) (by decide)).trans ?_ | rewrite [lt_v] | rewrite [bd_some] | rewrite [bd2_some] | rewrite [bdk (f0)] | rewrite [bdk (v1)] | with_reducible refine (if_pos (by first | omega | (unfold w32; omega))).trans ?_ | with_reducible refine (if_neg (by first | omega | (unfold w32; omega))).trans ?_)); (repeat (first | with_reducible refine Eq.trans ?_ (if_pos (by first | omega | (unfold w32; omega))).symm | with_reducible refine Eq.trans ?_ (if_neg (by first | omega | (unfold w32; omega))).symm)); try rfl)
            · have hv2 : ¬ hlS r p b := fun q => hv (v4.2 q)
              refine ⟨0, ?_, Or.inr ⟨fun q => ?_, rfl⟩⟩
              · ((repeat (first | with_reducible refine (ag_ok (by omega) (by omega) (by decide)).trans ?_ | rewrite [lt_v] | rewrite [bd_some] | rewrite [bd2_some] | rewrite [bdk (f0)] | rewrite [bdk (v1)] | with_reducible refine (if_pos (by first | omega | (unfold w32; omega))).trans ?_ | with_reducible refine (if_neg (by first | omega | (unfold w32; omega))).trans ?_)); (repeat (first | with_reducible refine Eq.trans ?_ (if_pos (by first | omega | (unfold w32; omega))).symm | with_reducible refine Eq.trans ?_ (if_neg (by first | omega | (unfold w32; omega))).symm)); try rfl)
              · rcases q.2 with x | x | x | x | x
                · omega
                · omega
                · omega
                · omega
                · exact hv2 x.2
        · by_cases k6 : k = 6
          · by_cases hc : r 2 ≤ frS r p b (r (6 + 165 * p))
            · refine ⟨1, ?_, Or.inl ⟨⟨by omega, by omega⟩, rfl⟩⟩
              repeat (first | with_reducible refine (ag_ok (by omega) (by omega) (by decide)).trans ?_ | rewrite [lt_v] | rewrite [bd_some] | rewrite [bd2_some] | with_reducible refine (if_pos (by first | omega | (unfold w32; omega))).trans ?_ | with_reducible refine (if_neg (by first | omega | (unfold w32; omega))).trans ?_)
              rw [show (1 : Int).toNat = 1 from rfl, em]
              ((repeat (first | with_reducible refine (ag_ok (by omega) (by omega) (by decide)).trans ?_ | rewrite [lt_v] | rewrite [bd_some] | rewrite [bd2_some] | rewrite [bdk (f1)] | with_reducible refine (if_pos (by first | omega | (unfold w32; omega))).trans ?_ | with_reducible refine (if_neg (by first | omega | (unfold w32; omega))).trans ?_)); (repeat (first | with_reducible refine Eq.trans ?_ (if_pos (by first | omega | (unfold w32; omega))).symm | with_reducible refine Eq.trans ?_ (if_neg (by first | omega | (unfold w32; omega))).symm)); try rfl)
            · refine ⟨0, ?_, Or.inr ⟨by omega, rfl⟩⟩
              repeat (first | with_reducible refine (ag_ok (by omega) (by omega) (by decide)).trans ?_ | rewrite [lt_v] | rewrite [bd_some] | rewrite [bd2_some] | with_reducible refine (if_pos (by first | omega | (unfold w32; omega))).trans ?_ | with_reducible refine (if_neg (by first | omega | (unfold w32; omega))).trans ?_)
              rw [show (1 : Int).toNat = 1 from rfl, em]
              ((repeat (first | with_reducible refine (ag_ok (by omega) (by omega) (by decide)).trans ?_ | rewrite [lt_v] | rewrite [bd_some] | rewrite [bd2_some] | rewrite [bdk (f1)] | with_reducible refine (if_pos (by first | omega | (unfold w32; omega))).trans ?_ | with_reducible refine (if_neg (by first | omega | (unfold w32; omega))).trans ?_)); (repeat (first | with_reducible refine Eq.trans ?_ (if_pos (by first | omega | (unfold w32; omega))).symm | with_reducible refine Eq.trans ?_ (if_neg (by first | omega | (unfold w32; omega))).symm)); try rfl)
          · refine ⟨1, ?_, Or.inl ⟨⟨by omega, by omega⟩, rfl⟩⟩
            ((repeat (first | with_reducible refine (ag_ok (by omega) (by omega) (by decide)).trans ?_ | rewrite [lt_v] | rewrite [bd_some] | rewrite [bd2_some] | with_reducible refine (if_pos (by first | omega | (unfold w32; omega))).trans ?_ | with_reducible refine (if_neg (by first | omega | (unfold w32; omega))).trans ?_)); (repeat (first | with_reducible refine Eq.trans ?_ (if_pos (by first | omega | (unfold w32; omega))).symm | with_reducible refine Eq.trans ?_ (if_neg (by first | omega | (unfold w32; omega))).symm)); try rfl)
theorem m_help {σ : Mem} (hw : WF (σ 112)) {p : Nat} (hp : p < 4) {b : Int} (hb : 0 ≤ b ∧ b < 40) : ∃ v, X11_hasHelp σ p b = some v ∧ ((hlS (σ 112) p b ∧ v = 1) ∨ (¬ hlS (σ 112) p b ∧ v = 0)) := by
  have hn := hw.need
  have hh := hw.help hp
  unfold X11_hasHelp X11_part hlS
  rw [bd_some, ag_ok (by omega) (by omega) (by decide), lt_v, show ((5 : Int) + 165 * p + 2).toNat = 7 + 165 * p by omega]
  by_cases h1 : 0 ≤ σ 112 (7 + 165 * p)
  · obtain ⟨q, hq⟩ := Int.eq_ofNat_of_zero_le h1
    have hq4 : q < 4 := by omega
    have h40 := hw.bars hq4
    have hin := frS_in hw hq4 b 0
    have hf := m_free hw hq4 (b := b) (fl := 0) hb (Or.inl rfl)
    rw [if_pos rfl] at hf
    rw [hq, Int.toNat_natCast, if_neg (by first | omega | (unfold w32; omega)), bdk (mbarsN hq4)]
    by_cases h2 : b < σ 112 (9 + 165 * q)
    · rw [if_neg (by first | omega | (unfold w32; omega)), bdk hf, ag_ok (by omega) (by omega) (by decide), show (2 : Int).toNat = 2 from rfl]
      by_cases h3 : σ 112 2 ≤ frS (σ 112) q b 0
      · exact ⟨1, by rw [if_neg (by first | omega | (unfold w32; omega))], Or.inl ⟨⟨by omega, h2, h3⟩, rfl⟩⟩
      · exact ⟨0, by rw [if_pos (by first | omega | (unfold w32; omega))], Or.inr ⟨fun x => h3 x.2.2, rfl⟩⟩
    · exact ⟨0, by rw [if_pos (by first | omega | (unfold w32; omega))], Or.inr ⟨fun x => h2 x.2.1, rfl⟩⟩
  · exact ⟨0, by rw [if_pos (by first | omega | (unfold w32; omega))], Or.inr ⟨fun x => h1 x.1, rfl⟩⟩
def brk (r : Nat → Int) (k q : Nat) : Int := r (666 + 3 * k + q)
theorem WF.brk_in {r : Nat → Int} (hw : WF r) {k : Nat} (hk : (k : Int) < r 665) : (0 ≤ brk r k 0 ∧ brk r k 0 ≤ 6) ∧ (0 ≤ brk r k 1 ∧ brk r k 1 ≤ 3) ∧ 0 ≤ brk r k 2 ∧ brk r k 2 < r (9 + 165 * (brk r k 1).toNat) := by
  have := hw.2.2.2.2.1 k hk
  unfold brk
  rw [show 666 + 3 * k + 1 = 667 + 3 * k by omega, show 666 + 3 * k + 2 = 668 + 3 * k by omega]
  exact this
theorem WF.num {r : Nat → Int} (hw : WF r) : 0 ≤ r 665 ∧ r 665 ≤ 30 := hw.2.2.2.1
theorem m_ofN {σ : Mem} {k q : Nat} (hk : k < 30) (hq : q < 3) : X11_of σ k q = some (brk (σ 112) k q) := by
  have := m_of (σ := σ) (k := (k : Int)) (q := (q : Int)) ⟨by omega, by omega⟩ ⟨by omega, by omega⟩
  rw [Int.toNat_natCast, Int.toNat_natCast] at this
  exact this
theorem m_mayBe {σ : Mem} (hw : WF (σ 112)) {k : Nat} (hk : (k : Int) < σ 112 665) : ∃ v, X11_mayBe σ k = some v ∧ ((mbS (σ 112) (brk (σ 112) k 0) (brk (σ 112) k 1).toNat (brk (σ 112) k 2) ∧ v = 1) ∨ (¬ mbS (σ 112) (brk (σ 112) k 0) (brk (σ 112) k 1).toNat (brk (σ 112) k 2) ∧ v = 0)) := by
  have hnum := hw.num
  obtain ⟨g1, g2, g3⟩ := hw.brk_in hk
  have o0 : X11_of σ k 0 = some (brk (σ 112) k 0) := m_ofN (q := 0) (by omega) (by omega)
  have o1 : X11_of σ k 1 = some (brk (σ 112) k 1) := m_ofN (q := 1) (by omega) (by omega)
  have o2 : X11_of σ k 2 = some (brk (σ 112) k 2) := m_ofN (q := 2) (by omega) (by omega)
  obtain ⟨p, hp⟩ := Int.eq_ofNat_of_zero_le g2.1
  have hp4 : p < 4 := by omega
  rw [hp, Int.toNat_natCast] at g3
  have h40 := hw.bars hp4
  have hn := hw.need
  unfold X11_mayBe
  rw [bdk o0, bdk o1, bdk o2, hp, Int.toNat_natCast, bdk (m_mayEnd hw hp4 g3)]
  have f0 := m_free hw hp4 (b := brk (σ 112) k 2) (fl := 0) ⟨by omega, by omega⟩ (Or.inl rfl)
  have f1 := m_free hw hp4 (b := brk (σ 112) k 2) (fl := 1) ⟨by omega, by omega⟩ (Or.inr rfl)
  rw [if_pos rfl] at f0
  rw [if_neg (by decide)] at f1
  have i0 := frS_in hw hp4 (brk (σ 112) k 2) 0
  have i1 := frS_in hw hp4 (brk (σ 112) k 2) (σ 112 (6 + 165 * p))
  obtain ⟨v, v1, v2⟩ := m_help hw hp4 (b := brk (σ 112) k 2) ⟨by omega, by omega⟩
  unfold mbS
  generalize brk (σ 112) k 0 = x at *
  generalize brk (σ 112) k 2 = b at *
  have e2 : σ 112 (2 : Int).toNat = σ 112 2 := rfl
  rcases meS_01 (σ 112) p b with hme | hme
  · refine ⟨0, ?_, Or.inr ⟨fun q => q.1 hme, rfl⟩⟩
    rw [hme, if_neg (by decide)]
  · rw [hme, if_pos (by decide)]
    by_cases k2 : x < 3
    · refine ⟨1, ?_, Or.inl ⟨⟨by omega, by omega⟩, rfl⟩⟩
      ((repeat (first | with_reducible refine (ag_ok (by omega) (by omega) (by decide)).trans ?_ | rewrite [lt_v] | rewrite [bd_some] | rewrite [bd2_some] | with_reducible refine (if_pos (by first | omega | (unfold w32; omega))).trans ?_ | with_reducible refine (if_neg (by first | omega | (unfold w32; omega))).trans ?_)); (repeat (first | with_reducible refine Eq.trans ?_ (if_pos (by first | omega | (unfold w32; omega))).symm | with_reducible refine Eq.trans ?_ (if_neg (by first | omega | (unfold w32; omega))).symm)); try rfl)
    · by_cases k4 : x = 4
      · refine ⟨1, ?_, Or.inl ⟨⟨by omega, by omega⟩, rfl⟩⟩
        ((repeat (first | with_reducible refine (ag_ok (by omega) (by omega) (by decide)).trans ?_ | rewrite [lt_v] | rewrite [bd_some] | rewrite [bd2_some] | with_reducible refine (if_pos (by first | omega | (unfold w32; omega))).trans ?_ | with_reducible refine (if_neg (by first | omega | (unfold w32; omega))).trans ?_)); (repeat (first | with_reducible refine Eq.trans ?_ (if_pos (by first | omega | (unfold w32; omega))).symm | with_reducible refine Eq.trans ?_ (if_neg (by first | omega | (unfold w32; omega))).symm)); try rfl)
      · by_cases k6 : x = 6
        · by_cases hc : σ 112 2 ≤ frS (σ 112) p b (σ 112 (6 + 165 * p))
          · refine ⟨1, ?_, Or.inl ⟨⟨by omega, by omega⟩, rfl⟩⟩
            ((repeat (first | with_reducible refine (ag_ok (by omega) (by omega) (by decide)).trans ?_ | rewrite [lt_v] | rewrite [bd_some] | rewrite [bd2_some] | rewrite [bdk (f1)] | with_reducible refine (if_pos (by first | omega | (unfold w32; omega))).trans ?_ | with_reducible refine (if_neg (by first | omega | (unfold w32; omega))).trans ?_)); (repeat (first | with_reducible refine Eq.trans ?_ (if_pos (by first | omega | (unfold w32; omega))).symm | with_reducible refine Eq.trans ?_ (if_neg (by first | omega | (unfold w32; omega))).symm)); try rfl)
          · refine ⟨0, ?_, Or.inr ⟨by omega, rfl⟩⟩
            ((repeat (first | with_reducible refine (ag_ok (by omega) (by omega) (by decide)).trans ?_ | rewrite [lt_v] | rewrite [bd_some] | rewrite [bd2_some] | rewrite [bdk (f1)] | with_reducible refine (if_pos (by first | omega | (unfold w32; omega))).trans ?_ | with_reducible refine (if_neg (by first | omega | (unfold w32; omega))).trans ?_)); (repeat (first | with_reducible refine Eq.trans ?_ (if_pos (by first | omega | (unfold w32; omega))).symm | with_reducible refine Eq.trans ?_ (if_neg (by first | omega | (unfold w32; omega))).symm)); try rfl)
        · by_cases hc : σ 112 2 ≤ frS (σ 112) p b 0
          · refine ⟨1, ?_, Or.inl ⟨⟨by omega, by omega⟩, rfl⟩⟩
            ((repeat (first | with_reducible refine (ag_ok (by omega) (by omega) (by decide)).trans ?_ | rewrite [lt_v] | rewrite [bd_some] | rewrite [bd2_some] | rewrite [bdk (f0)] | with_reducible refine (if_pos (by first | omega | (unfold w32; omega))).trans ?_ | with_reducible refine (if_neg (by first | omega | (unfold w32; omega))).trans ?_)); (repeat (first | with_reducible refine Eq.trans ?_ (if_pos (by first | omega | (unfold w32; omega))).symm | with_reducible refine Eq.trans ?_ (if_neg (by first | omega | (unfold w32; omega))).symm)); try rfl)
          · by_cases k5 : x = 5
            · rcases v2 with ⟨va, vb⟩ | ⟨va, vb⟩
              · refine ⟨1, ?_, Or.inl ⟨⟨by omega, Or.inr (Or.inr (Or.inr (Or.inr ⟨k5, va⟩)))⟩, rfl⟩⟩
                ((repeat (first | with_reducible refine (ag_ok (by omega) (by omega) (by decide)).trans ?_ | rewrite [lt_v] | rewrite [bd_some] | rewrite [bd2_some] | rewrite [bdk (f0)] | rewrite [bdk (v1)] | with_reducible refine (if_pos (by first | omega | (unfold w32; omega))).trans ?_ | with_reducible refine (if_neg (by first | omega | (unfold w32; omega))).trans ?_)); (repeat (first | with_reducible refine Eq.trans ?_ (if_pos (by first | omega | (unfold w32; omega))).symm | with_reducible refine Eq.trans ?_ (if_neg (by first | omega | (unfold w32; omega))).symm)); try rfl)
              · refine ⟨0, ?_, Or.inr ⟨fun q => ?_, rfl⟩⟩
                · ((repeat (first | with_reducible refine (ag_ok (by omega) (by omega) (by decide)).trans ?_ | rewrite [lt_v] | rewrite [bd_some] | rewrite [bd2_some] | rewrite [bdk (f0)] | rewrite [bdk (v1)] | with_reducible refine (if_pos (by first | omega | (unfold w32; omega))).trans ?_ | with_reducible refine (if_neg (by first | omega | (unfold w32; omega))).trans ?_)); (repeat (first | with_reducible refine Eq.trans ?_ (if_pos (by first | omega | (unfold w32; omega))).symm | with_reducible refine Eq.trans ?_ (if_neg (by first | omega | (unfold w32; omega))).symm)); try rfl)
                · rcases q.2 with x | x | x | x | x
                  · omega
                  · omega
                  · omega
                  · omega
                  · exact va x.2
            · refine ⟨0, ?_, Or.inr ⟨by omega, rfl⟩⟩
              ((repeat (first | with_reducible refine (ag_ok (by omega) (by omega) (by decide)).trans ?_ | rewrite [lt_v] | rewrite [bd_some] | rewrite [bd2_some] | rewrite [bdk (f0)] | with_reducible refine (if_pos (by first | omega | (unfold w32; omega))).trans ?_ | with_reducible refine (if_neg (by first | omega | (unfold w32; omega))).trans ?_)); (repeat (first | with_reducible refine Eq.trans ?_ (if_pos (by first | omega | (unfold w32; omega))).symm | with_reducible refine Eq.trans ?_ (if_neg (by first | omega | (unfold w32; omega))).symm)); try rfl)
