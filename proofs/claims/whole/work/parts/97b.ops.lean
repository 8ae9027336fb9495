/-! change, cut, rooms, image, undo -/
theorem agP_fact {r : Nat → Int} (hw : WF r) {p b w : Nat} {v : Int} (hp : p < 4) (hb : b < 40) (hww : w < 4) {q : Nat} (hq : q < 4) (h : q ≠ p ∨ w = 1 ∨ w = 2) : agP r (up r (10 + 165 * p + 4 * b + w) v) q := by
  have h40 := hw.bars hq
  refine ⟨up_ne (by omega), up_ne (by omega), up_ne (by omega), up_ne (ix_ne2 hb hww (by omega) (by omega)), fun k hk => ⟨up_ne (fun e => ?_), up_ne (fun e => ?_)⟩⟩
  · have := ix_eq (x := 0) hb hww (show k < 40 by omega) (by omega) e
    omega
  · have := ix_eq (x := 3) hb hww (show k < 40 by omega) (by omega) e
    omega
theorem sim_change {a b c d : Int} (ha : inR a) (hb : inR b) (hc : inR c) (hd : inR d) : Sim (fun τ => X10_change τ a b c d) (fun ρ => X11_change ρ a b c d) := by
  intro τ ρ h
  have e1 := c_change (σ := τ) ha hb hc hd (h.1.h40 h.2.1)
  have e2 := m_change (σ := ρ) ha hb hc hd h.1.m40
  rw [okBar_eq h.2.1] at e1
  by_cases ok : okBar (fun p => ρ 112 (9 + 165 * p)) a b ∧ okChg c d
  · have f1 := e1.1 ok
    have f2 := e2.1 ok
    have hc4 : c.toNat < 4 ∧ (c = 1 ∨ c = 3) := by
      rcases ok.2 with x | x <;> omega
    rw [okBar_fact h.1 h.2.1 ok.1 hc4.1] at f1
    obtain ⟨o1, o2, o3, o4'⟩ := id ok.1
    have o4 : b < ρ 112 (9 + 165 * a.toNat) := o4'
    have hp : a.toNat < 4 := by omega
    have h40 := h.1.bars hp
    have hb40 : b.toNat < 40 := by omega
    have okf : okF c.toNat d := by
      rcases ok.2 with x | x
      · exact ⟨fun y => by omega, fun _ => by omega, fun y => by omega, fun y => by omega⟩
      · exact ⟨fun y => by omega, fun y => by omega, fun y => by omega, fun _ => by omega⟩
    have row : st ρ 112 (10 + 165 * a.toNat + 4 * b.toNat + c.toNat) d 112 = up (ρ 112) (10 + 165 * a.toNat + 4 * b.toNat + c.toNat) d := st_self _ _ _ _
    have wf2 := h.1.fact hp hb40 hc4.1 okf
    have cr2 : CRB 1 (up (ρ 112) (10 + 165 * a.toNat + 4 * b.toNat + c.toNat) d) (st τ (11 + 3 * a.toNat) (4 * b.toNat + c.toNat) d) := by
      have := h.2.1.fact (v := d) hp (j := 4 * b.toNat + c.toNat) (by omega)
      rw [show 1 + 10 + 3 * a.toNat = 11 + 3 * a.toNat by omega, show 10 + 165 * a.toNat + (4 * b.toNat + c.toNat) = 10 + 165 * a.toNat + 4 * b.toNat + c.toNat by omega] at this
      exact this
    refine ⟨_, _, _, f1, f2, ?_, fun q hq => ?_, fun q hq => st_ne (by omega)⟩
    · by_cases c1 : c = 1
      · rw [if_pos c1]
        exact h.row (by rw [row]; exact wf2) (by rw [row]; exact cr2.frame (fun k _ _ => fgl_ne (by omega))) (by rw [row]; exact h.2.2.2.2.2.2.gl h.1 (fun q hq => agP_fact h.1 hp hb40 hc4.1 hq (by omega)) (fun q _ _ => st_ne (by omega))) (fun q hq => by rw [fgl_ne (by omega), st_ne (by omega)]) (fun q _ hq => st_ne hq)
      · rw [if_neg c1]
        exact h.row (by rw [row]; exact wf2) (by rw [row]; exact cr2.frame (fun k _ _ => fgp_ne (by omega) hp)) (by rw [row]; exact h.2.2.2.2.2.2.gp h.1 hp (fun q hq hqp => agP_fact h.1 hp hb40 hc4.1 hq (Or.inl hqp)) (fun q _ _ => st_ne (by omega))) (fun q hq => by rw [fgp_ne (by omega) hp, st_ne (by omega)]) (fun q _ hq => st_ne hq)
    · split
      · rw [fgl_ne (by omega), st_ne (by omega)]
      · rw [fgp_ne (by omega) hp, st_ne (by omega)]
  · exact sim_tell (x := fun τ => X10_change τ a b c d) (y := fun ρ => X11_change ρ a b c d) (k := 0) h (by omega) (e1.2 ok) (e2.2 ok)
theorem sim_cut {a b c : Int} (ha : inR a) (hb : inR b) (hc : inR c) : Sim (fun τ => X10_cut τ a b c) (fun ρ => X11_cut ρ a b c) := by
  intro τ ρ h
  have hn := h.1.num
  obtain ⟨N, hN⟩ : ∃ N : Nat, ρ 112 665 = N := ⟨(ρ 112 665).toNat, by omega⟩
  have bk : ∀ k, k < N → τ 6 k = ρ 112 (667 + 3 * k) := fun k hk => by
    have := h.2.1.2.2.2.2.2.1 k (by omega) (by omega) 1 (by omega)
    rw [show 666 + 3 * k + 1 = 667 + 3 * k by omega] at this
    exact this
  have bin : ∀ k, k < N → inR (ρ 112 (667 + 3 * k)) := fun k hk => by
    have := (h.1.2.2.2.2.1 k (by omega)).2.1
    exact ⟨by omega, by omega⟩
  have e1 := c_cut (σ := τ) ha hb hc (N := N) (by omega) (by rw [h.2.1.numb]; exact hN) (fun k hk => by rw [bk k hk]; exact bin k hk) (h.1.h40 h.2.1)
  have e2 := m_cut (σ := ρ) ha hb hc (N := N) (by omega) hN bin h.1.m40
  have heq : ((0 ≤ a ∧ a ≤ 3 ∧ 0 ≤ b ∧ b < τ (9 + 3 * a.toNat) 2) ∧ 1 ≤ c ∧ c ≤ τ (9 + 3 * a.toNat) 2 - b) ↔ okCut (ρ 112) a b c := by
    unfold okCut
    constructor
    · intro x
      have e := h.2.1.nbars (p := a.toNat) (by omega)
      rw [e] at x
      exact x
    · intro x
      have e := h.2.1.nbars (p := a.toNat) (by omega)
      rw [e]
      exact x
  by_cases ok : okCut (ρ 112) a b c
  · have g1 := e1.2 (heq.mpr ok)
    have g2 := e2.2 ok
    by_cases hno : ∀ k, k < N → ρ 112 (667 + 3 * k) ≠ a
    · have f1 := g1.2 (fun k hk => by rw [bk k hk]; exact hno k hk)
      have f2 := g2.2 hno
      obtain ⟨⟨o1, o2, o3, o4⟩, o5, o6⟩ := id ok
      obtain ⟨p, rfl⟩ := Int.eq_ofNat_of_zero_le o1
      obtain ⟨k, rfl⟩ := Int.eq_ofNat_of_zero_le o3
      obtain ⟨n, rfl⟩ := Int.eq_ofNat_of_zero_le (show 0 ≤ c by omega)
      have hp : p < 4 := by omega
      rw [Int.toNat_natCast] at o4 o6
      simp only [Int.toNat_natCast] at f1 f2
      rw [h.2.1.nbars hp] at f1
      have row := cutm_row ρ p k n (ρ 112 (9 + 165 * p))
      have wf2 := cut_wf (b := k) (n := n) h.1 hp (by omega) (fun j hj => hno j (by omega))
      have cr2 := cut_rel (b := k) (n := n) h.1 h.2.1 hp (by omega)
      have g : ∀ q, q ≠ 9 + 3 * p → q ≠ 11 + 3 * p → cutc τ p k n (ρ 112 (9 + 165 * p)) q = τ q := fun q q1 q2 => by
        unfold cutc
        rw [st_ne q1, cpy_ne q2]
      have gm : ∀ q, q ≠ 112 → cutm ρ p k n (ρ 112 (9 + 165 * p)) q = ρ q := fun q hq => by
        unfold cutm
        rw [st_ne hq, cpy_ne hq]
      refine ⟨_, _, _, f1, f2, ?_, fun q hq => by rw [fgp_ne (by omega) hp, g q (by omega) (by omega)], fun q hq => gm q (by omega)⟩
      exact h.row (by rw [row]; exact wf2) (by rw [row]; exact cr2.frame (fun q _ _ => fgp_ne (by omega) hp)) (by rw [row]; exact h.2.2.2.2.2.2.gp h.1 hp (fun q hq hqp => agP_of h.1 h.2.1 cr2 hq (g 3 (by omega) (by omega)) (by rw [g _ (by omega) (by omega)]) (g _ (by omega) (by omega))) (fun q _ _ => g q (by omega) (by omega))) (fun q hq => by rw [fgp_ne (by omega) hp, g q (by omega) (by omega)]) (fun q _ hq => gm q hq)
    · exact sim_tell (x := fun τ => X10_cut τ a b c) (y := fun ρ => X11_cut ρ a b c) (k := 4) h (by omega) (g1.1 (fun x => hno (fun k hk => by rw [← bk k hk]; exact x k hk))) (g2.1 hno)
  · exact sim_tell (x := fun τ => X10_cut τ a b c) (y := fun ρ => X11_cut ρ a b c) (k := 0) h (by omega) (e1.1 (fun x => ok (heq.mp x))) (e2.1 ok)
theorem sim_rooms {a b : Int} (ha : inR a) (hb : inR b) : Sim (fun τ => X10_rooms τ a b) (fun ρ => X11_rooms_ ρ a b) := by
  intro τ ρ h
  by_cases h1 : 0 ≤ a ∧ a ≤ 3
  · obtain ⟨s, rfl⟩ := Int.eq_ofNat_of_zero_le h1.1
    have hs : s < 4 := by omega
    obtain ⟨a1, a2, a3, a4, a5⟩ := h.2.2.2.2.2.1 s hs
    have j1 := isSheet_t (σ := τ) h1.1 h1.2
    have j2 := mSheet_t (σ := ρ) h1.1 h1.2
    by_cases h0 : ρ 134 s = 0
    · have hmi := missing_t (σ := τ) (B := 63 + 2 * s) (by rw [a2]; exact h0)
      refine sim_tell (x := fun τ => X10_rooms τ s b) (y := fun ρ => X11_rooms_ ρ s b) (k := 5) (c := -1000006) h (by omega) ?_ ?_
      · show X10_rooms τ s b = _
        unfold X10_rooms
        rw [bdk j1, if_pos (by decide), ag_nat hs (by decide), bdk hmi, if_neg (by decide), bd2k (tell_5 τ)]
      · show X11_rooms_ ρ s b = _
        unfold X11_rooms_
        rw [bdk j2, if_pos (by decide), ag_nat hs (by decide), h0, if_neg (by decide), bd2k (finds_5 ρ)]
    · have hb32 := okBits_le a1
      have hmi := missing_f (σ := τ) (B := 63 + 2 * s) (by rw [a2]; exact h0) (by rw [a2]; exact hb32)
      by_cases h2 : 0 ≤ b ∧ b ≤ 3
      · obtain ⟨p, rfl⟩ := Int.eq_ofNat_of_zero_le h2.1
        have hp : p < 4 := by omega
        obtain ⟨v, τ', ρ', t1, t2, t3, t4, t5, t6⟩ := rooms_sim hs hp 40 0 5000 5000 0 τ ρ (by omega) (by omega) (by omega) a3 a4.1 a4.2 a5 h.1 h.2.1
        refine ⟨v, fgp τ' p, ρ', ?_, ?_, h.row t3 (t4.frame (fun q _ _ => fgp_ne (by omega) hp)) (h.2.2.2.2.2.2.gp h.1 hp (fun q hq hqp => agP_of h.1 h.2.1 t4 hq (t5 3 (by omega)) (by rw [t5 _ (by omega)]) (t5 _ (by omega))) (fun q _ _ => t5 q (by omega))) (fun q hq => by rw [fgp_ne (by omega) hp, t5 q (by omega)]) (fun q _ hq => t6 q hq), fun q hq => by rw [fgp_ne (by omega) hp, t5 q (by omega)], fun q hq => t6 q (by omega)⟩
        · show X10_rooms τ s p = _
          unfold X10_rooms
          rw [bdk j1, if_pos (by decide), ag_nat hs (by decide), bdk hmi, if_pos (by decide), bdk (isPart_t h2.1 h2.2), if_pos (by decide), ag_nat hp (by decide)]
          exact t1
        · show X11_rooms_ ρ s p = _
          unfold X11_rooms_
          rw [bdk j2, if_pos (by decide), ag_nat hs (by decide), if_pos (by first | omega | (unfold w32; omega)), bdk (mPart_t h2.1 h2.2), if_pos (by decide)]
          exact t2
      · refine sim_tell (x := fun τ => X10_rooms τ s b) (y := fun ρ => X11_rooms_ ρ s b) (k := 0) (c := -1000001) h (by omega) ?_ ?_
        · show X10_rooms τ s b = _
          unfold X10_rooms
          rw [bdk j1, if_pos (by decide), ag_nat hs (by decide), bdk hmi, if_pos (by decide), bdk (isPart_f h2 hb), if_neg (by decide), bd2k (tell_0 τ)]
        · show X11_rooms_ ρ s b = _
          unfold X11_rooms_
          rw [bdk j2, if_pos (by decide), ag_nat hs (by decide), if_pos (by first | omega | (unfold w32; omega)), bdk (mPart_f h2 hb), if_neg (by decide), bd2k (finds_0 ρ)]
  · refine sim_tell (x := fun τ => X10_rooms τ a b) (y := fun ρ => X11_rooms_ ρ a b) (k := 0) (c := -1000001) h (by omega) ?_ ?_
    · show X10_rooms τ a b = _
      unfold X10_rooms
      rw [bdk (isSheet_f h1 ha), if_neg (by decide), bd2k (tell_0 τ)]
    · show X11_rooms_ ρ a b = _
      unfold X11_rooms_
      rw [bdk (mSheet_f h1 ha), if_neg (by decide), bd2k (finds_0 ρ)]
theorem WF.c766 {r r' : Nat → Int} (hw : WF r) (h : ∀ j, j < 766 → r' j = r j) : WF r' := by
  obtain ⟨w1, w2, w3, w4, w5, w6⟩ := hw
  refine ⟨by rw [h _ (by omega), h _ (by omega), h _ (by omega), h _ (by omega), h _ (by omega)]; exact w1, fun q hq => by rw [h _ (by omega), h _ (by omega), h _ (by omega), h _ (by omega), h _ (by omega)]; exact w2 q hq, fun q hq j hj => ?_, by rw [h _ (by omega)]; exact w4, fun k hk => ?_, fun s hs => by rw [h _ (by omega), h _ (by omega)]; exact w6 s hs⟩
  · have h40 := (w2 q hq).2.2.2.2
    rw [h _ (by omega)] at hj
    rw [h _ (by omega), h _ (by omega), h _ (by omega), h _ (by omega)]; exact w3 q hq j hj
  · rw [h _ (by omega)] at hk
    have := w5 k hk
    rw [h _ (by omega), h _ (by omega), h _ (by omega), h _ (by omega)]; exact this
theorem CRB.c766 {B : Nat} {r r' : Nat → Int} {σ : Mem} (hc : CRB B r σ) (h : ∀ j, j < 766 → r' j = r j) : CRB B r' σ := by
  obtain ⟨c1, c2, c3, c4, c5, c6, c7⟩ := hc
  refine ⟨fun i hi => by rw [h _ (by omega)]; exact c1 i hi, fun p hp w hw => by rw [h _ (by omega)]; exact c2 p hp w hw, fun p hp => by rw [h _ (by omega)]; exact c3 p hp, fun p hp j j1 j2 => ?_, by rw [h _ (by omega)]; exact c5, fun k k1 k2 q hq => ?_, fun s hs => by rw [h _ (by omega)]; exact c7 s hs⟩
  · rw [h _ (by omega)] at j2
    rw [h _ (by omega)]; exact c4 p hp j j1 j2
  · rw [h _ (by omega)] at k2
    rw [h _ (by omega)]; exact c6 k k1 k2 q hq
theorem sim_image : Sim (fun τ => X10_image τ) (fun ρ => X11_image ρ) := by
  intro τ ρ h
  obtain ⟨a, b, c, d, e, f, g⟩ := id h
  obtain ⟨τ', t1, t2, t3⟩ := c_image a b
  have u1 := m_image ρ
  have g1 : ∀ q, q ≠ 0 → q < 21 ∨ 41 ≤ q → st τ' 0 2 1 q = τ q := fun q q1 q2 => by rw [st_ne q1, t2 q q2]
  have g2 : ∀ q, q ≠ 111 → q ≠ 113 → st (cpy ρ 112 0 113 0 766) 111 2 1 q = ρ q := fun q q1 q2 => by rw [st_ne q1, cpy_ne q2]
  have r113 : ∀ j, j < 766 → st (cpy ρ 112 0 113 0 766) 111 2 1 113 j = ρ 112 j := fun j hj => by rw [st_ne (by omega), cpy_in hj]
  refine ⟨_, _, _, t1, u1, ⟨by rw [g2 112 (by omega) (by omega)]; exact a, by rw [g2 112 (by omega) (by omega)]; exact b.frame (fun k _ _ => g1 k (by omega) (by omega)), Or.inr ⟨st_at _ _ _ _, st_at _ _ _ _, a.c766 r113, (t3.c766 r113).frame (fun k _ _ => st_ne (by omega))⟩, d.frame (by rw [g1 42 (by omega) (by omega)]) (g1 43 (by omega) (by omega)) (by rw [st_self, up_ne (by omega), cpy_ne (by omega)]) (g2 115 (by omega) (by omega)), fun i hi => by rw [g1 62 (by omega) (by omega), g2 114 (by omega) (by omega)]; exact e i hi, f.frame (fun q _ _ => g1 q (by omega) (by omega)) (g2 134 (by omega) (by omega)) (g2 135 (by omega) (by omega)) (g2 136 (by omega) (by omega)), by rw [g2 112 (by omega) (by omega)]; exact g.frame (fun q _ _ => g1 q (by omega) (by omega))⟩, fun q hq => g1 q (by omega) (by omega), fun q hq => g2 q (by omega) (by omega)⟩
theorem sim_undo : Sim (fun τ => X10_undo τ) (fun ρ => X11_undo ρ) := by
  intro τ ρ h
  obtain ⟨a, b, c, d, e, f, g⟩ := id h
  rcases c with ⟨c1, c2⟩ | ⟨c1, c2, c3, c4⟩
  · exact sim_tell (x := fun τ => X10_undo τ) (y := fun ρ => X11_undo ρ) (k := 3) h (by omega) (c_undo_no c1) (m_undo_no c2)
  · obtain ⟨τ', t1, t2, t3⟩ := c_undo_ok c3 c1 c4
    have u1 := m_undo_ok (σ := ρ) c2
    have g1 : ∀ q, q < 1 ∨ (21 ≤ q ∧ q < 71) ∨ 111 ≤ q → fga τ' q = τ q := fun q hq => by rw [fga_ne (by omega), t2 q (by omega)]
    have g2 : ∀ q, q ≠ 112 → cpy ρ 113 0 112 0 766 q = ρ q := fun q q1 => cpy_ne q1
    have r112 : ∀ j, j < 766 → cpy ρ 113 0 112 0 766 112 j = ρ 113 j := fun j hj => cpy_in hj
    refine ⟨_, _, _, t1, u1, h.row (c3.c766 r112) ((t3.c766 r112).frame (fun k _ _ => fga_ne (by omega))) CA.ga (fun q hq => g1 q (by omega)) (fun q _ hq => g2 q hq), fun q hq => g1 q (by omega), fun q hq => g2 q (by omega)⟩
