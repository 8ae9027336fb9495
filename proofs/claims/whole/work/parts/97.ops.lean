/-! clear, sheets, change, cut, rooms, image, undo -/
theorem sim_clear {a : Int} (ha : inR a) : Sim (fun τ => X10_clear τ a) (fun ρ => X11_clear ρ a) := by
  intro τ ρ h
  have hn := h.1.num
  by_cases h1 : 0 ≤ a ∧ a ≤ 3
  · obtain ⟨N, hN⟩ : ∃ N : Nat, ρ 112 665 = N := ⟨(ρ 112 665).toNat, by omega⟩
    have hN30 : N ≤ 30 := by omega
    obtain ⟨w1, w2, w3, w4, w5, w6⟩ := id h.1
    obtain ⟨c1, c2, c3, c4, c5, c6, c7⟩ := id h.2.1
    obtain ⟨t, τ', ρ', t1, t2, t3, t4, t5, t6, t7, t8⟩ := clear_sim h1 hN30 N 0 0 5000 5000 τ ρ (by omega) (by omega) (by omega) (by omega) (by rw [h.2.1.numb]; exact hN) ⟨fun k hk q hq => by
        have := c6 k (by omega) (by omega) q hq
        rw [show 1 + 4 + q = 5 + q by omega] at this
        exact this, fun s hs => c7 s hs⟩ ⟨fun k hk => by omega, fun k _ hk => w5 k (by omega), fun s hs => by have := w6 s hs; omega⟩
    have e1 : X10_clear τ a = some ((N : Int) - t, st τ' 4 3 t) := by
      have e : X0_dropPart τ 4 a = some ((N : Int) - t, st τ' 4 3 t) := t1
      unfold X10_clear
      rw [bdk (isPart_t h1.1 h1.2), if_neg (by decide), bd2k e]
    have e2 : X11_clear ρ a = some ((N : Int) - t, st ρ' 112 665 t) := by
      unfold X11_clear
      rw [bdk (mPart_t h1.1 h1.2), if_pos (by decide), ag_ok (by decide) (by decide) (by decide), lt_v, show (665 : Int).toNat = 665 from rfl, hN]
      exact t2
    obtain ⟨r2, hr2⟩ : ∃ r2, r2 = st ρ' 112 665 (t : Int) 112 := ⟨_, rfl⟩
    have row : r2 = up (ρ' 112) 665 t := by rw [hr2, st_self]
    have lo : ∀ j, j < 665 → r2 j = ρ 112 j := fun j hj => by rw [row, up_ne (by omega), t8 j (by omega)]
    have nn : r2 665 = t := by rw [row, up_at]
    have hi : ∀ j, 666 ≤ j → r2 j = ρ' 112 j := fun j hj => by rw [row, up_ne (by omega)]
    have wf2 : WF r2 := by
      refine ⟨by rw [lo _ (by omega), lo _ (by omega), lo _ (by omega), lo _ (by omega), lo _ (by omega)]; exact w1, fun q hq => by rw [lo _ (by omega), lo _ (by omega), lo _ (by omega), lo _ (by omega), lo _ (by omega)]; exact w2 q hq, fun q hq j hj => ?_, by rw [nn]; omega, fun k hk => ?_, fun s hs => ?_⟩
      · have h40 := (w2 q hq).2.2.2.2
        rw [lo _ (by omega)] at hj
        rw [lo _ (by omega), lo _ (by omega), lo _ (by omega), lo _ (by omega)]; exact w3 q hq j hj
      · rw [nn] at hk
        have := t5.1 k (by omega)
        obtain ⟨o1, o2, o3⟩ := this
        rw [hi _ (by omega), hi _ (by omega), hi _ (by omega), lo _ (by omega), ← t8 _ (by omega)]
        exact ⟨o1, o2, o3⟩
      · have := t5.2.2 s hs
        rw [hi _ (by omega), nn]
        omega
    have g : ∀ q, q < 4 ∨ 8 < q → st τ' 4 3 (t : Int) q = τ q := fun q hq => by rw [st_ne (by omega), t6 q (by omega)]
    have cr2 : CRB 1 r2 (st τ' 4 3 t) := by
      refine ⟨fun i hi => by rw [g _ (by omega), lo _ (by omega)]; exact c1 i hi, fun p hp w hw => by rw [g _ (by omega), lo _ (by omega)]; exact c2 p hp w hw, fun p hp => by rw [g _ (by omega), lo _ (by omega)]; exact c3 p hp, fun p hp j j1 j2 => ?_, by rw [nn]; exact st_at _ _ _ _, fun k k1 k2 q hq => ?_, fun s hs => ?_⟩
      · rw [lo _ (by omega)] at j2
        rw [g _ (by omega), lo _ (by omega)]; exact c4 p hp j j1 j2
      · rw [nn] at k2
        have := t4.1 k (by omega) q hq
        rw [st_ne (by omega), show 1 + 4 + q = 5 + q by omega, hi _ (by omega)]
        exact this
      · rw [st_ne (by omega), hi _ (by omega)]
        exact t4.2 s hs
    refine ⟨_, _, _, e1, e2, h.row (by rw [← hr2]; exact wf2) (by rw [← hr2]; exact cr2) (by rw [← hr2]; exact h.2.2.2.2.2.2.r665 h.1 lo (fun q _ _ => g q (by omega))) (fun q hq => g q (by omega)) (fun q _ hq => by rw [st_ne hq, t7 q hq]), fun q hq => g q (by omega), fun q hq => by rw [st_ne (by omega), t7 q (by omega)]⟩
  · refine sim_tell (x := fun τ => X10_clear τ a) (y := fun ρ => X11_clear ρ a) (k := 0) (c := -1000001) h (by omega) ?_ ?_
    · show X10_clear τ a = _
      unfold X10_clear
      rw [bdk (isPart_f h1 ha), if_pos (by decide), bd2k (tell_0 τ)]
    · show X11_clear ρ a = _
      unfold X11_clear
      rw [bdk (mPart_f h1 ha), if_neg (by decide), bd2k (finds_0 ρ)]
/-- sheets change, nothing else -/
theorem Rel.sht {τ ρ τ' ρ' : Mem} (h : Rel τ ρ) (h1 : SH τ' ρ') (h4 : ∀ q, q < 63 ∨ 70 < q → τ' q = τ q) (h5 : ∀ q, q < 134 → ρ' q = ρ q) : Rel τ' ρ' := by
  obtain ⟨a, b, c, d, e, f, g⟩ := h
  have e112 := h5 112 (by omega)
  exact ⟨by rw [e112]; exact a, by rw [e112]; exact b.frame (fun k _ _ => h4 k (by omega)), c.frame (by rw [h4 0 (by omega)]) (fun q _ _ => h4 q (by omega)) (by rw [h5 111 (by omega)]) (h5 113 (by omega)), d.frame (by rw [h4 42 (by omega)]) (h4 43 (by omega)) (by rw [h5 111 (by omega)]) (h5 115 (by omega)), fun i hi => by rw [h4 62 (by omega), h5 114 (by omega)]; exact e i hi, h1, by rw [e112]; exact g.frame (fun q _ _ => h4 q (by omega))⟩
theorem sim_sheet {a b c : Int} (ha : inR a) (hb : inR b) (hc : inR c) : Sim (fun τ => X10_sheet τ a b c) (fun ρ => X11_sheet ρ a b c) := by
  intro τ ρ h
  have e1 := c_sheet_no (σ := τ) ha hb hc
  have e2 := m_sheet_no (σ := ρ) ha hb hc
  by_cases h1 : (0 ≤ a ∧ a ≤ 3) ∧ okBits b
  · by_cases c1 : c < 0
    · exact sim_tell (x := fun τ => X10_sheet τ a b c) (y := fun ρ => X11_sheet ρ a b c) (k := 6) h (by omega) (e1.2.1 h1 c1) (e2.2.1 h1 c1)
    · by_cases c2 : 40 < c
      · exact sim_tell (x := fun τ => X10_sheet τ a b c) (y := fun ρ => X11_sheet ρ a b c) (k := 0) h (by omega) (e1.2.2 h1 c2) (e2.2.2 h1 c2)
      · obtain ⟨s, rfl⟩ := Int.eq_ofNat_of_zero_le h1.1.1
        have hs : s < 4 := by omega
        have f1 := c_sheet_ok (σ := τ) hs h1.2 (n := c) (by omega)
        have f2 := m_sheet_ok (σ := ρ) hs h1.2 (n := c) (by omega)
        have hl : 0 ≤ (if b = 0 then 0 else c) ∧ (if b = 0 then 0 else c) ≤ 40 := by split <;> omega
        generalize (if b = 0 then 0 else c) = l at f1 f2 hl
        have g : ∀ q, q ≠ 63 + 2 * s → q ≠ 64 + 2 * s → fil (st (st τ (63 + 2 * s) 1 b) (63 + 2 * s) 2 l) (64 + 2 * s) 40 0 q = τ q := fun q q1 q2 => by rw [fil_ne q2, st_ne q1, st_ne q1]
        have g63 : fil (st (st τ (63 + 2 * s) 1 b) (63 + 2 * s) 2 l) (64 + 2 * s) 40 0 (63 + 2 * s) = up (up (τ (63 + 2 * s)) 1 b) 2 l := by rw [fil_ne (by omega), st_self, st_self]
        have k : ∀ q, q < 134 → fir (st (st ρ 134 s b) 135 s l) 136 (40 * s) 40 0 q = ρ q := fun q hq => by rw [fir_ne (by omega), st_ne (by omega), st_ne (by omega)]
        have k134 : fir (st (st ρ 134 s b) 135 s l) 136 (40 * s) 40 0 134 = up (ρ 134) s b := by rw [fir_ne (by omega), st_ne (by omega), st_self]
        have k135 : fir (st (st ρ 134 s b) 135 s l) 136 (40 * s) 40 0 135 = up (ρ 135) s l := by rw [fir_ne (by omega), st_self, st_ne (by omega)]
        refine ⟨_, _, _, f1, f2, h.sht (fun t ht => ?_) (fun q hq => g q (by omega) (by omega)) k, fun q hq => g q (by omega) (by omega), fun q hq => k q (by omega)⟩
        rw [k134, k135]
        by_cases hts : t = s
        · rw [hts, g63, up_at, up_at, up_at, up_ne (by omega), up_at]
          refine ⟨h1.2, rfl, rfl, hl, fun i hi => ?_⟩
          rw [fil_in hi, fir_in (by omega) (by omega)]
          exact ⟨iR0 (by decide) (by decide), iR0 (by decide) (by decide), Or.inl rfl⟩
        · obtain ⟨a1, a2, a3, a4, a5⟩ := h.2.2.2.2.2.1 t ht
          rw [up_ne hts, up_ne hts, g _ (by omega) (by omega), g (64 + 2 * t) (by omega) (by omega)]
          refine ⟨a1, a2, a3, a4, fun i hi => ?_⟩
          rw [fir_out (by omega), st_ne (by omega), st_ne (by omega)]
          exact a5 i hi
  · have h1' : ¬ (0 ≤ a ∧ a ≤ 3) ∨ ¬ okBits b := by
      by_cases c : 0 ≤ a ∧ a ≤ 3
      · exact Or.inr (fun d => h1 ⟨c, d⟩)
      · exact Or.inl c
    exact sim_tell (x := fun τ => X10_sheet τ a b c) (y := fun ρ => X11_sheet ρ a b c) (k := 0) h (by omega) (e1.1 h1') (e2.1 h1')
theorem SH.c1 {τ ρ : Mem} (h : SH τ ρ) : (∀ s, s < 4 → okBits (τ (63 + 2 * s) 1)) ∧ (∀ s, s < 4 → 0 ≤ τ (63 + 2 * s) 2 ∧ τ (63 + 2 * s) 2 ≤ 40) ∧ (∀ s, s < 4 → okBits (ρ 134 s)) ∧ ∀ s, s < 4 → 0 ≤ ρ 135 s ∧ ρ 135 s ≤ 40 := ⟨fun s hs => by rw [(h s hs).2.1]; exact (h s hs).1, fun s hs => by rw [(h s hs).2.2.1]; exact (h s hs).2.2.2.1, fun s hs => (h s hs).1, fun s hs => (h s hs).2.2.2.1⟩
theorem sim_write {a b c : Int} (ha : inR a) (hb : inR b) (hc : inR c) : Sim (fun τ => X10_write τ a b c) (fun ρ => X11_write ρ a b c) := by
  intro τ ρ h
  have sh := h.2.2.2.2.2.1
  have e1 := c_write (σ := τ) (v := c) ha hb sh.c1.1 sh.c1.2.1
  have e2 := m_write (σ := ρ) (v := c) ha hb sh.c1.2.2.1 sh.c1.2.2.2
  by_cases h1 : 0 ≤ a ∧ a ≤ 3
  · rw [if_pos h1] at e1 e2
    obtain ⟨s, rfl⟩ := Int.eq_ofNat_of_zero_le h1.1
    have hs : s < 4 := by omega
    obtain ⟨a1, a2, a3, a4, a5⟩ := sh s hs
    rw [Int.toNat_natCast, a2, a3] at e1
    rw [Int.toNat_natCast] at e2
    by_cases h0 : ρ 134 s = 0
    · rw [if_pos h0] at e1 e2
      exact sim_tell (x := fun τ => X10_write τ s b c) (y := fun ρ => X11_write ρ s b c) (k := 5) h (by omega) e1 e2
    · rw [if_neg h0] at e1 e2
      by_cases hi : 0 ≤ b ∧ b < ρ 135 s
      · rw [if_pos hi] at e1 e2
        obtain ⟨i, rfl⟩ := Int.eq_ofNat_of_zero_le hi.1
        rw [Int.toNat_natCast] at e1 e2
        refine ⟨_, _, _, e1, e2, h.sht (fun t ht => ?_) (fun q hq => st_ne (by omega)) (fun q hq => st_ne (by omega)), fun q hq => st_ne (by omega), fun q hq => st_ne (by omega)⟩
        obtain ⟨b1, b2, b3, b4, b5⟩ := sh t ht
        rw [st_ne (show (134 : Nat) ≠ 136 by omega), st_ne (show (135 : Nat) ≠ 136 by omega), st_ne (show 63 + 2 * t ≠ 64 + 2 * s by omega)]
        refine ⟨b1, b2, b3, b4, fun j hj => ?_⟩
        rw [st_self 
          ρ 136]
        by_cases hts : t = s
        · rw [hts, st_self]
          by_cases hji : j = i
          · rw [hji, up_at, up_at]; exact nrel_w hc
          · rw [up_ne hji, up_ne (by omega), ← hts]; exact b5 j hj
        · rw [st_ne (by omega), up_ne (by omega)]; exact b5 j hj
      · rw [if_neg hi] at e1 e2
        exact sim_tell (x := fun τ => X10_write τ s b c) (y := fun ρ => X11_write ρ s b c) (k := 0) h (by omega) e1 e2
  · rw [if_neg h1] at e1 e2
    exact sim_tell (x := fun τ => X10_write τ a b c) (y := fun ρ => X11_write ρ a b c) (k := 0) h (by omega) e1 e2
theorem cpy_at {σ : Mem} {a s b d n q : Nat} (h1 : d ≤ q) (h2 : q < d + n) : cpy σ a s b d n b q = σ a (s + (q - d)) := by
  unfold cpy
  rw [if_pos ⟨rfl, h1, h2⟩]
theorem cpy_o {σ : Mem} {a s b d n q : Nat} (h : q < d ∨ d + n ≤ q) : cpy σ a s b d n b q = σ b q := by
  unfold cpy
  rw [if_neg (by omega)]
theorem sim_copy {a b c d e : Int} (ha : inR a) (hb : inR b) (hc : inR c) (hd : inR d) (he : inR e) : Sim (fun τ => X10_copy τ a b c d e) (fun ρ => X11_copy ρ a b c d e) := by
  intro τ ρ h
  have sh := h.2.2.2.2.2.1
  have e1 := c_copy (σ := τ) ha hb hc hd he sh.c1.1 sh.c1.2.1
  have e2 := m_copy (σ := ρ) ha hb hc hd he sh.c1.2.2.1 sh.c1.2.2.2
  by_cases h1 : (0 ≤ a ∧ a ≤ 3) ∧ 0 ≤ c ∧ c ≤ 3
  · rw [if_pos h1] at e1 e2
    obtain ⟨s, rfl⟩ := Int.eq_ofNat_of_zero_le h1.1.1
    obtain ⟨t, rfl⟩ := Int.eq_ofNat_of_zero_le h1.2.1
    have hs : s < 4 := by omega
    have ht : t < 4 := by omega
    obtain ⟨a1, a2, a3, a4, a5⟩ := sh s hs
    obtain ⟨b1, b2, b3, b4, b5⟩ := sh t ht
    rw [Int.toNat_natCast, Int.toNat_natCast, a2, a3, b2, b3] at e1
    rw [Int.toNat_natCast, Int.toNat_natCast] at e2
    by_cases h0 : ρ 134 s = 0 ∨ ρ 134 t = 0
    · rw [if_pos h0] at e1 e2
      exact sim_tell (x := fun τ => X10_copy τ s b t d e) (y := fun ρ => X11_copy ρ s b t d e) (k := 5) h (by omega) e1 e2
    · rw [if_neg h0] at e1 e2
      by_cases hk : ρ 134 s = ρ 134 t
      · rw [if_pos hk] at e1 e2
        by_cases hi : (0 ≤ b ∧ 0 ≤ e ∧ e ≤ ρ 135 s - b) ∧ 0 ≤ d ∧ 0 ≤ e ∧ e ≤ ρ 135 t - d
        · rw [if_pos hi] at e1 e2
          obtain ⟨i, rfl⟩ := Int.eq_ofNat_of_zero_le hi.1.1
          obtain ⟨j, rfl⟩ := Int.eq_ofNat_of_zero_le hi.2.1
          obtain ⟨n, rfl⟩ := Int.eq_ofNat_of_zero_le hi.1.2.1
          rw [Int.toNat_natCast, Int.toNat_natCast, Int.toNat_natCast] at e1 e2
          refine ⟨_, _, _, e1, e2, h.sht (fun u hu => ?_) (fun q hq => cpy_ne (by omega)) (fun q hq => cpy_ne (by omega)), fun q hq => cpy_ne (by omega), fun q hq => cpy_ne (by omega)⟩
          obtain ⟨d1, d2, d3, d4, d5⟩ := sh u hu
          rw [cpy_ne (show (134 : Nat) ≠ 136 by omega), cpy_ne (show (135 : Nat) ≠ 136 by omega), cpy_ne (show 63 + 2 * u ≠ 64 + 2 * t by omega)]
          refine ⟨d1, d2, d3, d4, fun k hk40 => ?_⟩
          by_cases hut : u = t
          · rw [hut]
            by_cases hr : j ≤ k ∧ k < j + n
            · rw [cpy_at hr.1 hr.2, cpy_at (by omega) (by omega), show 40 * s + i + (40 * t + k - (40 * t + j)) = 40 * s + (i + (k - j)) by omega]
              exact a5 (i + (k - j)) (by omega)
            · rw [cpy_o (by omega), cpy_o (by omega)]
              exact b5 k hk40
          · rw [cpy_ne (by omega), cpy_o (by omega)]
            exact d5 k hk40
        · rw [if_neg hi] at e1 e2
          exact sim_tell (x := fun τ => X10_copy τ s b t d e) (y := fun ρ => X11_copy ρ s b t d e) (k := 0) h (by omega) e1 e2
      · rw [if_neg hk] at e1 e2
        exact sim_tell (x := fun τ => X10_copy τ s b t d e) (y := fun ρ => X11_copy ρ s b t d e) (k := 2) h (by omega) e1 e2
  · rw [if_neg h1] at e1 e2
    exact sim_tell (x := fun τ => X10_copy τ a b c d e) (y := fun ρ => X11_copy ρ a b c d e) (k := 0) h (by omega) e1 e2
