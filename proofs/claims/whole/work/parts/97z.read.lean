/-! read -/
theorem rel_rd {τ ρ τ3 ρ3 : Mem} (h : Rel τ ρ) (z1 : ∀ q, q < 41 ∨ q = 43 ∨ 49 < q → τ3 q = τ q) (z3 : ∀ q, q ≠ 111 → q ≠ 116 → ρ3 q = ρ q) (z4 : ∀ j, j < 6 → ρ3 111 j = ρ 111 j) : Rel (st τ3 42 1 0) (st ρ3 111 5 0) := by
  obtain ⟨a, b, c, d, e, f, g⟩ := h
  have t1 : ∀ q, q < 41 ∨ q = 43 ∨ 49 < q → st τ3 42 1 0 q = τ q := fun q hq => by rw [st_ne (by omega), z1 q hq]
  have t2 : ∀ q, q ≠ 111 → q ≠ 116 → st ρ3 111 5 0 q = ρ q := fun q q1 q2 => by rw [st_ne q1, z3 q q1 q2]
  have e112 : st ρ3 111 5 0 112 = ρ 112 := t2 112 (by omega) (by omega)
  exact ⟨by rw [e112]; exact a, by rw [e112]; exact b.frame (fun k _ _ => t1 k (by omega)), c.frame (by rw [t1 0 (by omega)]) (fun q _ _ => t1 q (by omega)) (by rw [st_self, up_ne (by omega), z4 2 (by omega)]) (t2 113 (by omega) (by omega)), ⟨by rw [st_at]; omega, by rw [st_at]; omega, by rw [st_at, st_at], fun i hi => by rw [st_at] at hi; omega⟩, fun i hi => by rw [t1 62 (by omega), t2 114 (by omega) (by omega)]; exact e i hi, f.frame (fun q _ _ => t1 q (by omega)) (t2 134 (by omega) (by omega)) (t2 135 (by omega) (by omega)) (t2 136 (by omega) (by omega)), by rw [e112]; exact g.frame (fun q _ _ => t1 q (by omega))⟩
theorem m_read {p : Nat} (hp : p < 4) {ρ ρ2 ρ3 : Mem} (m1 : X11_step (rd0 ρ) = some ρ2) (m2 : X11_readTextD 8 ρ2 = some ρ3) : (ρ3 111 11 = 1 ∨ (ρ3 111 11 = 0 ∧ 1 ≤ ρ3 111 8 ∧ ρ3 111 8 ≤ 5) → X11_read ρ p = X11_read_B60 ρ3 p 0) ∧ (ρ3 111 11 = 0 → ρ3 111 8 = 0 → X11_read ρ p = X11_read_B60 ρ3 p 1) := by
  have i2 := mPart_t (σ := ρ) (p := (p : Int)) (by omega) (by omega)
  have hh : X11_read ρ p = if w32 (ρ3 111 11) ≠ 0 then X11_read_B59 ρ3 p else if w32 (ρ3 111 8) ≠ 0 then X11_read_B59 ρ3 p else X11_read_B60 ρ3 p 1 := by
    unfold X11_read
    rw [bdk i2, if_pos (by decide), lt_v, lt_v, lt_v, lt_v]
    show bd (X11_step (rd0 ρ)) _ = _
    rw [bdk m1, bdk m2]
  refine ⟨fun c => ?_, fun c1 c2 => ?_⟩
  · rcases c with c | ⟨c1, c2, c3⟩
    · rw [hh, c, if_pos (by decide)]; rfl
    · rw [hh, c1, if_neg (by decide), if_pos (by rw [w32_id (by omega) (by omega)]; omega)]; rfl
  · rw [hh, c1, c2, if_neg (by decide), if_neg (by decide)]
theorem sim_read {a : Int} (ha : inR a) : Sim (fun τ => X10_read τ a) (fun ρ => X11_read ρ a) := by
  intro τ ρ h
  by_cases h1 : 0 ≤ a ∧ a ≤ 3
  · obtain ⟨p, rfl⟩ := Int.eq_ofNat_of_zero_le h1.1
    have hp : p < 4 := by omega
    have i1 := isPart_t (σ := τ) (p := (p : Int)) h1.1 h1.2
    obtain ⟨d1, d2, d3, d4⟩ := h.2.2.2.1
    obtain ⟨n, hn⟩ : ∃ n : Nat, τ 42 1 = n := ⟨(τ 42 1).toNat, by omega⟩
    have hby : byR τ (ρ 115) n := ⟨hn, by omega, fun i hi => d4 i (by omega)⟩
    have hrb : rbR ρ (ρ 115) n := ⟨by omega, by omega, fun i hi => ⟨rfl, by have := d4 i (by omega); omega, by have := d4 i (by omega); omega⟩⟩
    obtain ⟨v, τ3, ρ2, ρ3, s1, s2, s3, z1, z2, z3, z4, s4⟩ := find_sim hby hrb
    have hrel := rel_rd h z1 z3 z4
    obtain ⟨mb, mg⟩ := m_read hp s2 s3
    have f1 : ∀ q, 111 ≤ q → st τ3 42 1 0 q = τ q := fun q hq => by rw [st_ne (by omega), z1 q (by omega)]
    have f2 : ∀ q, q < 111 → st ρ3 111 5 0 q = ρ q := fun q hq => by rw [st_ne (by omega), z3 q (by omega) (by omega)]
    rcases s4 with ⟨v1, v2, v3⟩ | ⟨v1, v2, v3, v4⟩
    · have e1 : X10_read τ p = some ((-1) - v, st τ3 42 1 0) := by
        unfold X10_read
        rw [bdk i1, if_pos (by decide), bd2k s1, lt_v, if_neg (by rw [w32_id (by omega) (by omega)]; omega)]
      have e2 : X11_read ρ p = some ((-1) - v, st ρ3 111 5 0) := by
        rw [mb v3]
        unfold X11_read_B60
        rw [lt_v, if_neg (by decide), st_self, up_ne (by omega), v2]
      exact ⟨_, _, _, e1, e2, hrel, f1, f2⟩
    · have e41 : st τ3 42 1 0 41 = τ3 41 := st_ne (by omega)
      have e47 : st τ3 42 1 0 47 = τ3 47 := st_ne (by omega)
      have e116 : st ρ3 111 5 0 116 = ρ3 116 := st_ne (by omega)
      have e13 : st ρ3 111 5 0 111 13 = ρ3 111 13 := by rw [st_self, up_ne (by omega)]
      have g2 := mg v2 v3
      have hd1 : X10_read τ p = if w32 (τ3 41 4) ≠ 0 then X10_read_B82 (st τ3 42 1 0) else bd2 (X5_append (st τ3 42 1 0) (9 + 3 * p) 47 (τ3 41 3)) fun r6 s7 => if w32 r6 ≠ 0 then bd (X10_forgetPart s7 p) fun s9 => some (s9 (9 + 3 * p) 2, s9) else X10_read_B82 s7 := by
        unfold X10_read
        rw [bdk i1, if_pos (by decide), bd2k s1, lt_v, v1, if_pos (by decide), ag_nat hp (by decide), e41]
      have hd2 : X11_read ρ p = if w32 (st ρ3 111 5 0 112 (9 + 165 * p) + ρ3 111 13) ≤ w32 40 then X11_read_L103 5000 (st ρ3 111 5 0) p (st ρ3 111 5 0 112 (9 + 165 * p)) 0 else bd2 (X11_finds (st ρ3 111 5 0) 1) fun r3 s4 => some (r3, s4) := by
        rw [g2]
        unfold X11_read_B60
        rw [lt_v, if_pos (by decide), bdk (mbarsN hp), e13]
      have full : X10_read τ p = some (-1000002, tel (st τ3 42 1 0) 1) → X11_read ρ p = some (-1000002, fnd (st ρ3 111 5 0) 1) → ∃ r τ' ρ', X10_read τ p = some (r, τ') ∧ X11_read ρ p = some (r, ρ') ∧ Rel τ' ρ' ∧ (∀ q, 111 ≤ q → τ' q = τ q) ∧ ∀ q, q < 111 → ρ' q = ρ q := fun a b => sim_tell2 (x := fun τ => X10_read τ p) (y := fun ρ => X11_read ρ p) (k := 1) (c := -1000002) hrel f1 f2 (by omega) a b
      have b82 : X10_read_B82 (st τ3 42 1 0) = some (-1000002, tel (st τ3 42 1 0) 1) := by
        unfold X10_read_B82
        rw [bd2k (tell_1 _)]
      have h40 := hrel.1.bars hp
      obtain ⟨n0, hn0⟩ : ∃ n0 : Nat, st ρ3 111 5 0 112 (9 + 165 * p) = n0 := ⟨(st ρ3 111 5 0 112 (9 + 165 * p)).toNat, by omega⟩
      rw [hn0] at hd2 h40
      have fullm : 40 < (n0 : Int) + ρ3 111 13 → ρ3 111 13 ≤ 64 → X11_read ρ p = some (-1000002, fnd (st ρ3 111 5 0) 1) := fun c1 c2 => by
        rw [hd2, if_neg (by rw [w32_id (by omega) (by omega)]; show ¬ _ ≤ (40 : Int); omega), bd2k (finds_1 _)]
      rcases v4 with ⟨w1, R, w2, w3, w4, w5, w6⟩ | ⟨w1, w2, w3, w4⟩
      · rw [w1, if_neg (by decide), w3] at hd1
        rw [w4] at hd2 fullm
        by_cases c : n0 + R ≤ 40
        · obtain ⟨τ4, t1, t2, t3, t4⟩ := c_app hrel.1 hrel.2.1 hp hn0 c (f := ρ3 116) (fun i hi => by rw [e47]; exact w5 i hi)
          obtain ⟨ρ4, u1, u2, u3⟩ := m_appL (ρ1 := st ρ3 111 5 0) hp c (by rw [e13]; exact w4) (4 * R) 0 5000 (st ρ3 111 5 0) (by omega) (by omega) (fun _ _ => rfl) (fun j => by rw [if_neg (by omega)])
          rw [e116] at u3
          have hx : X10_read τ p = some ((n0 : Int) + R, fgp τ4 p) := by
            rw [hd1, bd2k t1, if_pos (by decide), bdk (forgetPart_eq _ _ hp), fgp_ne (by omega) hp, t3]
          have hy : X11_read ρ p = some ((n0 : Int) + R, ρ4) := by
            rw [hd2, if_pos (by rw [w32_id (by omega) (by omega)]; show _ ≤ (40 : Int); omega)]
            exact u1
          have fo : ∀ q, q < 71 ∨ 111 ≤ q → q ≠ 9 + 3 * p → q ≠ 11 + 3 * p → fgp τ4 p q = st τ3 42 1 0 q := fun q q1 q2 q3 => by rw [fgp_ne q1 hp, t2 q q2 q3]
          have hc4 : CRB 1 (ρ4 112) τ4 := by rw [u3]; exact t4
          refine ⟨_, _, _, hx, hy, hrel.row ?_ ?_ ?_ (fun q hq => fo q (by omega) (by omega) (by omega)) (fun q _ hq => u2 q hq), fun q hq => by rw [fo q (by omega) (by omega) (by omega)]; exact f1 q hq, fun q hq => by rw [u2 q (by omega)]; exact f2 q hq⟩
          · rw [u3]; exact apr_wf hrel.1 hp hn0 c w6
          · exact hc4.frame (fun k k1 k2 => fgp_ne (by omega) hp)
          · exact CA.gp hrel.2.2.2.2.2.2 hrel.1 hp (fun q hq hqp => agP_of hrel.1 hrel.2.1 hc4 hq (t2 3 (by omega) (by omega)) (by rw [t2 (9 + 3 * q) (by omega) (by omega)]) (t2 (11 + 3 * q) (by omega) (by omega))) (fun q q1 q2 => t2 q (by omega) (by omega))
        · have hx : X10_read τ p = some (-1000002, tel (st τ3 42 1 0) 1) := by
            have ha0 : X5_append (st τ3 42 1 0) (9 + 3 * p) 47 R = some (0, st τ3 42 1 0) := by
              unfold X5_append
              rw [hrel.2.1.nbars hp, hn0, if_neg (by first | omega | (unfold w32; omega))]
            rw [hd1, bd2k ha0, if_neg (by decide)]
            exact b82
          exact full hx (fullm (by omega) (by omega))
      · rw [w1, if_pos (by decide)] at hd1
        exact full (hd1.trans b82) (fullm (by omega) w2.2)
  · refine sim_tell (x := fun τ => X10_read τ a) (y := fun ρ => X11_read ρ a) (k := 0) (c := -1000001) h (by omega) ?_ ?_
    · show X10_read τ a = _
      unfold X10_read
      rw [bdk (isPart_f h1 ha), if_neg (by decide), bd2k (tell_0 _)]
    · show X11_read ρ a = _
      unfold X11_read
      rw [bdk (mPart_f h1 ha), if_neg (by decide), bd2k (finds_0 _)]
