/-! together, all -/
def td (r : Nat → Int) (p b : Nat) : Int := if tbs r p (nPg r p) b = 0 then 0 else 1
theorem td_01 (r : Nat → Int) (p b : Nat) : 0 ≤ td r p b ∧ td r p b ≤ 1 := by unfold td; split <;> omega
theorem m_noTurns (ρ : Mem) : ∃ ρ', X11_noTurns ρ = some ρ' ∧ (∀ q, q ≠ 133 → ρ' q = ρ q) ∧ ∀ b, b < 40 → ρ' 133 b = 0 := by
  have key : ∀ (n k f : Nat) (υ : Mem), k + n = 40 → n < f → (∀ q, q ≠ 133 → υ q = ρ q) → (∀ b, b < k → υ 133 b = 0) → ∃ ρ', X11_noTurns_L2 f υ k = some ρ' ∧ (∀ q, q ≠ 133 → ρ' q = ρ q) ∧ ∀ b, b < 40 → ρ' 133 b = 0 := by
    intro n
    induction n with
    | zero =>
      intro k f υ h1 h2 h3 h4
      obtain ⟨f, rfl⟩ : ∃ x, f = x + 1 := ⟨f - 1, by omega⟩
      refine ⟨υ, ?_, h3, fun b hb => h4 b (by omega)⟩
      show X11_noTurns_B2 _ _ _ = _
      unfold X11_noTurns_B2
      rw [if_pos (by first | omega | (unfold w32; omega))]
    | succ n ih =>
      intro k f υ h1 h2 h3 h4
      obtain ⟨f, rfl⟩ : ∃ x, f = x + 1 := ⟨f - 1, by omega⟩
      obtain ⟨ρ', t1, t2⟩ := ih (k + 1) f (st υ 133 k 0) (by omega) (by omega) (fun q hq => by rw [st_ne hq, h3 q hq]) (fun b hb => by
        rw [st_self]
        by_cases hbk : b = k
        · rw [hbk, up_at]
        · rw [up_ne hbk]; exact h4 b (by omega))
      refine ⟨ρ', ?_, t2⟩
      show X11_noTurns_B2 _ _ _ = _
      unfold X11_noTurns_B2
      rw [if_neg (by first | omega | (unfold w32; omega)), ag_nat (by omega) (by decide), lt_v, lt_v]
      exact t1
  exact key 40 0 5000 ρ (by omega) (by omega) (fun _ _ => rfl) (fun b hb => by omega)
theorem m_countL {r : Nat → Int} (hw : WF r) {p : Nat} (hp : p < 4) (base : Nat → Int) : ∀ (n k f : Nat) (ρ : Mem), k + n = nPg r p → n < f → LYm r p ρ (nPg r p) → (∀ b, b < 40 → ρ 133 b = base b + (if tbs r p k b = 0 then 0 else 1)) → ∃ ρ', X11_countsTurns_L12 f ρ k = some (1, ρ') ∧ (∀ q, q ≠ 133 → ρ' q = ρ q) ∧ ∀ b, b < 40 → ρ' 133 b = base b + td r p b := by
  have h40 := hw.bars hp
  have hM := nPg_le hw hp
  intro n
  induction n with
  | zero =>
    intro k f ρ h1 h2 h3 h4
    obtain ⟨f, rfl⟩ : ∃ x, f = x + 1 := ⟨f - 1, by omega⟩
    refine ⟨ρ, ?_, fun _ _ => rfl, fun b hb => by rw [h4 b hb, show k = nPg r p by omega]; rfl⟩
    show X11_countsTurns_B12 _ _ _ = _
    unfold X11_countsTurns_B12
    rw [h3.1.1, if_pos (by first | omega | (unfold w32; omega))]
  | succ n ih =>
    intro k f ρ h1 h2 h3 h4
    obtain ⟨f, rfl⟩ : ∃ x, f = x + 1 := ⟨f - 1, by omega⟩
    have hk : k < nPg r p := by omega
    have hf := pgf hw hp hk
    obtain ⟨y1, y2, y3, y4, y5, y6⟩ := h3.2.1 k hk
    have hz : tbs r p k (pz r p k) = 0 := tbs_0 k (fun i hi => by
      have := pz_lt hw hp k i hi (by omega)
      omega)
    have e133 : ρ 133 (pz r p k) = base (pz r p k) := by rw [h4 _ (by omega), if_pos hz, Int.add_zero]
    have cont : ∀ z : Int, z = (if tk r p k = 0 then 0 else 1) → ∃ ρ', X11_countsTurns_B46 (X11_countsTurns_L12 f) ρ k 133 (pz r p k) (base (pz r p k)) z = some (1, ρ') ∧ (∀ q, q ≠ 133 → ρ' q = ρ q) ∧ ∀ b, b < 40 → ρ' 133 b = base b + td r p b := by
      intro z hzz
      obtain ⟨ρ', t1, t2, t3⟩ := ih (k + 1) f (st ρ 133 (pz r p k) (base (pz r p k) + z)) (by omega) (by omega) (by
        obtain ⟨⟨a1, a2, a3⟩, a4, a5⟩ := h3
        refine ⟨⟨by rw [st_ne (by omega)]; exact a1, by rw [st_ne (by omega)]; exact a2, by rw [st_ne (by omega)]; exact a3⟩, fun j hj => ?_, fun j hj => by rw [st_ne (by omega)]; exact a5 j hj⟩
        rw [st_ne (by omega), st_ne (by omega), st_ne (by omega), st_ne (by omega), st_ne (by omega), st_ne (by omega)]
        exact a4 j hj) (fun b hb => by
        rw [st_self]
        show _ = base b + (if (if b = pz r p k then tk r p k else tbs r p k b) = 0 then 0 else 1)
        by_cases hbz : b = pz r p k
        · rw [hbz, up_at, if_pos rfl, hzz]
        · rw [up_ne hbz, if_neg hbz]; exact h4 b hb)
      refine ⟨ρ', ?_, fun q hq => by rw [t2 q hq, st_ne hq], t3⟩
      unfold X11_countsTurns_B46
      rw [ag_nat (by omega) (by decide), lt_v, lt_v]
      exact t1
    show ∃ ρ', X11_countsTurns_B12 _ _ _ = _ ∧ _
    unfold X11_countsTurns_B12
    rw [h3.1.1, if_neg (by first | omega | (unfold w32; omega)), ag_nat (by omega) (by decide), lt_v, y2, ag_nat (by omega) (by decide), ag_nat (by omega) (by decide), y6, e133]
    rcases tk_012 r p k with t | t | t
    · rw [t, if_pos (by decide)]
      exact cont 0 (by rw [t]; rfl)
    · rw [t, if_neg (by decide)]
      exact cont 1 (by rw [t]; rfl)
    · rw [t, if_neg (by decide)]
      exact cont 1 (by rw [t]; rfl)
theorem m_counts {p : Nat} (hp : p < 4) {ρ : Mem} (hw : WF (ρ 112)) : ∃ ρ', X11_countsTurns ρ p = some (if nPg (ρ 112) p = 0 then 0 else 1, ρ') ∧ (∀ q, q < 111 ∨ (111 < q ∧ q < 117) ∨ 133 < q → ρ' q = ρ q) ∧ (∀ j, j < 23 ∨ 25 < j → ρ' 111 j = ρ 111 j) ∧ (∀ b, b < 40 → ρ' 133 b = ρ 133 b + td (ρ 112) p b) ∧ (nPg (ρ 112) p ≠ 0 → ρ' 121 0 = sto (ρ 112) p (nPg (ρ 112) p) ∧ ρ' 122 0 = csS (ρ 112) p (nPg (ρ 112) p)) := by
  have hM := nPg_le hw hp
  obtain ⟨ρ1, t1, t2, t3, t4⟩ := m_laysOut hp hw
  unfold X11_countsTurns
  rw [bd2k t1]
  by_cases c0 : nPg (ρ 112) p = 0
  · rw [if_pos c0, if_neg (by decide)]
    refine ⟨ρ1, rfl, fun q hq => t2 q (by omega), t3, fun b hb => ?_, fun h => absurd c0 h⟩
    rw [t2 133 (by omega)]
    unfold td
    rw [c0]
    show _ = _ + (if (0 : Int) = 0 then 0 else 1)
    rw [if_pos rfl, Int.add_zero]
  · rw [if_neg c0, if_pos (by decide)]
    obtain ⟨u1, u2, u3⟩ := t4 c0
    obtain ⟨ρ2, v1, v2, v3⟩ := m_countL hw hp (ρ 133) (nPg (ρ 112) p) 0 5000 ρ1 (by omega) (by omega) u1 (fun b hb => by rw [t2 133 (by omega)]; show _ = _ + (if (0 : Int) = 0 then 0 else 1); rw [if_pos rfl, Int.add_zero])
    exact ⟨ρ2, v1, fun q hq => by rw [v2 q (by omega), t2 q (by omega)], fun j hj => by rw [v2 111 (by omega), t3 j hj], v3, fun _ => ⟨by rw [v2 121 (by omega)]; exact u2, by rw [v2 122 (by omega)]; exact u3⟩⟩
def cnF (F : Nat → Int) : Nat → Nat → Int
  | 0, _ => 0
  | n + 1, b => (if F b < 2 then 0 else 1) + cnF F n (b + 1)
theorem m_turnsFrom {F : Nat → Int} {ρ : Mem} (hF : ∀ b, b < 40 → ρ 133 b = F b ∧ 0 ≤ F b ∧ F b ≤ 4) : ∀ (n b f : Nat) (acc : Int), b + n = 40 → n < f → X11_turnsFrom_L4 ρ f 2 acc b = some (acc + cnF F n b) := by
  intro n
  induction n with
  | zero =>
    intro b f acc h1 h2
    obtain ⟨f, rfl⟩ : ∃ x, f = x + 1 := ⟨f - 1, by omega⟩
    show X11_turnsFrom_B4 _ _ _ _ _ = some (acc + 0)
    unfold X11_turnsFrom_B4
    rw [if_pos (by first | omega | (unfold w32; omega)), Int.add_zero]
  | succ n ih =>
    intro b f acc h1 h2
    obtain ⟨f, rfl⟩ : ∃ x, f = x + 1 := ⟨f - 1, by omega⟩
    have hb := hF b (by omega)
    show X11_turnsFrom_B4 _ _ _ _ _ = some (acc + ((if F b < 2 then 0 else 1) + cnF F n (b + 1)))
    unfold X11_turnsFrom_B4 X11_turnsFrom_B26
    rw [if_neg (by first | omega | (unfold w32; omega)), ag_nat (by omega) (by decide), hb.1]
    by_cases c : F b < 2
    · rw [if_pos (by first | omega | (unfold w32; omega)), if_pos c, lt_v, lt_v, Int.add_zero, Int.zero_add]
      exact ih (b + 1) f acc (by omega) (by omega)
    · rw [if_neg (by first | omega | (unfold w32; omega)), if_neg c, lt_v, lt_v, ← Int.add_assoc]
      exact ih (b + 1) f (acc + 1) (by omega) (by omega)
theorem tbs_w {r : Nat → Int} {p b : Nat} : ∀ m, w32 (tbs r p m b) = 0 ↔ tbs r p m b = 0
  | 0 => ⟨fun _ => rfl, fun _ => by show w32 0 = 0; rfl⟩
  | m + 1 => by
    show w32 (if b = pz r p m then tk r p m else tbs r p m b) = 0 ↔ (if b = pz r p m then tk r p m else tbs r p m b) = 0
    split
    · rcases tk_012 r p m with t | t | t <;> rw [t] <;> decide
    · exact tbs_w m
theorem c_together {r : Nat → Int} {p q : Nat} {τ : Mem} (hp : LYc r p τ (nPg r p)) (hq : LYc r q τ (nPg r q)) : ∀ (n b f : Nat) (acc : Int), b + n = 40 → n < f → X10_together_L67 f τ (73 + 10 * p) (73 + 10 * q) acc b = some (acc + cnF (fun b => td r p b + td r q b) n b, τ) := by
  intro n
  induction n with
  | zero =>
    intro b f acc h1 h2
    obtain ⟨f, rfl⟩ : ∃ x, f = x + 1 := ⟨f - 1, by omega⟩
    show X10_together_B67 _ _ _ _ _ _ = some (acc + 0, τ)
    unfold X10_together_B67
    rw [if_pos (by first | omega | (unfold w32; omega)), Int.add_zero]
  | succ n ih =>
    intro b f acc h1 h2
    obtain ⟨f, rfl⟩ : ∃ x, f = x + 1 := ⟨f - 1, by omega⟩
    have e1 := hp.2.2.2 b (by omega)
    have e2 := hq.2.2.2 b (by omega)
    have d1 := td_01 r p b
    have d2 := td_01 r q b
    show X10_together_B67 _ _ _ _ _ _ = some (acc + ((if td r p b + td r q b < 2 then 0 else 1) + cnF (fun b => td r p b + td r q b) n (b + 1)), τ)
    unfold X10_together_B67 X10_together_B98
    rw [if_neg (by first | omega | (unfold w32; omega)), ag_nat (by omega) (by decide), e1]
    by_cases c1 : tbs r p (nPg r p) b = 0
    · have t1 : td r p b = 0 := if_pos c1
      rw [if_pos ((tbs_w _).mpr c1), lt_v, if_pos (by omega), Int.zero_add]
      exact ih (b + 1) f acc (by omega) (by omega)
    · have t1 : td r p b = 1 := if_neg c1
      rw [if_neg (fun c => c1 ((tbs_w _).mp c)), ag_nat (by omega) (by decide), e2]
      by_cases c2 : tbs r q (nPg r q) b = 0
      · have t2 : td r q b = 0 := if_pos c2
        rw [if_pos ((tbs_w _).mpr c2), lt_v, if_pos (by omega), Int.zero_add]
        exact ih (b + 1) f acc (by omega) (by omega)
      · have t2 : td r q b = 1 := if_neg c2
        rw [if_neg (fun c => c2 ((tbs_w _).mp c)), lt_v, lt_v, if_neg (by omega), ← Int.add_assoc]
        exact ih (b + 1) f (acc + 1) (by omega) (by omega)
theorem sim_together {a b : Int} (ha : inR a) (hb : inR b) : Sim (fun τ => X10_together τ a b) (fun ρ => X11_together ρ a b) := by
  intro τ ρ h
  have nobody : ∀ (r1 r2 : Int), X10_isPart τ a = some r1 → X11_isPart ρ a = some r1 → X10_isPart τ b = some r2 → X11_isPart ρ b = some r2 → (r1 = 0 ∨ (r1 = 1 ∧ (r2 = 0 ∨ (r2 = 1 ∧ a = b)))) → ∃ r τ' ρ', X10_together τ a b = some (r, τ') ∧ X11_together ρ a b = some (r, ρ') ∧ Rel τ' ρ' ∧ (∀ q, 111 ≤ q → τ' q = τ q) ∧ ∀ q, q < 111 → ρ' q = ρ q := by
    intro r1 r2 e1 e2 e3 e4 e5
    refine sim_tell (x := fun τ => X10_together τ a b) (y := fun ρ => X11_together ρ a b) (k := 0) (c := -1000001) h (by omega) ?_ ?_
    · show X10_together τ a b = _
      unfold X10_together X10_together_B19
      rw [bdk e1]
      rcases e5 with e5 | ⟨e5, e6 | ⟨e6, e7⟩⟩
      · rw [e5, if_pos (by decide), bd2k (tell_0 τ)]
      · rw [e5, if_neg (by decide), bdk e3, e6, if_pos (by decide), bd2k (tell_0 τ)]
      · rw [e5, if_neg (by decide), bdk e3, e6, if_neg (by decide), e7, if_neg (by simp), bd2k (tell_0 τ)]
    · show X11_together ρ a b = _
      unfold X11_together X11_together_B19
      rw [bdk e2]
      rcases e5 with e5 | ⟨e5, e6 | ⟨e6, e7⟩⟩
      · rw [e5, if_pos (by decide), bd2k (finds_0 ρ)]
      · rw [e5, if_neg (by decide), bdk e4, e6, if_pos (by decide), bd2k (finds_0 ρ)]
      · rw [e5, if_neg (by decide), bdk e4, e6, if_neg (by decide), e7, if_neg (by simp), bd2k (finds_0 ρ)]
  by_cases h1 : 0 ≤ a ∧ a ≤ 3
  · by_cases h2 : 0 ≤ b ∧ b ≤ 3
    · by_cases h3 : a = b
      · exact nobody 1 1 (isPart_t h1.1 h1.2) (mPart_t h1.1 h1.2) (isPart_t h2.1 h2.2) (mPart_t h2.1 h2.2) (Or.inr ⟨rfl, Or.inr ⟨rfl, h3⟩⟩)
      · obtain ⟨p, rfl⟩ := Int.eq_ofNat_of_zero_le h1.1
        obtain ⟨q, rfl⟩ := Int.eq_ofNat_of_zero_le h2.1
        have hp : p < 4 := by omega
        have hq : q < 4 := by omega
        have hne : p ≠ q := fun c => h3 (by rw [c])
        obtain ⟨τ1, t1, t2, t3, t4, t5, t6⟩ := c_layingOf h.1 hp h.2.1 h.2.2.2.2.2.2
        have hc1 : CRB 1 (ρ 112) τ1 := h.2.1.frame (fun k _ _ => t2 k (by omega))
        obtain ⟨τ2, u1, u2, u3, u4, u5, u6⟩ := c_layingOf h.1 hq hc1 t5
        have ly1 : LYc (ρ 112) p τ2 (nPg (ρ 112) p) := t6.frame (fun k _ _ => u4 k (by omega) (by omega))
        have n1 := c_isNone ly1.1.1 (nPg_le h.1 hp)
        have n2 := c_isNone u6.1.1 (nPg_le h.1 hq)
        obtain ⟨ρ0, v1, v2, v3⟩ := m_noTurns ρ
        have e0 : ρ0 112 = ρ 112 := v2 112 (by omega)
        obtain ⟨ρ1, x1, x2, x3, x4, x5⟩ := m_counts hp (ρ := ρ0) (by rw [e0]; exact h.1)
        rw [e0] at x1 x4 x5
        have e1 : ρ1 112 = ρ 112 := by rw [x2 112 (by omega), e0]
        obtain ⟨ρ2, y1, y2, y3, y4, y5⟩ := m_counts hq (ρ := ρ1) (by rw [e1]; exact h.1)
        rw [e1] at y1 y4 y5
        have rel1 : Rel τ2 ρ1 := h.junk (fun k hk => by rw [u2 k (by omega), t2 k (by omega)]) u5 (fun k hk => by rw [x2 k (by omega), v2 k (by omega)]) (by rw [x3 2 (by omega), v2 111 (by omega)]) (by rw [x3 5 (by omega), v2 111 (by omega)])
        have rel2 : Rel τ2 ρ2 := h.junk (fun k hk => by rw [u2 k (by omega), t2 k (by omega)]) u5 (fun k hk => by rw [y2 k (by omega), x2 k (by omega), v2 k (by omega)]) (by rw [y3 2 (by omega), x3 2 (by omega), v2 111 (by omega)]) (by rw [y3 5 (by omega), x3 5 (by omega), v2 111 (by omega)])
        have ft : ∀ k, 111 ≤ k → τ2 k = τ k := fun k hk => by rw [u2 k (by omega), t2 k (by omega)]
        have fr1 : ∀ k, k < 111 → ρ1 k = ρ k := fun k hk => by rw [x2 k (by omega), v2 k (by omega)]
        have fr2 : ∀ k, k < 111 → ρ2 k = ρ k := fun k hk => by rw [y2 k (by omega), fr1 k hk]
        have i1 := isPart_t (σ := τ) h1.1 h1.2
        have i2 := mPart_t (σ := ρ) h1.1 h1.2
        have j1 := isPart_t (σ := τ) h2.1 h2.2
        have j2 := mPart_t (σ := ρ) h2.1 h2.2
        have cls : X10_together τ p q = if nPg (ρ 112) p = 0 ∨ nPg (ρ 112) q = 0 then some (-1000004, tel τ2 3) else some (0 + cnF (fun b => td (ρ 112) p b + td (ρ 112) q b) 40 0, τ2) := by
          unfold X10_together X10_together_B54
          rw [bdk i1, if_neg (by decide), bdk j1, if_neg (by decide), if_pos (by first | omega | (unfold w32; omega)), bd2k t1, kg_ok (kd73 hp), bd2k u1, kg_ok (kd73 hq), bdk n1]
          by_cases c1 : nPg (ρ 112) p = 0
          · rw [if_pos c1, if_pos (by decide), bd2k (tell_3 τ2), if_pos (Or.inl c1)]
          · rw [if_neg c1, if_neg (by decide), bdk n2]
            by_cases c2 : nPg (ρ 112) q = 0
            · rw [if_pos c2, if_neg (by decide), bd2k (tell_3 τ2), if_pos (Or.inr c2)]
            · rw [if_neg c2, if_pos (by decide), if_neg (fun c => c.elim c1 c2)]
              exact c_together ly1 u6 40 0 5000 0 (by omega) (by omega)
        have ref : X11_together ρ p q = if nPg (ρ 112) p = 0 then some (-1000004, fnd ρ1 3) else if nPg (ρ 112) q = 0 then some (-1000004, fnd ρ2 3) else some (0 + cnF (fun b => td (ρ 112) p b + td (ρ 112) q b) 40 0, ρ2) := by
          unfold X11_together X11_together_B53
          rw [bdk i2, if_neg (by decide), bdk j2, if_neg (by decide), if_pos (by first | omega | (unfold w32; omega)), bdk v1, bd2k x1]
          by_cases c1 : nPg (ρ 112) p = 0
          · rw [if_pos c1, if_pos (by decide), bd2k (finds_3 ρ1), if_pos c1]
          · rw [if_neg c1, if_neg (by decide), bd2k y1, if_neg c1]
            by_cases c2 : nPg (ρ 112) q = 0
            · rw [if_pos c2, if_pos (by decide), bd2k (finds_3 ρ2), if_pos c2]
            · have hF : ∀ b, b < 40 → ρ2 133 b = (fun b => td (ρ 112) p b + td (ρ 112) q b) b ∧ 0 ≤ (fun b => td (ρ 112) p b + td (ρ 112) q b) b ∧ (fun b => td (ρ 112) p b + td (ρ 112) q b) b ≤ 4 := fun b hb => by
                have d1 := td_01 (ρ 112) p b
                have d2 := td_01 (ρ 112) q b
                refine ⟨by rw [y4 b hb, x4 b hb, v3 b hb, Int.zero_add], ?_, ?_⟩
                · show 0 ≤ td (ρ 112) p b + td (ρ 112) q b; omega
                · show td (ρ 112) p b + td (ρ 112) q b ≤ 4; omega
              have := m_turnsFrom hF 40 0 5000 0 (by omega) (by omega)
              have t2' : X11_turnsFrom ρ2 2 = some (0 + cnF (fun b => td (ρ 112) p b + td (ρ 112) q b) 40 0) := this
              rw [if_neg c2, if_neg (by decide), bdk t2', if_neg c2]
        by_cases c1 : nPg (ρ 112) p = 0
        · rw [if_pos (Or.inl c1)] at cls
          rw [if_pos c1] at ref
          exact sim_tell2 (x := fun τ => X10_together τ p q) (y := fun ρ => X11_together ρ p q) (k := 3) rel1 ft fr1 (by omega) cls ref
        · rw [if_neg c1] at ref
          by_cases c2 : nPg (ρ 112) q = 0
          · rw [if_pos (Or.inr c2)] at cls
            rw [if_pos c2] at ref
            exact sim_tell2 (x := fun τ => X10_together τ p q) (y := fun ρ => X11_together ρ p q) (k := 3) rel2 ft fr2 (by omega) cls ref
          · rw [if_neg (fun c => c.elim c1 c2)] at cls
            rw [if_neg c2] at ref
            exact ⟨_, τ2, ρ2, cls, ref, rel2, ft, fr2⟩
    · exact nobody 1 0 (isPart_t h1.1 h1.2) (mPart_t h1.1 h1.2) (isPart_f h2 hb) (mPart_f h2 hb) (Or.inr ⟨rfl, Or.inl rfl⟩)
  · exact nobody 0 _ (isPart_f h1 ha) (mPart_f h1 ha) (isPart_if hb) (mPart_if hb) (Or.inl rfl)
