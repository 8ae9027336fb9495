/-! the relation of both sides -/
def SH (τ ρ : Mem) : Prop := ∀ s, s < 4 → okBits (ρ 134 s) ∧ τ (63 + 2 * s) 1 = ρ 134 s ∧ τ (63 + 2 * s) 2 = ρ 135 s ∧ (0 ≤ ρ 135 s ∧ ρ 135 s ≤ 40) ∧ ∀ i, i < 40 → nrel (τ (64 + 2 * s) i) (ρ 136 (40 * s + i))
def KP (τ ρ : Mem) : Prop := (τ 0 2 = 0 ∧ ρ 111 2 = 0) ∨ (τ 0 2 = 1 ∧ ρ 111 2 = 1 ∧ WF (ρ 113) ∧ CRB 21 (ρ 113) τ)
def Rel (τ ρ : Mem) : Prop := WF (ρ 112) ∧ CRB 1 (ρ 112) τ ∧ KP τ ρ ∧ TR τ ρ ∧ (∀ i, i < 7 → τ 62 i = ρ 114 i) ∧ SH τ ρ ∧ CA (ρ 112) τ
def Sim (x y : Mem → Option (Int × Mem)) : Prop := ∀ τ ρ, Rel τ ρ → ∃ r τ' ρ', x τ = some (r, τ') ∧ y ρ = some (r, ρ') ∧ Rel τ' ρ' ∧ (∀ q, 111 ≤ q → τ' q = τ q) ∧ ∀ q, q < 111 → ρ' q = ρ q
theorem KP.frame {τ ρ τ' ρ' : Mem} (h : KP τ ρ) (h0 : τ' 0 2 = τ 0 2) (h1 : ∀ q, 21 ≤ q → q < 41 → τ' q = τ q) (h2 : ρ' 111 2 = ρ 111 2) (h3 : ρ' 113 = ρ 113) : KP τ' ρ' := by
  rcases h with ⟨a, b⟩ | ⟨a, b, c, d⟩
  · exact Or.inl ⟨by rw [h0]; exact a, by rw [h2]; exact b⟩
  · exact Or.inr ⟨by rw [h0]; exact a, by rw [h2]; exact b, by rw [h3]; exact c, by rw [h3]; exact d.frame (fun k k1 k2 => h1 k k1 (by omega))⟩
theorem TR.frame {τ ρ τ' ρ' : Mem} (h : TR τ ρ) (h1 : τ' 42 1 = τ 42 1) (h2 : τ' 43 = τ 43) (h3 : ρ' 111 5 = ρ 111 5) (h4 : ρ' 115 = ρ 115) : TR τ' ρ' := by
  obtain ⟨a, b, c, d⟩ := h
  exact ⟨by rw [h1]; exact a, by rw [h1]; exact b, by rw [h1, h3]; exact c, fun i hi => by rw [h2, h4]; exact d i (by rw [← h1]; exact hi)⟩
theorem SH.frame {τ ρ τ' ρ' : Mem} (h : SH τ ρ) (h1 : ∀ q, 63 ≤ q → q < 71 → τ' q = τ q) (h2 : ρ' 134 = ρ 134) (h3 : ρ' 135 = ρ 135) (h4 : ρ' 136 = ρ 136) : SH τ' ρ' := fun s hs => by
  obtain ⟨a, b, c, d, e⟩ := h s hs
  rw [h1 _ (by omega) (by omega), h1 (64 + 2 * s) (by omega) (by omega), h2, h3, h4]
  exact ⟨a, b, c, d, e⟩
/-- what does not matter -/
theorem Rel.junk {τ ρ τ' ρ' : Mem} (h : Rel τ ρ) (h1 : ∀ q, q < 41 ∨ q = 42 ∨ q = 43 ∨ (61 < q ∧ q < 71) → τ' q = τ q) (ha : CA (ρ 112) τ') (h2 : ∀ q, (111 < q ∧ q < 116) ∨ 133 < q → ρ' q = ρ q) (h3 : ρ' 111 2 = ρ 111 2) (h4 : ρ' 111 5 = ρ 111 5) : Rel τ' ρ' := by
  obtain ⟨a, b, c, d, e, f, g⟩ := h
  have e112 : ρ' 112 = ρ 112 := h2 112 (by omega)
  refine ⟨by rw [e112]; exact a, by rw [e112]; exact b.frame (fun k _ _ => h1 k (by omega)), c.frame (by rw [h1 0 (by omega)]) (fun q _ _ => h1 q (by omega)) h3 (h2 113 (by omega)), d.frame (by rw [h1 42 (by omega)]) (h1 43 (by omega)) h4 (h2 115 (by omega)), fun i hi => by rw [h1 62 (by omega), h2 114 (by omega)]; exact e i hi, f.frame (fun q _ _ => h1 q (by omega)) (h2 134 (by omega)) (h2 135 (by omega)) (h2 136 (by omega)), by rw [e112]; exact ha⟩
theorem Rel.congr {τ ρ τ' ρ' : Mem} (h : Rel τ ρ) (h1 : ∀ q, q < 111 → τ' q = τ q) (h2 : ∀ q, 111 ≤ q → ρ' q = ρ q) : Rel τ' ρ' := h.junk (fun q _ => h1 q (by omega)) (h.2.2.2.2.2.2.frame (fun q _ _ => h1 q (by omega))) (fun q _ => h2 q (by omega)) (by rw [h2 111 (by omega)]) (by rw [h2 111 (by omega)])
theorem Sim.step {x y : Mem → Option (Int × Mem)} (h : Sim x y) {σ : Mem} (hi : Rel σ σ) : ∃ (r : Int) (σ1 σ2 : Mem), x σ = some (r, σ1) ∧ y σ1 = some (r, σ2) ∧ Rel σ2 σ2 := by
  obtain ⟨r, τ', ρ', a, b, c, d, e⟩ := h σ σ hi
  obtain ⟨r2, τ2, ρ2, a2, b2, c2, d2, e2⟩ := h σ τ' (hi.congr (fun _ _ => rfl) d)
  rw [a] at a2
  have hh := Option.some.inj a2
  have h1 : r = r2 := congrArg Prod.fst hh
  have h2 : τ' = τ2 := congrArg Prod.snd hh
  subst h1
  subst h2
  exact ⟨r, τ', ρ2, a, b2, c2.congr e2 (fun _ _ => rfl)⟩
theorem Rel.tell {τ ρ : Mem} (h : Rel τ ρ) {k : Nat} (hk : k < 7) : Rel (tel τ k) (fnd ρ k) := by
  obtain ⟨a, b, c, d, e, f, g⟩ := h
  have t1 : ∀ q, q ≠ 62 → tel τ k q = τ q := fun q hq => st_ne hq
  have t2 : ∀ q, q ≠ 114 → fnd ρ k q = ρ q := fun q hq => st_ne hq
  have e112 : fnd ρ k 112 = ρ 112 := t2 112 (by omega)
  refine ⟨by rw [e112]; exact a, by rw [e112]; exact b.frame (fun k _ _ => t1 k (by omega)), c.frame (by rw [t1 0 (by omega)]) (fun q _ _ => t1 q (by omega)) (by rw [t2 111 (by omega)]) (t2 113 (by omega)), d.frame (by rw [t1 42 (by omega)]) (t1 43 (by omega)) (by rw [t2 111 (by omega)]) (t2 115 (by omega)), fun i hi => ?_, f.frame (fun q _ _ => t1 q (by omega)) (t2 134 (by omega)) (t2 135 (by omega)) (t2 136 (by omega)), by rw [e112]; exact g.frame (fun q _ _ => t1 q (by omega))⟩
  unfold tel fnd
  rw [st_self, st_self, e k hk]
  by_cases hik : i = k
  · rw [hik, up_at, up_at]
  · rw [up_ne hik, up_ne hik]; exact e i hi
theorem sim_tell {x y : Mem → Option (Int × Mem)} {τ ρ : Mem} (h : Rel τ ρ) {k : Nat} (hk : k < 7) {c : Int} (hx : x τ = some (c, tel τ k)) (hy : y ρ = some (c, fnd ρ k)) : ∃ r τ' ρ', x τ = some (r, τ') ∧ y ρ = some (r, ρ') ∧ Rel τ' ρ' ∧ (∀ q, 111 ≤ q → τ' q = τ q) ∧ ∀ q, q < 111 → ρ' q = ρ q := ⟨c, _, _, hx, hy, h.tell hk, fun q hq => st_ne (by omega), fun q hq => st_ne (by omega)⟩
/-- the same, with what was reckoned in between -/
theorem sim_tell2 {x y : Mem → Option (Int × Mem)} {τ ρ τ1 ρ1 : Mem} (h : Rel τ1 ρ1) (f1 : ∀ q, 111 ≤ q → τ1 q = τ q) (f2 : ∀ q, q < 111 → ρ1 q = ρ q) {k : Nat} (hk : k < 7) {c : Int} (hx : x τ = some (c, tel τ1 k)) (hy : y ρ = some (c, fnd ρ1 k)) : ∃ r τ' ρ', x τ = some (r, τ') ∧ y ρ = some (r, ρ') ∧ Rel τ' ρ' ∧ (∀ q, 111 ≤ q → τ' q = τ q) ∧ ∀ q, q < 111 → ρ' q = ρ q := ⟨c, _, _, hx, hy, h.tell hk, fun q hq => by rw [← f1 q hq]; exact st_ne (by omega), fun q hq => by rw [← f2 q hq]; exact st_ne (by omega)⟩
theorem nPg_le {r : Nat → Int} (hw : WF r) {p : Nat} (hp : p < 4) : nPg r p ≤ 40 := by
  cases h0 : bL r r p 0 0 with
  | none => unfold nPg; rw [h0]; show (0 : Int).toNat ≤ 40; decide
  | some w0 => exact (nPg_end hw hp h0).2.1
theorem lle_le {r : Nat → Int} (hw : WF r) {p : Nat} (hp : p < 4) : (lle r p (nPg r p)).length ≤ 40 := by
  have h40 := hw.bars hp
  cases h0 : bL r r p 0 0 with
  | none =>
    have : nPg r p = 0 := by unfold nPg; rw [h0]; rfl
    rw [this]; show 0 ≤ 40; omega
  | some w0 =>
    have h1 := lle_len hw hp (nPg r p) (Nat.le_refl _)
    have h2 := (nPg_end hw hp h0).2.2.1
    omega
theorem laySim {τ ρ : Mem} (h : Rel τ ρ) {p : Nat} (hp : p < 4) : ∃ τ' ρ', X10_layingOf τ p = some (73 + 10 * p, τ') ∧ X11_laysOut ρ p = some (if nPg (ρ 112) p = 0 then 0 else 1, ρ') ∧ Rel τ' ρ' ∧ (∀ q, 111 ≤ q → τ' q = τ q) ∧ (∀ q, q < 111 → ρ' q = ρ q) ∧ ρ' 112 = ρ 112 ∧ LYc (ρ 112) p τ' (nPg (ρ 112) p) ∧ (nPg (ρ 112) p ≠ 0 → LYm (ρ 112) p ρ' (nPg (ρ 112) p) ∧ ρ' 121 0 = sto (ρ 112) p (nPg (ρ 112) p) ∧ ρ' 122 0 = csS (ρ 112) p (nPg (ρ 112) p)) ∧ (∀ q, 71 ≤ q → q < 71 + 10 * p ∨ 80 + 10 * p < q → τ' q = τ q) ∧ ρ' 133 = ρ 133 := by
  obtain ⟨τ', t1, t2, t3, t4, t5, t6⟩ := c_layingOf h.1 hp h.2.1 h.2.2.2.2.2.2
  obtain ⟨ρ', u1, u2, u3, u4⟩ := m_laysOut hp h.1
  exact ⟨τ', ρ', t1, u1, h.junk (fun q hq => t2 q (by omega)) t5 (fun q hq => u2 q (by omega)) (u3 2 (by omega)) (u3 5 (by omega)), fun q hq => t2 q (by omega), fun q hq => u2 q (by omega), u2 112 (by omega), t6, u4, t4, u2 133 (by omega)⟩
theorem kd73 {p : Nat} (hp : p < 4) : kd (73 + 10 * p) = 2 := by
  rcases (by omega : p = 0 ∨ p = 1 ∨ p = 2 ∨ p = 3) with rfl | rfl | rfl | rfl <;> rfl
theorem c_isNone {τ : Mem} {l M : Nat} (h : τ l 0 = M) (hM : M ≤ 40) : X2_isNone τ l = some (if M = 0 then 1 else 0) := by
  unfold X2_isNone
  rw [h]
  by_cases c : M = 0
  · rw [if_neg (by first | omega | (unfold w32; omega)), if_pos c]
  · rw [if_pos (by first | omega | (unfold w32; omega)), if_neg c]
theorem sim_best {a b : Int} (ha : inR a) (hb : inR b) : Sim (fun τ => X10_best τ a b) (fun ρ => X11_best ρ a b) := by
  intro τ ρ h
  have w2 : w32 b = b := w32_id hb.1 hb.2
  have nobody : ∀ (r1 r2 : Int), X10_isPart τ a = some r1 → X11_isPart ρ a = some r1 → X10_within τ b 0 4 = some r2 → X11_in ρ b 0 4 = some r2 → (r1 = 0 ∨ (r1 = 1 ∧ r2 = 0)) → ∃ r τ' ρ', X10_best τ a b = some (r, τ') ∧ X11_best ρ a b = some (r, ρ') ∧ Rel τ' ρ' ∧ (∀ q, 111 ≤ q → τ' q = τ q) ∧ ∀ q, q < 111 → ρ' q = ρ q := by
    intro r1 r2 e1 e2 e3 e4 e5
    refine sim_tell (x := fun τ => X10_best τ a b) (y := fun ρ => X11_best ρ a b) (k := 0) (c := -1000001) h (by omega) ?_ ?_
    · show X10_best τ a b = _
      unfold X10_best X10_best_B16
      rcases e5 with e5 | ⟨e5, e6⟩
      · ((repeat (first | with_reducible refine (ag_ok (by omega) (by omega) (by decide)).trans ?_ | rewrite [lt_v] | rewrite [bd_some] | rewrite [bd2_some] | rewrite [bdk (e1)] | rewrite [bd2k (tell_0 τ)] | with_reducible refine (if_pos (by first | omega | (unfold w32; omega))).trans ?_ | with_reducible refine (if_neg (by first | omega | (unfold w32; omega))).trans ?_)); (repeat (first | with_reducible refine Eq.trans ?_ (if_pos (by first | omega | (unfold w32; omega))).symm | with_reducible refine Eq.trans ?_ (if_neg (by first | omega | (unfold w32; omega))).symm)); try rfl)
      · ((repeat (first | with_reducible refine (ag_ok (by omega) (by omega) (by decide)).trans ?_ | rewrite [lt_v] | rewrite [bd_some] | rewrite [bd2_some] | rewrite [bdk (e1)] | rewrite [bdk (e3)] | rewrite [bd2k (tell_0 τ)] | with_reducible refine (if_pos (by first | omega | (unfold w32; omega))).trans ?_ | with_reducible refine (if_neg (by first | omega | (unfold w32; omega))).trans ?_)); (repeat (first | with_reducible refine Eq.trans ?_ (if_pos (by first | omega | (unfold w32; omega))).symm | with_reducible refine Eq.trans ?_ (if_neg (by first | omega | (unfold w32; omega))).symm)); try rfl)
    · show X11_best ρ a b = _
      unfold X11_best X11_best_B19
      rw [w2]
      rcases e5 with e5 | ⟨e5, e6⟩
      · ((repeat (first | with_reducible refine (ag_ok (by omega) (by omega) (by decide)).trans ?_ | rewrite [lt_v] | rewrite [bd_some] | rewrite [bd2_some] | rewrite [bdk (e2)] | rewrite [bd2k (finds_0 ρ)] | with_reducible refine (if_pos (by first | omega | (unfold w32; omega))).trans ?_ | with_reducible refine (if_neg (by first | omega | (unfold w32; omega))).trans ?_)); (repeat (first | with_reducible refine Eq.trans ?_ (if_pos (by first | omega | (unfold w32; omega))).symm | with_reducible refine Eq.trans ?_ (if_neg (by first | omega | (unfold w32; omega))).symm)); try rfl)
      · ((repeat (first | with_reducible refine (ag_ok (by omega) (by omega) (by decide)).trans ?_ | rewrite [lt_v] | rewrite [bd_some] | rewrite [bd2_some] | rewrite [bdk (e2)] | rewrite [bdk (e4)] | rewrite [bd2k (finds_0 ρ)] | with_reducible refine (if_pos (by first | omega | (unfold w32; omega))).trans ?_ | with_reducible refine (if_neg (by first | omega | (unfold w32; omega))).trans ?_)); (repeat (first | with_reducible refine Eq.trans ?_ (if_pos (by first | omega | (unfold w32; omega))).symm | with_reducible refine Eq.trans ?_ (if_neg (by first | omega | (unfold w32; omega))).symm)); try rfl)
  by_cases h1 : 0 ≤ a ∧ a ≤ 3
  · by_cases h2 : 0 ≤ b ∧ b ≤ 4
    · obtain ⟨p, rfl⟩ := Int.eq_ofNat_of_zero_le h1.1
      have hp : p < 4 := by omega
      obtain ⟨τ', ρ', s1, s2, s3, s4, s5, s6, s7, s8, _, _⟩ := laySim h hp
      obtain ⟨⟨l1, l2, l3, l4, l5⟩, _⟩ := s7
      have i1 := isPart_t (σ := τ) h1.1 h1.2
      have i2 := mPart_t (σ := ρ) h1.1 h1.2
      have j1 := within_t (σ := τ) h2.1 h2.2 (by decide) (by decide)
      have j2 := in_t (σ := ρ) h2.1 h2.2 (by decide) (by decide)
      have hM := nPg_le h.1 hp
      have hn := c_isNone l1 hM
      by_cases c : nPg (ρ 112) p = 0
      · rw [if_pos c] at hn s2
        refine sim_tell2 (x := fun τ => X10_best τ p b) (y := fun ρ => X11_best ρ p b) (k := 3) (c := -1000004) s3 s4 s5 (by omega) ?_ ?_
        · show X10_best τ p b = _
          unfold X10_best X10_best_B16
          ((repeat (first | with_reducible refine (ag_ok (by omega) (by omega) (by decide)).trans ?_ | rewrite [lt_v] | rewrite [bd_some] | rewrite [bd2_some] | rewrite [bdk (i1)] | rewrite [bdk (j1)] | rewrite [bd2k (s1)] | rewrite [kg_ok (kd73 hp)] | rewrite [bdk (hn)] | rewrite [bd2k (tell_3 τ')] | with_reducible refine (if_pos (by first | omega | (unfold w32; omega))).trans ?_ | with_reducible refine (if_neg (by first | omega | (unfold w32; omega))).trans ?_)); (repeat (first | with_reducible refine Eq.trans ?_ (if_pos (by first | omega | (unfold w32; omega))).symm | with_reducible refine Eq.trans ?_ (if_neg (by first | omega | (unfold w32; omega))).symm)); try rfl)
        · show X11_best ρ p b = _
          unfold X11_best X11_best_B19
          rw [w2]
          ((repeat (first | with_reducible refine (ag_ok (by omega) (by omega) (by decide)).trans ?_ | rewrite [lt_v] | rewrite [bd_some] | rewrite [bd2_some] | rewrite [bdk (i2)] | rewrite [bdk (j2)] | rewrite [bd2k (s2)] | rewrite [bd2k (finds_3 ρ')] | with_reducible refine (if_pos (by first | omega | (unfold w32; omega))).trans ?_ | with_reducible refine (if_neg (by first | omega | (unfold w32; omega))).trans ?_)); (repeat (first | with_reducible refine Eq.trans ?_ (if_pos (by first | omega | (unfold w32; omega))).symm | with_reducible refine Eq.trans ?_ (if_neg (by first | omega | (unfold w32; omega))).symm)); try rfl)
      · rw [if_neg c] at hn s2
        obtain ⟨⟨⟨m1, m2, m3⟩, _⟩, m4, m5⟩ := s8 c
        have key : ∃ r, X10_best τ p b = some (r, τ') ∧ X11_best ρ p b = some (r, ρ') := by
          unfold X10_best X11_best
          rcases (by omega : b = 0 ∨ b = 1 ∨ b = 2 ∨ b = 3 ∨ b = 4) with h3 | h3 | h3 | h3 | h3
          · refine ⟨sto (ρ 112) p (nPg (ρ 112) p), ?_, ?_⟩
            · repeat (first | with_reducible refine (ag_ok (by omega) (by omega) (by decide)).trans ?_ | rewrite [lt_v] | rewrite [bd_some] | rewrite [bd2_some] | rewrite [bdk (i1)] | rewrite [bdk (j1)] | rewrite [bd2k (s1)] | rewrite [kg_ok (kd73 hp)] | rewrite [bdk (hn)] | with_reducible refine (if_pos (by first | omega | (unfold w32; omega))).trans ?_ | with_reducible refine (if_neg (by first | omega | (unfold w32; omega))).trans ?_)
              rw [l3]
            · rw [w2]
              repeat (first | with_reducible refine (ag_ok (by omega) (by omega) (by decide)).trans ?_ | rewrite [lt_v] | rewrite [bd_some] | rewrite [bd2_some] | rewrite [bdk (i2)] | rewrite [bdk (j2)] | rewrite [bd2k (s2)] | with_reducible refine (if_pos (by first | omega | (unfold w32; omega))).trans ?_ | with_reducible refine (if_neg (by first | omega | (unfold w32; omega))).trans ?_)
              rw [show (0 : Int).toNat = 0 from rfl, m4]
          · refine ⟨csS (ρ 112) p (nPg (ρ 112) p), ?_, ?_⟩
            · repeat (first | with_reducible refine (ag_ok (by omega) (by omega) (by decide)).trans ?_ | rewrite [lt_v] | rewrite [bd_some] | rewrite [bd2_some] | rewrite [bdk (i1)] | rewrite [bdk (j1)] | rewrite [bd2k (s1)] | rewrite [kg_ok (kd73 hp)] | rewrite [bdk (hn)] | with_reducible refine (if_pos (by first | omega | (unfold w32; omega))).trans ?_ | with_reducible refine (if_neg (by first | omega | (unfold w32; omega))).trans ?_)
              rw [l5]
            · rw [w2]
              repeat (first | with_reducible refine (ag_ok (by omega) (by omega) (by decide)).trans ?_ | rewrite [lt_v] | rewrite [bd_some] | rewrite [bd2_some] | rewrite [bdk (i2)] | rewrite [bdk (j2)] | rewrite [bd2k (s2)] | with_reducible refine (if_pos (by first | omega | (unfold w32; omega))).trans ?_ | with_reducible refine (if_neg (by first | omega | (unfold w32; omega))).trans ?_)
              rw [show (0 : Int).toNat = 0 from rfl, m5]
          · refine ⟨(nPg (ρ 112) p : Int), ?_, ?_⟩
            · repeat (first | with_reducible refine (ag_ok (by omega) (by omega) (by decide)).trans ?_ | rewrite [lt_v] | rewrite [bd_some] | rewrite [bd2_some] | rewrite [bdk (i1)] | rewrite [bdk (j1)] | rewrite [bd2k (s1)] | rewrite [kg_ok (kd73 hp)] | rewrite [bdk (hn)] | with_reducible refine (if_pos (by first | omega | (unfold w32; omega))).trans ?_ | with_reducible refine (if_neg (by first | omega | (unfold w32; omega))).trans ?_)
              rw [l1]
            · rw [w2]
              repeat (first | with_reducible refine (ag_ok (by omega) (by omega) (by decide)).trans ?_ | rewrite [lt_v] | rewrite [bd_some] | rewrite [bd2_some] | rewrite [bdk (i2)] | rewrite [bdk (j2)] | rewrite [bd2k (s2)] | with_reducible refine (if_pos (by first | omega | (unfold w32; omega))).trans ?_ | with_reducible refine (if_neg (by first | omega | (unfold w32; omega))).trans ?_)
              rw [m1]
          · refine ⟨((lle (ρ 112) p (nPg (ρ 112) p)).length : Int), ?_, ?_⟩
            · repeat (first | with_reducible refine (ag_ok (by omega) (by omega) (by decide)).trans ?_ | rewrite [lt_v] | rewrite [bd_some] | rewrite [bd2_some] | rewrite [bdk (i1)] | rewrite [bdk (j1)] | rewrite [bd2k (s1)] | rewrite [kg_ok (kd73 hp)] | rewrite [bdk (hn)] | with_reducible refine (if_pos (by first | omega | (unfold w32; omega))).trans ?_ | with_reducible refine (if_neg (by first | omega | (unfold w32; omega))).trans ?_)
              rw [l2]
            · rw [w2]
              repeat (first | with_reducible refine (ag_ok (by omega) (by omega) (by decide)).trans ?_ | rewrite [lt_v] | rewrite [bd_some] | rewrite [bd2_some] | rewrite [bdk (i2)] | rewrite [bdk (j2)] | rewrite [bd2k (s2)] | with_reducible refine (if_pos (by first | omega | (unfold w32; omega))).trans ?_ | with_reducible refine (if_neg (by first | omega | (unfold w32; omega))).trans ?_)
              rw [m2]
          · refine ⟨tro (ρ 112) p (nPg (ρ 112) p), ?_, ?_⟩
            · repeat (first | with_reducible refine (ag_ok (by omega) (by omega) (by decide)).trans ?_ | rewrite [lt_v] | rewrite [bd_some] | rewrite [bd2_some] | rewrite [bdk (i1)] | rewrite [bdk (j1)] | rewrite [bd2k (s1)] | rewrite [kg_ok (kd73 hp)] | rewrite [bdk (hn)] | with_reducible refine (if_pos (by first | omega | (unfold w32; omega))).trans ?_ | with_reducible refine (if_neg (by first | omega | (unfold w32; omega))).trans ?_)
              rw [l4]
            · rw [w2]
              repeat (first | with_reducible refine (ag_ok (by omega) (by omega) (by decide)).trans ?_ | rewrite [lt_v] | rewrite [bd_some] | rewrite [bd2_some] | rewrite [bdk (i2)] | rewrite [bdk (j2)] | rewrite [bd2k (s2)] | with_reducible refine (if_pos (by first | omega | (unfold w32; omega))).trans ?_ | with_reducible refine (if_neg (by first | omega | (unfold w32; omega))).trans ?_)
              rw [m3]
        obtain ⟨r, k1, k2⟩ := key
        exact ⟨r, τ', ρ', k1, k2, s3, s4, s5⟩
    · exact nobody 1 0 (isPart_t h1.1 h1.2) (mPart_t h1.1 h1.2) (within_f h2 hb (iR0 (by decide) (by decide)) (iR0 (by decide) (by decide))) (in_f h2 hb (iR0 (by decide) (by decide)) (iR0 (by decide) (by decide))) (Or.inr ⟨rfl, rfl⟩)
  · have hwi := within_if (σ := τ) hb (a := 0) (b := 4) (iR0 (by decide) (by decide)) (iR0 (by decide) (by decide))
    have hii := in_if (σ := ρ) hb (a := 0) (b := 4) (iR0 (by decide) (by decide)) (iR0 (by decide) (by decide))
    exact nobody 0 _ (isPart_f h1 ha) (mPart_f h1 ha) hwi hii (Or.inl rfl)
