/-! all -/
def ts (r : Nat → Int) : Nat → Nat → Int
  | 0, _ => 0
  | p + 1, b => ts r p b + td r p b
def ssS (r : Nat → Int) : Nat → Int
  | 0 => 0
  | p + 1 => ssS r p + sto r p (nPg r p)
def ccS (r : Nat → Int) : Nat → Int
  | 0 => 0
  | p + 1 => ccS r p + csS r p (nPg r p)
def mxF (F : Nat → Int) : Nat → Nat → Int → Int
  | 0, _, m => m
  | n + 1, b, m => mxF F n (b + 1) (if m < F b then F b else m)
def vAll (r : Nat → Int) (w : Int) : Int := if w = 0 then ssS r 4 else if w = 1 then ccS r 4 else if w = 2 then cnF (ts r 4) 40 0 else mxF (ts r 4) 40 0 0
theorem ts_in (r : Nat → Int) : ∀ p b, 0 ≤ ts r p b ∧ ts r p b ≤ p
  | 0, b => by show (0 : Int) ≤ 0 ∧ (0 : Int) ≤ ((0 : Nat) : Int); omega
  | p + 1, b => by
    have h1 := ts_in r p b
    have h2 := td_01 r p b
    show 0 ≤ ts r p b + td r p b ∧ ts r p b + td r p b ≤ ((p + 1 : Nat) : Int)
    omega
theorem c_atIn {r : Nat → Int} {τ : Mem} {b : Nat} (hb : b < 40) (hl : ∀ p, p < 4 → LYc r p τ (nPg r p)) (rec : Int → Int → Int → Int → Option Int) (w m s : Int) : ∀ (n p f : Nat), p + n = 4 → n < f → X10_turnsAtOnce_L20 rec τ f w m s b (ts r p b) p = rec w (imx m (ts r 4 b)) (if ts r 4 b < 2 then s else s + 1) ((b : Int) + 1) := by
  intro n
  induction n with
  | zero =>
    intro p f h1 h2
    obtain ⟨f, rfl⟩ : ∃ x, f = x + 1 := ⟨f - 1, by omega⟩
    have hp : p = 4 := by omega
    rw [hp]
    have := ts_in r 4 b
    show X10_turnsAtOnce_B20 _ _ _ _ _ _ _ _ _ = _
    unfold X10_turnsAtOnce_B20 X10_turnsAtOnce_B67
    rw [if_pos (by decide), lt_v]
    by_cases c : ts r 4 b < 2
    · rw [if_pos (by first | omega | (unfold w32; omega)), lt_v, if_pos c]
    · rw [if_neg (by first | omega | (unfold w32; omega)), lt_v, lt_v, if_neg c]
  | succ n ih =>
    intro p f h1 h2
    obtain ⟨f, rfl⟩ : ∃ x, f = x + 1 := ⟨f - 1, by omega⟩
    have e1 := (hl p (by omega)).2.2.2 b hb
    show X10_turnsAtOnce_B20 _ _ _ _ _ _ _ _ _ = _
    unfold X10_turnsAtOnce_B20 X10_turnsAtOnce_B45
    rw [if_neg (by first | omega | (unfold w32; omega)), ag_nat (by omega) (by decide), ag_nat hb (by decide), e1]
    by_cases c1 : tbs r p (nPg r p) b = 0
    · have t1 : td r p b = 0 := if_pos c1
      rw [if_pos ((tbs_w _).mpr c1), lt_v]
      have := ih (p + 1) f (by omega) (by omega)
      rw [show ts r (p + 1) b = ts r p b from by show ts r p b + td r p b = _; omega] at this
      exact this
    · have t1 : td r p b = 1 := if_neg c1
      rw [if_neg (fun c => c1 ((tbs_w _).mp c)), lt_v, lt_v]
      have := ih (p + 1) f (by omega) (by omega)
      rw [show ts r (p + 1) b = ts r p b + 1 from by show ts r p b + td r p b = _; omega] at this
      exact this
theorem c_atOnce {r : Nat → Int} {τ : Mem} (hl : ∀ p, p < 4 → LYc r p τ (nPg r p)) {w : Int} (hw : w = 0 ∨ w = 1) : ∀ (n b f : Nat) (m s : Int), b + n = 40 → n < f → 0 ≤ m → m ≤ 4 → X10_turnsAtOnce_L7 τ f w m s b = some (if w = 0 then s + cnF (ts r 4) n b else mxF (ts r 4) n b m) := by
  intro n
  induction n with
  | zero =>
    intro b f m s h1 h2 h3 h4
    obtain ⟨f, rfl⟩ : ∃ x, f = x + 1 := ⟨f - 1, by omega⟩
    show X10_turnsAtOnce_B7 _ _ _ _ _ _ = some (if w = 0 then s + 0 else m)
    unfold X10_turnsAtOnce_B7
    rw [if_pos (by first | omega | (unfold w32; omega))]
    rcases hw with c | c
    · rw [if_pos (by first | omega | (unfold w32; omega)), if_pos c, Int.add_zero]
    · rw [if_neg (by first | omega | (unfold w32; omega)), if_neg (by omega)]
  | succ n ih =>
    intro b f m s h1 h2 h3 h4
    obtain ⟨f, rfl⟩ : ∃ x, f = x + 1 := ⟨f - 1, by omega⟩
    have i4 := ts_in r 4 b
    have e := c_atIn (b := b) (by omega) hl (X10_turnsAtOnce_L7 τ f) w m s 4 0 5000 (by omega) (by omega)
    rw [show ts r 0 b = 0 from rfl] at e
    have e' : X10_turnsAtOnce_L20 (X10_turnsAtOnce_L7 τ f) τ 5000 w m s b 0 0 = X10_turnsAtOnce_L7 τ f w (imx m (ts r 4 b)) (if ts r 4 b < 2 then s else s + 1) ((b : Int) + 1) := e
    have em : imx m (ts r 4 b) = if m < ts r 4 b then ts r 4 b else m := by
      unfold imx
      rw [w32_id (by omega) (by omega), w32_id (by omega) (by omega)]
    have hi := ih (b + 1) f (imx m (ts r 4 b)) (if ts r 4 b < 2 then s else s + 1) (by omega) (by omega) (by rw [em]; split <;> omega) (by rw [em]; split <;> omega)
    show X10_turnsAtOnce_B7 _ _ _ _ _ _ = some (if w = 0 then s + ((if ts r 4 b < 2 then 0 else 1) + cnF (ts r 4) n (b + 1)) else mxF (ts r 4) n (b + 1) (if m < ts r 4 b then ts r 4 b else m))
    unfold X10_turnsAtOnce_B7
    rw [if_neg (by first | omega | (unfold w32; omega)), e']
    refine hi.trans ?_
    rw [em]
    rcases hw with c | c
    · rw [if_pos c, if_pos c]
      have : ((if ts r 4 b < 2 then s else s + 1) + cnF (ts r 4) n (b + 1) : Int) = s + ((if ts r 4 b < 2 then 0 else 1) + cnF (ts r 4) n (b + 1)) := by split <;> omega
      rw [this]
    · have hw0 : ¬ w = 0 := by omega
      rw [if_neg hw0, if_neg hw0]
theorem c_allL {r : Nat → Int} (hwf : WF r) {w : Int} (hw : 0 ≤ w ∧ w ≤ 3) : ∀ (n p f : Nat) (τ : Mem), p + n = 4 → n < f → CRB 1 r τ → CA r τ → (∀ q, q < p → LYc r q τ (nPg r q)) → ∃ τ', X10_all_L23 f τ w (ssS r p) (ccS r p) p = some (vAll r w, τ') ∧ (∀ q, q < 53 ∨ (61 < q ∧ q < 71) ∨ 110 < q → τ' q = τ q) ∧ CA r τ' := by
  intro n
  induction n with
  | zero =>
    intro p f τ h1 h2 h3 h4 h5
    obtain ⟨f, rfl⟩ : ∃ x, f = x + 1 := ⟨f - 1, by omega⟩
    have hp : p = 4 := by omega
    rw [hp] at h5 ⊢
    refine ⟨τ, ?_, fun _ _ => rfl, h4⟩
    show X10_all_B23 _ _ _ _ _ _ = _
    have at1 : ∀ v : Int, v = 0 ∨ v = 1 → X10_turnsAtOnce τ v = some (if v = 0 then 0 + cnF (ts r 4) 40 0 else mxF (ts r 4) 40 0 0) := fun v hv => c_atOnce h5 hv 40 0 5000 0 0 (by omega) (by omega) (by omega) (by omega)
    unfold X10_all_B23 X10_all_B75 vAll
    rw [if_pos (by decide)]
    rcases (by omega : w = 0 ∨ w = 1 ∨ w = 2 ∨ w = 3) with c | c | c | c
    · rw [if_pos (by first | omega | (unfold w32; omega)), if_neg (by first | omega | (unfold w32; omega)), if_pos c]
    · rw [if_pos (by first | omega | (unfold w32; omega)), if_pos (by first | omega | (unfold w32; omega)), if_neg (by omega), if_pos c]
    · rw [if_neg (by first | omega | (unfold w32; omega)), if_pos (by first | omega | (unfold w32; omega)), bdk (at1 0 (Or.inl rfl)), if_pos rfl, if_neg (by omega), if_neg (by omega), if_pos c, Int.zero_add]
    · rw [if_neg (by first | omega | (unfold w32; omega)), if_neg (by first | omega | (unfold w32; omega)), bdk (at1 1 (Or.inr rfl)), if_neg (by decide), if_neg (by omega), if_neg (by omega), if_neg (by omega)]
  | succ n ih =>
    intro p f τ h1 h2 h3 h4 h5
    obtain ⟨f, rfl⟩ : ∃ x, f = x + 1 := ⟨f - 1, by omega⟩
    have hp : p < 4 := by omega
    obtain ⟨τ1, t1, t2, t3, t4, t5, t6⟩ := c_layingOf hwf hp h3 h4
    obtain ⟨τ2, u1, u2, u3⟩ := ih (p + 1) f τ1 (by omega) (by omega) (h3.frame (fun k _ _ => t2 k (by omega))) t5 (fun q hq => by
      by_cases hqp : q = p
      · rw [hqp]; exact t6
      · exact (h5 q (by omega)).frame (fun k _ _ => t4 k (by omega) (by omega)))
    refine ⟨τ2, ?_, fun q hq => by rw [u2 q hq, t2 q hq], u3⟩
    show X10_all_B23 _ _ _ _ _ _ = _
    unfold X10_all_B23
    rw [if_neg (by first | omega | (unfold w32; omega)), bd2k t1, kg_ok (kd73 hp), lt_v, lt_v, lt_v, t6.1.2.2.1, t6.1.2.2.2.2]
    exact u1
theorem m_allM {r : Nat → Int} {w : Int} (hw : 0 ≤ w ∧ w ≤ 3) {ρ : Mem} (h133 : ∀ b, b < 40 → ρ 133 b = ts r 4 b) : ∀ (n b f : Nat) (m : Int), b + n = 40 → n < f → 0 ≤ m → m ≤ 4 → X11_all_L77 f ρ w (ssS r 4) (ccS r 4) m b = some (if w = 0 then ssS r 4 else if w = 1 then ccS r 4 else if w = 2 then cnF (ts r 4) 40 0 else mxF (ts r 4) n b m, ρ) := by
  intro n
  induction n with
  | zero =>
    intro b f m h1 h2 h3 h4
    obtain ⟨f, rfl⟩ : ∃ x, f = x + 1 := ⟨f - 1, by omega⟩
    have tf := m_turnsFrom (F := ts r 4) (ρ := ρ) (fun b hb => ⟨h133 b hb, (ts_in r 4 b).1, (ts_in r 4 b).2⟩) 40 0 5000 0 (by omega) (by omega)
    have tf' : X11_turnsFrom ρ 2 = some (0 + cnF (ts r 4) 40 0) := tf
    show X11_all_B77 _ _ _ _ _ _ _ = some (if w = 0 then ssS r 4 else if w = 1 then ccS r 4 else if w = 2 then cnF (ts r 4) 40 0 else m, ρ)
    unfold X11_all_B77
    rw [if_pos (by first | omega | (unfold w32; omega))]
    rcases (by omega : w = 0 ∨ w = 1 ∨ w = 2 ∨ w = 3) with c | c | c | c
    · rw [if_neg (by first | omega | (unfold w32; omega)), if_pos c]
    · rw [if_pos (by first | omega | (unfold w32; omega)), if_neg (by first | omega | (unfold w32; omega)), if_neg (by omega), if_pos c]
    · rw [if_pos (by first | omega | (unfold w32; omega)), if_pos (by first | omega | (unfold w32; omega)), if_neg (by first | omega | (unfold w32; omega)), bdk tf', if_neg (by omega), if_neg (by omega), if_pos c, Int.zero_add]
    · rw [if_pos (by first | omega | (unfold w32; omega)), if_pos (by first | omega | (unfold w32; omega)), if_pos (by first | omega | (unfold w32; omega)), if_neg (by omega), if_neg (by omega), if_neg (by omega)]
  | succ n ih =>
    intro b f m h1 h2 h3 h4
    obtain ⟨f, rfl⟩ : ∃ x, f = x + 1 := ⟨f - 1, by omega⟩
    have i4 := ts_in r 4 b
    show X11_all_B77 _ _ _ _ _ _ _ = some (if w = 0 then ssS r 4 else if w = 1 then ccS r 4 else if w = 2 then cnF (ts r 4) 40 0 else mxF (ts r 4) n (b + 1) (if m < ts r 4 b then ts r 4 b else m), ρ)
    unfold X11_all_B77 X11_all_B108
    rw [if_neg (by first | omega | (unfold w32; omega)), ag_nat (by omega) (by decide), h133 b (by omega)]
    by_cases c : m < ts r 4 b
    · rw [if_neg (by first | omega | (unfold w32; omega)), ag_nat (by omega) (by decide), h133 b (by omega), lt_v, if_pos c]
      exact ih (b + 1) f (ts r 4 b) (by omega) (by omega) (by omega) (by omega)
    · rw [if_pos (by first | omega | (unfold w32; omega)), lt_v, if_neg c]
      exact ih (b + 1) f m (by omega) (by omega) (by omega) (by omega)
theorem nPg0_s {r : Nat → Int} {p : Nat} (h : nPg r p = 0) : sto r p (nPg r p) = 0 ∧ csS r p (nPg r p) = 0 := by rw [h]; exact ⟨rfl, rfl⟩
theorem m_allL {r : Nat → Int} (hwf : WF r) {w : Int} (hw : 0 ≤ w ∧ w ≤ 3) : ∀ (n p f : Nat) (ρ : Mem), p + n = 4 → n < f → ρ 112 = r → (∀ b, b < 40 → ρ 133 b = ts r p b) → ∃ ρ', X11_all_L29 f ρ w (ssS r p) (ccS r p) p = some (vAll r w, ρ') ∧ (∀ q, q < 111 ∨ (111 < q ∧ q < 117) ∨ 133 < q → ρ' q = ρ q) ∧ (∀ j, j < 23 ∨ 25 < j → ρ' 111 j = ρ 111 j) := by
  intro n
  induction n with
  | zero =>
    intro p f ρ h1 h2 h3 h4
    obtain ⟨f, rfl⟩ : ∃ x, f = x + 1 := ⟨f - 1, by omega⟩
    have hp : p = 4 := by omega
    rw [hp] at h4 ⊢
    refine ⟨ρ, ?_, fun _ _ => rfl, fun _ _ => rfl⟩
    show X11_all_B29 _ _ _ _ _ _ = _
    unfold X11_all_B29
    rw [if_pos (by decide)]
    exact m_allM hw h4 40 0 5000 0 (by omega) (by omega) (by omega) (by omega)
  | succ n ih =>
    intro p f ρ h1 h2 h3 h4
    obtain ⟨f, rfl⟩ : ∃ x, f = x + 1 := ⟨f - 1, by omega⟩
    have hp : p < 4 := by omega
    obtain ⟨ρ1, t1, t2, t3, t4, t5⟩ := m_counts hp (ρ := ρ) (by rw [h3]; exact hwf)
    rw [h3] at t1 t4 t5
    obtain ⟨ρ2, u1, u2, u3⟩ := ih (p + 1) f ρ1 (by omega) (by omega) (by rw [t2 112 (by omega)]; exact h3) (fun b hb => by rw [t4 b hb, h4 b hb]; rfl)
    refine ⟨ρ2, ?_, fun q hq => by rw [u2 q hq, t2 q hq], fun j hj => by rw [u3 j hj, t3 j hj]⟩
    show X11_all_B29 _ _ _ _ _ _ = _
    unfold X11_all_B29 X11_all_B65
    rw [if_neg (by first | omega | (unfold w32; omega)), bd2k t1]
    by_cases c0 : nPg r p = 0
    · have hz := nPg0_s c0
      rw [if_pos c0, if_neg (by decide), lt_v]
      have e1 : ssS r (p + 1) = ssS r p := by show ssS r p + sto r p (nPg r p) = _; omega
      have e2 : ccS r (p + 1) = ccS r p := by show ccS r p + csS r p (nPg r p) = _; omega
      rw [e1, e2] at u1
      exact u1
    · obtain ⟨x1, x2⟩ := t5 c0
      rw [if_neg c0, if_pos (by decide), ag_ok (by omega) (by omega) (by decide), lt_v, ag_ok (by omega) (by omega) (by decide), lt_v, show (0 : Int).toNat = 0 from rfl, x1, x2, lt_v]
      exact u1
theorem sim_all {a : Int} (ha : inR a) : Sim (fun τ => X10_all τ a) (fun ρ => X11_all ρ a) := by
  intro τ ρ h
  have w2 : w32 a = a := w32_id ha.1 ha.2
  by_cases h1 : 0 ≤ a ∧ a ≤ 3
  · have i1 := within_t (σ := τ) h1.1 h1.2 (by decide) (by decide)
    have i2 := in_t (σ := ρ) h1.1 h1.2 (by decide) (by decide)
    obtain ⟨τ', t1, t2, t3⟩ := c_allL h.1 h1 4 0 5000 τ (by omega) (by omega) h.2.1 h.2.2.2.2.2.2 (fun q hq => by omega)
    obtain ⟨ρ0, v1, v2, v3⟩ := m_noTurns ρ
    obtain ⟨ρ', u1, u2, u3⟩ := m_allL h.1 h1 4 0 5000 ρ0 (by omega) (by omega) (v2 112 (by omega)) (fun b hb => v3 b hb)
    refine ⟨vAll (ρ 112) a, τ', ρ', ?_, ?_, h.junk (fun k hk => t2 k (by omega)) t3 (fun k hk => by rw [u2 k (by omega), v2 k (by omega)]) (by rw [u3 2 (by omega), v2 111 (by omega)]) (by rw [u3 5 (by omega), v2 111 (by omega)]), fun q hq => t2 q (by omega), fun q hq => by rw [u2 q (by omega), v2 q (by omega)]⟩
    · show X10_all τ a = _
      unfold X10_all
      rw [bdk i1, if_pos (by decide)]
      exact t1
    · show X11_all ρ a = _
      unfold X11_all
      rw [w2, bdk i2, if_pos (by decide), bdk v1]
      exact u1
  · have i1 := within_f (σ := τ) h1 ha (iR0 (by decide) (by decide)) (iR0 (by decide) (by decide))
    have i2 := in_f (σ := ρ) h1 ha (iR0 (by decide) (by decide)) (iR0 (by decide) (by decide))
    refine sim_tell (x := fun τ => X10_all τ a) (y := fun ρ => X11_all ρ a) (k := 0) (c := -1000001) h (by omega) ?_ ?_
    · show X10_all τ a = _
      unfold X10_all
      rw [bdk i1, if_neg (by decide), bd2k (tell_0 τ)]
    · show X11_all ρ a = _
      unfold X11_all
      rw [w2, bdk i2, if_neg (by decide), bd2k (finds_0 ρ)]
