/-! stop, pages -/
theorem c_skip {τ : Mem} {l0 : Nat} {left : Int} : ∀ (n b f : Nat), b + n ≤ 40 → (∀ j, b ≤ j → j < b + n → τ (l0 + 7) j = 0) → X2_barOfStop_L4 τ (f + n) l0 left b = X2_barOfStop_L4 τ f l0 left ((b + n : Nat) : Int)
  | 0, b, f, _, _ => rfl
  | n + 1, b, f, h1, h2 => by
    have ih := c_skip (τ := τ) (l0 := l0) (left := left) n (b + 1) f (by omega) (fun j j1 j2 => h2 j (by omega) (by omega))
    rw [show b + (n + 1) = b + 1 + n by omega, ← ih]
    show X2_barOfStop_B4 (X2_barOfStop_L4 τ (f + n)) τ l0 left b = _
    unfold X2_barOfStop_B4 X2_barOfStop_B32
    rw [if_neg (by first | omega | (unfold w32; omega)), ag_nat (by omega) (by decide), h2 b (by omega) (by omega), if_neg (by decide), lt_v]
    rfl
theorem stop_sim {r : Nat → Int} (hw : WF r) {p : Nat} (hp : p < 4) {τ ρ : Mem} {w0 : T4} (h0 : bL r r p 0 0 = some w0) (hc : LYc r p τ (nPg r p)) (hm : LYm r p ρ (nPg r p)) : ∀ (n k f g : Nat) (left : Int), k + n = nPg r p → 40 - ps r p k < f → n < g → 0 ≤ left → left < 2147483648 → ∃ v, X2_barOfStop_L4 τ f (73 + 10 * p) left (ps r p k) = some v ∧ ((v = -1 ∧ X11_stop_L29 g ρ left 1 k = some (-1000004, fnd ρ 3)) ∨ (0 ≤ v ∧ v < 40 ∧ X11_stop_L29 g ρ left 1 k = some (v, ρ))) := by
  have h40 := hw.bars hp
  have hend := nPg_end hw hp h0
  obtain ⟨⟨l1, l2, l3, l4, l5⟩, l6, l7, l8⟩ := hc
  obtain ⟨⟨m1, m2, m3⟩, m4, m5⟩ := hm
  intro n
  induction n with
  | zero =>
    intro k f g left h1 h2 h3 h4 h5
    obtain ⟨g, rfl⟩ : ∃ x, g = x + 1 := ⟨g - 1, by omega⟩
    have hk : k = nPg r p := by omega
    obtain ⟨f, rfl⟩ : ∃ x, f = x + 1 + (40 - ps r p k) := ⟨f - 1 - (40 - ps r p k), by omega⟩
    refine ⟨-1, ?_, Or.inl ⟨rfl, ?_⟩⟩
    · rw [c_skip (40 - ps r p k) (ps r p k) (f + 1) (by rw [hk]; omega) (fun j j1 j2 => by rw [l8 j (by omega), tbs_end hw hp (by rw [← hk]; exact j1)]), show ps r p k + (40 - ps r p k) = 40 by rw [hk]; omega]
      show X2_barOfStop_B4 _ _ _ _ _ = _
      unfold X2_barOfStop_B4
      rw [if_pos (by decide)]
    · show X11_stop_B29 _ _ _ _ _ = _
      unfold X11_stop_B29 X11_stop_B78
      rw [if_neg (by decide), m1, if_pos (by first | omega | (unfold w32; omega)), bd2k (finds_3 ρ)]
  | succ n ih =>
    intro k f g left h1 h2 h3 h4 h5
    obtain ⟨g, rfl⟩ : ∃ x, g = x + 1 := ⟨g - 1, by omega⟩
    have hk : k < nPg r p := by omega
    have hf := pgf hw hp hk
    obtain ⟨f, rfl⟩ : ∃ x, f = x + 1 + (pz r p k - ps r p k) := ⟨f - 1 - (pz r p k - ps r p k), by omega⟩
    obtain ⟨y1, y2, y3, y4, y5, y6⟩ := m4 k hk
    have e1 := c_skip (τ := τ) (l0 := 73 + 10 * p) (left := left) (pz r p k - ps r p k) (ps r p k) (f + 1) (by omega) (fun j j1 j2 => by rw [l8 j (by omega), tbs_in hw hp hk j1 (by omega)])
    rw [show ps r p k + (pz r p k - ps r p k) = pz r p k by omega] at e1
    rw [e1]
    have e2 : τ (73 + 10 * p + 7) (pz r p k) = tk r p k := by rw [l8 _ (by omega), tbs_at hw hp _ k hk (Nat.le_refl _)]
    have next : ∀ left' : Int, 0 ≤ left' → left' < 2147483648 → ∃ v, X2_barOfStop_L4 τ f (73 + 10 * p) left' ((pz r p k : Int) + 1) = some v ∧ ((v = -1 ∧ X11_stop_L29 g ρ left' 1 ((k : Int) + 1) = some (-1000004, fnd ρ 3)) ∨ (0 ≤ v ∧ v < 40 ∧ X11_stop_L29 g ρ left' 1 ((k : Int) + 1) = some (v, ρ))) := fun left' a1 a2 => ih (k + 1) f g left' (by omega) (by rw [ps_s]; omega) (by omega) a1 a2
    have hc1 : X2_barOfStop_L4 τ (f + 1) (73 + 10 * p) left (pz r p k) = if tk r p k = 2 then (if left = 0 then some (pz r p k : Int) else X2_barOfStop_L4 τ f (73 + 10 * p) (left + -1) ((pz r p k : Int) + 1)) else X2_barOfStop_L4 τ f (73 + 10 * p) left ((pz r p k : Int) + 1) := by
      show X2_barOfStop_B4 _ _ _ _ _ = _
      unfold X2_barOfStop_B4 X2_barOfStop_B32
      rw [if_neg (by first | omega | (unfold w32; omega)), ag_nat (by omega) (by decide), e2]
      rcases tk_012 r p k with t | t | t
      · rw [t, if_neg (by decide), if_neg (by decide), lt_v]
      · rw [t, if_neg (by decide), if_neg (by decide), lt_v]
      · rw [t, if_pos rfl, if_pos rfl]
        by_cases hl : left = 0
        · rw [if_neg (by first | omega | (unfold w32; omega)), if_pos hl]
        · rw [if_pos (by first | omega | (unfold w32; omega)), if_neg hl, lt_v, lt_v]
    have hm1 : X11_stop_L29 (g + 1) ρ left 1 k = if tk r p k = 2 then (if left = 0 then some ((pz r p k : Int), ρ) else X11_stop_L29 g ρ (left + -1) 1 ((k : Int) + 1)) else X11_stop_L29 g ρ left 1 ((k : Int) + 1) := by
      show X11_stop_B29 _ _ _ _ _ = _
      unfold X11_stop_B29 X11_stop_B72
      rw [if_neg (by decide), m1, if_neg (by first | omega | (unfold w32; omega)), ag_nat (by omega) (by decide), y6]
      rcases tk_012 r p k with t | t | t
      · rw [t, if_neg (by decide), if_neg (by decide), lt_v]
      · rw [t, if_neg (by decide), if_neg (by decide), lt_v]
      · rw [t, if_pos rfl, if_pos rfl]
        by_cases hl : left = 0
        · rw [if_neg (by first | omega | (unfold w32; omega)), if_pos hl, ag_nat (by omega) (by decide), y2]
        · rw [if_pos (by first | omega | (unfold w32; omega)), if_neg hl, lt_v, lt_v]
    rw [hc1, hm1]
    by_cases t : tk r p k = 2
    · rw [if_pos t, if_pos t]
      by_cases hl : left = 0
      · rw [if_pos hl, if_pos hl]
        exact ⟨_, rfl, Or.inr ⟨by omega, by omega, rfl⟩⟩
      · rw [if_neg hl, if_neg hl]
        exact next (left + -1) (by omega) (by omega)
    · rw [if_neg t, if_neg t]
      exact next left h4 h5
theorem nPg_some {r : Nat → Int} {p : Nat} (h : nPg r p ≠ 0) : ∃ w0, bL r r p 0 0 = some w0 := by
  cases h0 : bL r r p 0 0 with
  | none => unfold nPg at h; rw [h0] at h; exact absurd rfl h
  | some w0 => exact ⟨w0, rfl⟩
theorem sim_stop {a i : Int} (ha : inR a) (hi : inR i) : Sim (fun τ => X10_stop τ a i) (fun ρ => X11_stop ρ a i) := by
  intro τ ρ h
  obtain ⟨i1', i2'⟩ := id hi
  have nobody : ∀ (r1 : Int), X10_isPart τ a = some r1 → X11_isPart ρ a = some r1 → (r1 = 0 ∨ (r1 = 1 ∧ i < 0)) → ∃ r τ' ρ', X10_stop τ a i = some (r, τ') ∧ X11_stop ρ a i = some (r, ρ') ∧ Rel τ' ρ' ∧ (∀ q, 111 ≤ q → τ' q = τ q) ∧ ∀ q, q < 111 → ρ' q = ρ q := by
    intro r1 e1 e2 e5
    refine sim_tell (x := fun τ => X10_stop τ a i) (y := fun ρ => X11_stop ρ a i) (k := 0) (c := -1000001) h (by omega) ?_ ?_
    · show X10_stop τ a i = _
      unfold X10_stop X10_stop_B11
      rcases e5 with e5 | ⟨e5, e6⟩
      · ((repeat (first | with_reducible refine (ag_ok (by omega) (by omega) (by decide)).trans ?_ | rewrite [lt_v] | rewrite [bd_some] | rewrite [bd2_some] | rewrite [bdk (e1)] | rewrite [bd2k (tell_0 τ)] | with_reducible refine (if_pos (by first | omega | (unfold w32; omega))).trans ?_ | with_reducible refine (if_neg (by first | omega | (unfold w32; omega))).trans ?_)); (repeat (first | with_reducible refine Eq.trans ?_ (if_pos (by first | omega | (unfold w32; omega))).symm | with_reducible refine Eq.trans ?_ (if_neg (by first | omega | (unfold w32; omega))).symm)); try rfl)
      · ((repeat (first | with_reducible refine (ag_ok (by omega) (by omega) (by decide)).trans ?_ | rewrite [lt_v] | rewrite [bd_some] | rewrite [bd2_some] | rewrite [bdk (e1)] | rewrite [bd2k (tell_0 τ)] | with_reducible refine (if_pos (by first | omega | (unfold w32; omega))).trans ?_ | with_reducible refine (if_neg (by first | omega | (unfold w32; omega))).trans ?_)); (repeat (first | with_reducible refine Eq.trans ?_ (if_pos (by first | omega | (unfold w32; omega))).symm | with_reducible refine Eq.trans ?_ (if_neg (by first | omega | (unfold w32; omega))).symm)); try rfl)
    · show X11_stop ρ a i = _
      unfold X11_stop X11_stop_B11
      rcases e5 with e5 | ⟨e5, e6⟩
      · ((repeat (first | with_reducible refine (ag_ok (by omega) (by omega) (by decide)).trans ?_ | rewrite [lt_v] | rewrite [bd_some] | rewrite [bd2_some] | rewrite [bdk (e2)] | rewrite [bd2k (finds_0 ρ)] | with_reducible refine (if_pos (by first | omega | (unfold w32; omega))).trans ?_ | with_reducible refine (if_neg (by first | omega | (unfold w32; omega))).trans ?_)); (repeat (first | with_reducible refine Eq.trans ?_ (if_pos (by first | omega | (unfold w32; omega))).symm | with_reducible refine Eq.trans ?_ (if_neg (by first | omega | (unfold w32; omega))).symm)); try rfl)
      · ((repeat (first | with_reducible refine (ag_ok (by omega) (by omega) (by decide)).trans ?_ | rewrite [lt_v] | rewrite [bd_some] | rewrite [bd2_some] | rewrite [bdk (e2)] | rewrite [bd2k (finds_0 ρ)] | with_reducible refine (if_pos (by first | omega | (unfold w32; omega))).trans ?_ | with_reducible refine (if_neg (by first | omega | (unfold w32; omega))).trans ?_)); (repeat (first | with_reducible refine Eq.trans ?_ (if_pos (by first | omega | (unfold w32; omega))).symm | with_reducible refine Eq.trans ?_ (if_neg (by first | omega | (unfold w32; omega))).symm)); try rfl)
  by_cases h1 : 0 ≤ a ∧ a ≤ 3
  · by_cases h3 : 0 ≤ i
    · obtain ⟨p, rfl⟩ := Int.eq_ofNat_of_zero_le h1.1
      have hp : p < 4 := by omega
      obtain ⟨τ', ρ', s1, s2, s3, s4, s5, s6, s7, s8, _, _⟩ := laySim h hp
      have i1 := isPart_t (σ := τ) h1.1 h1.2
      have i2 := mPart_t (σ := ρ) h1.1 h1.2
      have two : ∀ v : Int, X2_barOfStop τ' (73 + 10 * p) i = some v → (v = -1 → X10_stop τ p i = some (-1000004, tel τ' 3)) ∧ (0 ≤ v → v < 40 → X10_stop τ p i = some (v, τ')) := by
        intro v hv
        unfold X10_stop
        refine ⟨fun hv1 => ?_, fun hv1 hv2 => ?_⟩
        · ((repeat (first | with_reducible refine (ag_ok (by omega) (by omega) (by decide)).trans ?_ | rewrite [lt_v] | rewrite [bd_some] | rewrite [bd2_some] | rewrite [bdk (i1)] | rewrite [bd2k (s1)] | rewrite [kg_ok (kd73 hp)] | rewrite [bdk (hv)] | rewrite [bd2k (tell_3 τ')] | with_reducible refine (if_pos (by first | omega | (unfold w32; omega))).trans ?_ | with_reducible refine (if_neg (by first | omega | (unfold w32; omega))).trans ?_)); (repeat (first | with_reducible refine Eq.trans ?_ (if_pos (by first | omega | (unfold w32; omega))).symm | with_reducible refine Eq.trans ?_ (if_neg (by first | omega | (unfold w32; omega))).symm)); try rfl)
        · ((repeat (first | with_reducible refine (ag_ok (by omega) (by omega) (by decide)).trans ?_ | rewrite [lt_v] | rewrite [bd_some] | rewrite [bd2_some] | rewrite [bdk (i1)] | rewrite [bd2k (s1)] | rewrite [kg_ok (kd73 hp)] | rewrite [bdk (hv)] | with_reducible refine (if_pos (by first | omega | (unfold w32; omega))).trans ?_ | with_reducible refine (if_neg (by first | omega | (unfold w32; omega))).trans ?_)); (repeat (first | with_reducible refine Eq.trans ?_ (if_pos (by first | omega | (unfold w32; omega))).symm | with_reducible refine Eq.trans ?_ (if_neg (by first | omega | (unfold w32; omega))).symm)); try rfl)
      by_cases c0 : nPg (ρ 112) p = 0
      · have hv : X2_barOfStop τ' (73 + 10 * p) i = some (-1) := by
          have := c_skip (τ := τ') (l0 := 73 + 10 * p) (left := i) 40 0 4960 (by omega) (fun j j1 j2 => by rw [s7.2.2.2 j (by omega), c0]; rfl)
          show X2_barOfStop_L4 τ' (4960 + 40) (73 + 10 * p) i ((0 : Nat) : Int) = _
          rw [this]
          show X2_barOfStop_B4 _ _ _ _ _ = _
          unfold X2_barOfStop_B4
          rw [if_pos (by decide)]
        refine sim_tell2 (x := fun τ => X10_stop τ p i) (y := fun ρ => X11_stop ρ p i) (k := 3) (c := -1000004) s3 s4 s5 (by omega) ((two _ hv).1 rfl) ?_
        show X11_stop ρ p i = _
        rw [if_pos c0] at s2
        have e : X11_stop_L29 5000 ρ' i 0 0 = some (-1000004, fnd ρ' 3) := by
          show X11_stop_B29 _ _ _ _ _ = _
          unfold X11_stop_B29 X11_stop_B78
          rw [if_pos (by decide), bd2k (finds_3 ρ')]
        unfold X11_stop
        rw [bdk i2, if_neg (by decide), if_pos (by first | omega | (unfold w32; omega)), bd2k s2]
        exact e
      · obtain ⟨w0, hw0⟩ := nPg_some c0
        obtain ⟨v, e1, e2⟩ := stop_sim h.1 hp hw0 s7 (s8 c0).1 (nPg (ρ 112) p) 0 5000 5000 i (by omega) (by have : ps (ρ 112) p 0 = 0 := rfl; omega) (by have := nPg_le h.1 hp; omega) h3 i2'
        have hv : X2_barOfStop τ' (73 + 10 * p) i = some v := e1
        rw [if_neg c0] at s2
        have e3 : X11_stop ρ p i = X11_stop_L29 5000 ρ' i 1 0 := by
          unfold X11_stop
          rw [bdk i2, if_neg (by decide), if_pos (by first | omega | (unfold w32; omega)), bd2k s2]
        rcases e2 with ⟨d1, d2⟩ | ⟨d1, d2, d3⟩
        · exact sim_tell2 (x := fun τ => X10_stop τ p i) (y := fun ρ => X11_stop ρ p i) (k := 3) (c := -1000004) s3 s4 s5 (by omega) ((two _ hv).1 d1) (e3.trans d2)
        · exact ⟨v, τ', ρ', (two _ hv).2 d1 d2, e3.trans d3, s3, s4, s5⟩
    · exact nobody 1 (isPart_t h1.1 h1.2) (mPart_t h1.1 h1.2) (Or.inr ⟨rfl, by omega⟩)
  · exact nobody 0 (isPart_f h1 ha) (mPart_f h1 ha) (Or.inl rfl)
theorem pages_sim {r : Nat → Int} (hw : WF r) {p s : Nat} (hp : p < 4) (hs : s < 4) {τ ρ : Mem} (hsh : SH τ ρ) (hc : LYc r p τ (nPg r p)) (hm : LYm r p ρ (nPg r p)) : ∀ (n k f g : Nat), k + n = 40 → n < f → n < g → ∃ v, X10_pages_L78 f τ (63 + 2 * s) (73 + 10 * p) k k = some (v, τ) ∧ X11_pages_L57 g ρ s k = some (v, ρ) := by
  have h40 := hw.bars hp
  have hM := nPg_le hw hp
  obtain ⟨⟨l1, l2, l3, l4, l5⟩, l6, l7, l8⟩ := hc
  obtain ⟨⟨m1, m2, m3⟩, m4, m5⟩ := hm
  obtain ⟨a1, a2, a3, a4, a5⟩ := hsh s hs
  have fin : ∀ k : Nat, k ≤ 40 → ∃ v, X10_pages_B127 τ (63 + 2 * s) (73 + 10 * p) k = some (v, τ) ∧ X11_pages_B101 ρ s k = some (v, ρ) := by
    intro k hk
    refine ⟨if (k : Int) = ρ 135 s ∧ k = nPg r p then 0 else 1 + k, ?_, ?_⟩
    · unfold X10_pages_B127
      rw [a3, l1]
      by_cases c1 : (k : Int) = ρ 135 s
      · rw [if_neg (by first | omega | (unfold w32; omega))]
        by_cases c2 : k = nPg r p
        · rw [if_neg (by first | omega | (unfold w32; omega)), if_pos ⟨c1, c2⟩]
        · rw [if_pos (by first | omega | (unfold w32; omega)), if_neg (fun c => c2 c.2)]
      · rw [if_pos (by first | omega | (unfold w32; omega)), if_neg (fun c => c1 c.1)]
    · unfold X11_pages_B101
      rw [ag_nat hs (by decide), m1]
      by_cases c1 : (k : Int) = ρ 135 s
      · rw [if_neg (by first | omega | (unfold w32; omega))]
        by_cases c2 : k = nPg r p
        · rw [if_neg (by first | omega | (unfold w32; omega)), if_pos ⟨c1, c2⟩]
        · rw [if_pos (by first | omega | (unfold w32; omega)), if_neg (fun c => c2 c.2)]
      · rw [if_pos (by first | omega | (unfold w32; omega)), if_neg (fun c => c1 c.1)]
  intro n
  induction n with
  | zero =>
    intro k f g h1 h2 h3
    obtain ⟨f, rfl⟩ : ∃ x, f = x + 1 := ⟨f - 1, by omega⟩
    obtain ⟨g, rfl⟩ : ∃ x, g = x + 1 := ⟨g - 1, by omega⟩
    obtain ⟨v, v1, v2⟩ := fin k (by omega)
    refine ⟨v, ?_, ?_⟩
    · show X10_pages_B78 _ _ _ _ _ _ = _
      unfold X10_pages_B78
      rw [a3, if_pos (by first | omega | (unfold w32; omega))]
      exact v1
    · show X11_pages_B57 _ _ _ _ = _
      unfold X11_pages_B57
      rw [ag_nat hs (by decide), if_pos (by first | omega | (unfold w32; omega))]
      exact v2
  | succ n ih =>
    intro k f g h1 h2 h3
    obtain ⟨f, rfl⟩ : ∃ x, f = x + 1 := ⟨f - 1, by omega⟩
    obtain ⟨g, rfl⟩ : ∃ x, g = x + 1 := ⟨g - 1, by omega⟩
    obtain ⟨v, v1, v2⟩ := fin k (by omega)
    by_cases c1 : ρ 135 s ≤ (k : Int)
    · refine ⟨v, ?_, ?_⟩
      · show X10_pages_B78 _ _ _ _ _ _ = _
        unfold X10_pages_B78
        rw [a3, if_pos (by first | omega | (unfold w32; omega))]
        exact v1
      · show X11_pages_B57 _ _ _ _ = _
        unfold X11_pages_B57
        rw [ag_nat hs (by decide), if_pos (by first | omega | (unfold w32; omega))]
        exact v2
    · by_cases c2 : nPg r p ≤ k
      · refine ⟨v, ?_, ?_⟩
        · show X10_pages_B78 _ _ _ _ _ _ = _
          unfold X10_pages_B78
          rw [a3, l1, if_neg (by first | omega | (unfold w32; omega)), if_pos (by first | omega | (unfold w32; omega))]
          exact v1
        · show X11_pages_B57 _ _ _ _ = _
          unfold X11_pages_B57
          rw [ag_nat hs (by decide), m1, if_neg (by first | omega | (unfold w32; omega)), if_pos (by first | omega | (unfold w32; omega))]
          exact v2
      · have hk : k < nPg r p := by omega
        have hf := pgf hw hp hk
        have x2 := (l6 k hk).2.1
        have y2 := (m4 k hk).2.1
        obtain ⟨n1, n2, n3⟩ := a5 k (by omega)
        obtain ⟨n1a, n1b⟩ := n1
        obtain ⟨n2a, n2b⟩ := n2
        have e136 : (40 * (s : Int) + k).toNat = 40 * s + k := by omega
        obtain ⟨u, u1, u2⟩ := ih (k + 1) f g (by omega) (by omega) (by omega)
        by_cases c3 : τ (64 + 2 * s) k = pz r p k
        · have c4 : ρ 136 (40 * s + k) = pz r p k := by omega
          refine ⟨u, ?_, ?_⟩
          · show X10_pages_B78 _ _ _ _ _ _ = _
            unfold X10_pages_B78
            rw [a3, l1, if_neg (by first | omega | (unfold w32; omega)), if_neg (by first | omega | (unfold w32; omega)), ag_nat (by omega) (by decide), ag_nat (by omega) (by decide), x2, show 63 + 2 * s + 1 = 64 + 2 * s by omega, c3, if_pos rfl, lt_v, lt_v]
            exact u1
          · show X11_pages_B57 _ _ _ _ = _
            unfold X11_pages_B57
            rw [ag_nat hs (by decide), m1, if_neg (by first | omega | (unfold w32; omega)), if_neg (by first | omega | (unfold w32; omega)), ag_ok (by omega) (by omega) (by decide), ag_nat (by omega) (by decide), y2, e136, c4, if_neg (by simp), lt_v]
            exact u2
        · have c4 : ρ 136 (40 * s + k) ≠ pz r p k := by omega
          refine ⟨v, ?_, ?_⟩
          · show X10_pages_B78 _ _ _ _ _ _ = _
            unfold X10_pages_B78
            rw [a3, l1, if_neg (by first | omega | (unfold w32; omega)), if_neg (by first | omega | (unfold w32; omega)), ag_nat (by omega) (by decide), ag_nat (by omega) (by decide), x2, show 63 + 2 * s + 1 = 64 + 2 * s by omega, if_neg (by rw [w32_id n1a n1b, w32_id (by omega) (by omega)]; exact c3)]
            exact v1
          · show X11_pages_B57 _ _ _ _ = _
            unfold X11_pages_B57
            rw [ag_nat hs (by decide), m1, if_neg (by first | omega | (unfold w32; omega)), if_neg (by first | omega | (unfold w32; omega)), ag_ok (by omega) (by omega) (by decide), ag_nat (by omega) (by decide), y2, e136, if_pos (by rw [w32_id n2a n2b, w32_id (by omega) (by omega)]; exact c4)]
            exact v2
theorem sim_pages {a b : Int} (ha : inR a) (hb : inR b) : Sim (fun τ => X10_pages τ a b) (fun ρ => X11_pages ρ a b) := by
  intro τ ρ h
  by_cases h1 : 0 ≤ a ∧ a ≤ 3
  · obtain ⟨s, rfl⟩ := Int.eq_ofNat_of_zero_le h1.1
    have hs : s < 4 := by omega
    obtain ⟨a1, a2, a3, a4, a5⟩ := h.2.2.2.2.2.1 s hs
    have j1 := isSheet_t (σ := τ) h1.1 h1.2
    have j2 := mSheet_t (σ := ρ) h1.1 h1.2
    by_cases h0 : ρ 134 s = 0
    · have hmi := missing_t (σ := τ) (B := 63 + 2 * s) (by rw [a2]; exact h0)
      refine sim_tell (x := fun τ => X10_pages τ s b) (y := fun ρ => X11_pages ρ s b) (k := 5) (c := -1000006) h (by omega) ?_ ?_
      · show X10_pages τ s b = _
        unfold X10_pages
        rw [bdk j1, if_pos (by decide), ag_nat hs (by decide), bdk hmi, if_neg (by decide), bd2k (tell_5 τ)]
      · show X11_pages ρ s b = _
        unfold X11_pages
        rw [bdk j2, if_pos (by decide), ag_nat hs (by decide), h0, if_neg (by decide), bd2k (finds_5 ρ)]
    · have hb32 : 0 ≤ ρ 134 s ∧ ρ 134 s ≤ 32 := by
        rcases a1 with c | c | c | c <;> omega
      have hmi := missing_f (σ := τ) (B := 63 + 2 * s) (by rw [a2]; exact h0) (by rw [a2]; exact hb32)
      by_cases h2 : 0 ≤ b ∧ b ≤ 3
      · obtain ⟨p, rfl⟩ := Int.eq_ofNat_of_zero_le h2.1
        have hp : p < 4 := by omega
        obtain ⟨τ', ρ', s1, s2, s3, s4, s5, s6, s7, s8, _, _⟩ := laySim h hp
        have i1 := isPart_t (σ := τ) h2.1 h2.2
        have i2 := mPart_t (σ := ρ) h2.1 h2.2
        have hn := c_isNone s7.1.1 (nPg_le h.1 hp)
        by_cases c0 : nPg (ρ 112) p = 0
        · rw [if_pos c0] at s2 hn
          refine sim_tell2 (x := fun τ => X10_pages τ s p) (y := fun ρ => X11_pages ρ s p) (k := 3) (c := -1000004) s3 s4 s5 (by omega) ?_ ?_
          · show X10_pages τ s p = _
            unfold X10_pages
            rw [bdk j1, if_pos (by decide), ag_nat hs (by decide), bdk hmi, if_pos (by decide), bdk i1, if_pos (by decide), bd2k s1, kg_ok (kd73 hp), bdk hn, if_neg (by decide), bd2k (tell_3 τ')]
          · show X11_pages ρ s p = _
            unfold X11_pages
            rw [bdk j2, if_pos (by decide), ag_nat hs (by decide), if_pos (by first | omega | (unfold w32; omega)), bdk i2, if_pos (by decide), bd2k s2, if_neg (by decide), bd2k (finds_3 ρ')]
        · rw [if_neg c0] at s2 hn
          have sh' := s3.2.2.2.2.2.1
          obtain ⟨v, v1, v2⟩ := pages_sim h.1 hp hs sh' s7 (s8 c0).1 40 0 5000 5000 (by omega) (by omega) (by omega)
          refine ⟨v, τ', ρ', ?_, ?_, s3, s4, s5⟩
          · show X10_pages τ s p = _
            unfold X10_pages
            rw [bdk j1, if_pos (by decide), ag_nat hs (by decide), bdk hmi, if_pos (by decide), bdk i1, if_pos (by decide), bd2k s1, kg_ok (kd73 hp), bdk hn, if_pos (by decide)]
            exact v1
          · show X11_pages ρ s p = _
            unfold X11_pages
            rw [bdk j2, if_pos (by decide), ag_nat hs (by decide), if_pos (by first | omega | (unfold w32; omega)), bdk i2, if_pos (by decide), bd2k s2, if_pos (by decide)]
            exact v2
      · have i1 := isPart_f (σ := τ) h2 hb
        have i2 := mPart_f (σ := ρ) h2 hb
        refine sim_tell (x := fun τ => X10_pages τ s b) (y := fun ρ => X11_pages ρ s b) (k := 0) (c := -1000001) h (by omega) ?_ ?_
        · show X10_pages τ s b = _
          unfold X10_pages
          rw [bdk j1, if_pos (by decide), ag_nat hs (by decide), bdk hmi, if_pos (by decide), bdk i1, if_neg (by decide), bd2k (tell_0 τ)]
        · show X11_pages ρ s b = _
          unfold X11_pages
          rw [bdk j2, if_pos (by decide), ag_nat hs (by decide), if_pos (by first | omega | (unfold w32; omega)), bdk i2, if_neg (by decide), bd2k (finds_0 ρ)]
  · have j1 := isSheet_f (σ := τ) h1 ha
    have j2 := mSheet_f (σ := ρ) h1 ha
    refine sim_tell (x := fun τ => X10_pages τ a b) (y := fun ρ => X11_pages ρ a b) (k := 0) (c := -1000001) h (by omega) ?_ ?_
    · show X10_pages τ a b = _
      unfold X10_pages
      rw [bdk j1, if_neg (by decide), bd2k (tell_0 τ)]
    · show X11_pages ρ a b = _
      unfold X11_pages
      rw [bdk j2, if_neg (by decide), bd2k (finds_0 ρ)]
