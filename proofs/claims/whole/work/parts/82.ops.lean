/-! laid, ends, stop, pages -/
theorem pz_lt {r : Nat → Int} (hw : WF r) {p : Nat} (hp : p < 4) : ∀ (m i : Nat), i < m → m ≤ nPg r p → pz r p i < ps r p m
  | 0, i, h, _ => by omega
  | m + 1, i, h, hm => by
    rw [ps_s]
    by_cases him : i = m
    · rw [him]; omega
    · have h1 := pz_lt hw hp m i (by omega) (by omega)
      have h2 := pgf hw hp (show m < nPg r p by omega)
      omega
theorem tbs_at {r : Nat → Int} (hw : WF r) {p : Nat} (hp : p < 4) : ∀ (m i : Nat), i < m → m ≤ nPg r p → tbs r p m (pz r p i) = tk r p i
  | 0, i, h, _ => by omega
  | m + 1, i, h, hm => by
    show (if pz r p i = pz r p m then tk r p m else tbs r p m (pz r p i)) = _
    by_cases him : i = m
    · rw [him, if_pos rfl]
    · have h1 := pz_lt hw hp m i (by omega) (by omega)
      have h2 := pgf hw hp (show m < nPg r p by omega)
      rw [if_neg (by omega)]
      exact tbs_at hw hp m i (by omega) (by omega)
theorem tbs_0 {r : Nat → Int} {p b : Nat} : ∀ m, (∀ i, i < m → b ≠ pz r p i) → tbs r p m b = 0
  | 0, _ => rfl
  | m + 1, h => by
    show (if b = pz r p m then tk r p m else tbs r p m b) = 0
    rw [if_neg (h m (by omega))]
    exact tbs_0 m (fun i hi => h i (by omega))
/-- bars inside page k turn nowhere -/
theorem tbs_in {r : Nat → Int} (hw : WF r) {p : Nat} (hp : p < 4) {k b : Nat} (hk : k < nPg r p) (h1 : ps r p k ≤ b) (h2 : b < pz r p k) : tbs r p (nPg r p) b = 0 := by
  refine tbs_0 _ (fun i hi => ?_)
  by_cases hik : i < k
  · have := pz_lt hw hp k i hik (by omega)
    omega
  · by_cases hik2 : i = k
    · rw [hik2]; omega
    · have h3 := pz_lt hw hp i k (by omega) (by omega)
      have h4 := pgf hw hp hi
      omega
theorem tbs_end {r : Nat → Int} (hw : WF r) {p : Nat} (hp : p < 4) {b : Nat} (h : ps r p (nPg r p) ≤ b) : tbs r p (nPg r p) b = 0 := by
  refine tbs_0 _ (fun i hi => ?_)
  have := pz_lt hw hp (nPg r p) i hi (Nat.le_refl _)
  omega
theorem sim_laid {a i c : Int} (ha : inR a) (hi : inR i) (hc : inR c) : Sim (fun τ => X10_laid τ a i c) (fun ρ => X11_laid ρ a i c) := by
  intro τ ρ h
  have w2 : w32 c = c := w32_id hc.1 hc.2
  obtain ⟨i1', i2'⟩ := id hi
  have nobody : ∀ (r1 r2 : Int), X10_isPart τ a = some r1 → X11_isPart ρ a = some r1 → X10_within τ c 0 5 = some r2 → X11_in ρ c 0 5 = some r2 → (r1 = 0 ∨ (r1 = 1 ∧ (i < 0 ∨ (0 ≤ i ∧ r2 = 0)))) → ∃ r τ' ρ', X10_laid τ a i c = some (r, τ') ∧ X11_laid ρ a i c = some (r, ρ') ∧ Rel τ' ρ' ∧ (∀ q, 111 ≤ q → τ' q = τ q) ∧ ∀ q, q < 111 → ρ' q = ρ q := by
    intro r1 r2 e1 e2 e3 e4 e5
    refine sim_tell (x := fun τ => X10_laid τ a i c) (y := fun ρ => X11_laid ρ a i c) (k := 0) (c := -1000001) h (by omega) ?_ ?_
    · show X10_laid τ a i c = _
      unfold X10_laid X10_laid_B20
      rcases e5 with e5 | ⟨e5, e6 | ⟨e6, e7⟩⟩
      · ((repeat (first | with_reducible refine (ag_ok (by omega) (by omega) (by decide)).trans ?_ | rewrite [lt_v] | rewrite [bd_some] | rewrite [bd2_some] | rewrite [bdk (e1)] | rewrite [bd2k (tell_0 τ)] | with_reducible refine (if_pos (by first | omega | (unfold w32; omega))).trans ?_ | with_reducible refine (if_neg (by first | omega | (unfold w32; omega))).trans ?_)); (repeat (first | with_reducible refine Eq.trans ?_ (if_pos (by first | omega | (unfold w32; omega))).symm | with_reducible refine Eq.trans ?_ (if_neg (by first | omega | (unfold w32; omega))).symm)); try rfl)
      · ((repeat (first | with_reducible refine (ag_ok (by omega) (by omega) (by decide)).trans ?_ | rewrite [lt_v] | rewrite [bd_some] | rewrite [bd2_some] | rewrite [bdk (e1)] | rewrite [bd2k (tell_0 τ)] | with_reducible refine (if_pos (by first | omega | (unfold w32; omega))).trans ?_ | with_reducible refine (if_neg (by first | omega | (unfold w32; omega))).trans ?_)); (repeat (first | with_reducible refine Eq.trans ?_ (if_pos (by first | omega | (unfold w32; omega))).symm | with_reducible refine Eq.trans ?_ (if_neg (by first | omega | (unfold w32; omega))).symm)); try rfl)
      · ((repeat (first | with_reducible refine (ag_ok (by omega) (by omega) (by decide)).trans ?_ | rewrite [lt_v] | rewrite [bd_some] | rewrite [bd2_some] | rewrite [bdk (e1)] | rewrite [bdk (e3)] | rewrite [bd2k (tell_0 τ)] | with_reducible refine (if_pos (by first | omega | (unfold w32; omega))).trans ?_ | with_reducible refine (if_neg (by first | omega | (unfold w32; omega))).trans ?_)); (repeat (first | with_reducible refine Eq.trans ?_ (if_pos (by first | omega | (unfold w32; omega))).symm | with_reducible refine Eq.trans ?_ (if_neg (by first | omega | (unfold w32; omega))).symm)); try rfl)
    · show X11_laid ρ a i c = _
      unfold X11_laid X11_laid_B23
      rw [w2]
      rcases e5 with e5 | ⟨e5, e6 | ⟨e6, e7⟩⟩
      · ((repeat (first | with_reducible refine (ag_ok (by omega) (by omega) (by decide)).trans ?_ | rewrite [lt_v] | rewrite [bd_some] | rewrite [bd2_some] | rewrite [bdk (e2)] | rewrite [bd2k (finds_0 ρ)] | with_reducible refine (if_pos (by first | omega | (unfold w32; omega))).trans ?_ | with_reducible refine (if_neg (by first | omega | (unfold w32; omega))).trans ?_)); (repeat (first | with_reducible refine Eq.trans ?_ (if_pos (by first | omega | (unfold w32; omega))).symm | with_reducible refine Eq.trans ?_ (if_neg (by first | omega | (unfold w32; omega))).symm)); try rfl)
      · ((repeat (first | with_reducible refine (ag_ok (by omega) (by omega) (by decide)).trans ?_ | rewrite [lt_v] | rewrite [bd_some] | rewrite [bd2_some] | rewrite [bdk (e2)] | rewrite [bd2k (finds_0 ρ)] | with_reducible refine (if_pos (by first | omega | (unfold w32; omega))).trans ?_ | with_reducible refine (if_neg (by first | omega | (unfold w32; omega))).trans ?_)); (repeat (first | with_reducible refine Eq.trans ?_ (if_pos (by first | omega | (unfold w32; omega))).symm | with_reducible refine Eq.trans ?_ (if_neg (by first | omega | (unfold w32; omega))).symm)); try rfl)
      · ((repeat (first | with_reducible refine (ag_ok (by omega) (by omega) (by decide)).trans ?_ | rewrite [lt_v] | rewrite [bd_some] | rewrite [bd2_some] | rewrite [bdk (e2)] | rewrite [bdk (e4)] | rewrite [bd2k (finds_0 ρ)] | with_reducible refine (if_pos (by first | omega | (unfold w32; omega))).trans ?_ | with_reducible refine (if_neg (by first | omega | (unfold w32; omega))).trans ?_)); (repeat (first | with_reducible refine Eq.trans ?_ (if_pos (by first | omega | (unfold w32; omega))).symm | with_reducible refine Eq.trans ?_ (if_neg (by first | omega | (unfold w32; omega))).symm)); try rfl)
  by_cases h1 : 0 ≤ a ∧ a ≤ 3
  · by_cases h2 : (0 ≤ c ∧ c ≤ 5) ∧ 0 ≤ i
    · obtain ⟨h2, h3⟩ := h2
      obtain ⟨p, rfl⟩ := Int.eq_ofNat_of_zero_le h1.1
      obtain ⟨k, rfl⟩ := Int.eq_ofNat_of_zero_le h3
      have hp : p < 4 := by omega
      obtain ⟨τ', ρ', s1, s2, s3, s4, s5, s6, s7, s8, _, _⟩ := laySim h hp
      obtain ⟨⟨l1, l2, l3, l4, l5⟩, l6, l7, l8⟩ := s7
      have i1 := isPart_t (σ := τ) h1.1 h1.2
      have i2 := mPart_t (σ := ρ) h1.1 h1.2
      have j1 := within_t (σ := τ) h2.1 h2.2 (by decide) (by decide)
      have j2 := in_t (σ := ρ) h2.1 h2.2 (by decide) (by decide)
      have hM := nPg_le h.1 hp
      by_cases hk : k < nPg (ρ 112) p
      · rw [if_neg (by omega)] at s2
        obtain ⟨⟨⟨m1, m2, m3⟩, m4, m5⟩, _⟩ := s8 (by omega)
        obtain ⟨x1, x2, x3, x4, x5⟩ := l6 k hk
        obtain ⟨y1, y2, y3, y4, y5, y6⟩ := m4 k hk
        have hf := pgf h.1 hp hk
        have h40 := h.1.bars hp
        have x6 : τ' (73 + 10 * p + 7) (pz (ρ 112) p k) = tk (ρ 112) p k := by rw [l8 _ (by omega), tbs_at h.1 hp _ k hk (Nat.le_refl _)]
        have key : ∃ r, X10_laid τ p k c = some (r, τ') ∧ X11_laid ρ p k c = some (r, ρ') := by
          unfold X10_laid X11_laid
          rcases (by omega : c = 0 ∨ c = 1 ∨ c = 2 ∨ c = 3 ∨ c = 4 ∨ c = 5) with h3 | h3 | h3 | h3 | h3 | h3
          · refine ⟨(ps (ρ 112) p k : Int), ?_, ?_⟩
            · have op : X2_ofPage τ' (73 + 10 * p) k c = some ((ps (ρ 112) p k : Int)) := by
                unfold X2_ofPage
                ((repeat (first | with_reducible refine (ag_ok (by omega) (by omega) (by decide)).trans ?_ | rewrite [lt_v] | rewrite [bd_some] | rewrite [bd2_some] | rewrite [Int.toNat_natCast] | rewrite [x1] | with_reducible refine (if_pos (by first | omega | (unfold w32; omega))).trans ?_ | with_reducible refine (if_neg (by first | omega | (unfold w32; omega))).trans ?_)); (repeat (first | with_reducible refine Eq.trans ?_ (if_pos (by first | omega | (unfold w32; omega))).symm | with_reducible refine Eq.trans ?_ (if_neg (by first | omega | (unfold w32; omega))).symm)); try rfl)
              ((repeat (first | with_reducible refine (ag_ok (by omega) (by omega) (by decide)).trans ?_ | rewrite [lt_v] | rewrite [bd_some] | rewrite [bd2_some] | rewrite [bdk (i1)] | rewrite [bdk (j1)] | rewrite [bd2k (s1)] | rewrite [kg_ok (kd73 hp)] | rewrite [l1] | rewrite [bdk (op)] | with_reducible refine (if_pos (by first | omega | (unfold w32; omega))).trans ?_ | with_reducible refine (if_neg (by first | omega | (unfold w32; omega))).trans ?_)); (repeat (first | with_reducible refine Eq.trans ?_ (if_pos (by first | omega | (unfold w32; omega))).symm | with_reducible refine Eq.trans ?_ (if_neg (by first | omega | (unfold w32; omega))).symm)); try rfl)
            · rw [w2]
              ((repeat (first | with_reducible refine (ag_ok (by omega) (by omega) (by decide)).trans ?_ | rewrite [lt_v] | rewrite [bd_some] | rewrite [bd2_some] | rewrite [bdk (i2)] | rewrite [bdk (j2)] | rewrite [bd2k (s2)] | rewrite [Int.toNat_natCast] | rewrite [y1] | rewrite [m1] | with_reducible refine (if_pos (by first | omega | (unfold w32; omega))).trans ?_ | with_reducible refine (if_neg (by first | omega | (unfold w32; omega))).trans ?_)); (repeat (first | with_reducible refine Eq.trans ?_ (if_pos (by first | omega | (unfold w32; omega))).symm | with_reducible refine Eq.trans ?_ (if_neg (by first | omega | (unfold w32; omega))).symm)); try rfl)
          · refine ⟨(pz (ρ 112) p k : Int), ?_, ?_⟩
            · have op : X2_ofPage τ' (73 + 10 * p) k c = some ((pz (ρ 112) p k : Int)) := by
                unfold X2_ofPage
                ((repeat (first | with_reducible refine (ag_ok (by omega) (by omega) (by decide)).trans ?_ | rewrite [lt_v] | rewrite [bd_some] | rewrite [bd2_some] | rewrite [Int.toNat_natCast] | rewrite [x2] | with_reducible refine (if_pos (by first | omega | (unfold w32; omega))).trans ?_ | with_reducible refine (if_neg (by first | omega | (unfold w32; omega))).trans ?_)); (repeat (first | with_reducible refine Eq.trans ?_ (if_pos (by first | omega | (unfold w32; omega))).symm | with_reducible refine Eq.trans ?_ (if_neg (by first | omega | (unfold w32; omega))).symm)); try rfl)
              ((repeat (first | with_reducible refine (ag_ok (by omega) (by omega) (by decide)).trans ?_ | rewrite [lt_v] | rewrite [bd_some] | rewrite [bd2_some] | rewrite [bdk (i1)] | rewrite [bdk (j1)] | rewrite [bd2k (s1)] | rewrite [kg_ok (kd73 hp)] | rewrite [l1] | rewrite [bdk (op)] | with_reducible refine (if_pos (by first | omega | (unfold w32; omega))).trans ?_ | with_reducible refine (if_neg (by first | omega | (unfold w32; omega))).trans ?_)); (repeat (first | with_reducible refine Eq.trans ?_ (if_pos (by first | omega | (unfold w32; omega))).symm | with_reducible refine Eq.trans ?_ (if_neg (by first | omega | (unfold w32; omega))).symm)); try rfl)
            · rw [w2]
              ((repeat (first | with_reducible refine (ag_ok (by omega) (by omega) (by decide)).trans ?_ | rewrite [lt_v] | rewrite [bd_some] | rewrite [bd2_some] | rewrite [bdk (i2)] | rewrite [bdk (j2)] | rewrite [bd2k (s2)] | rewrite [Int.toNat_natCast] | rewrite [y2] | rewrite [m1] | with_reducible refine (if_pos (by first | omega | (unfold w32; omega))).trans ?_ | with_reducible refine (if_neg (by first | omega | (unfold w32; omega))).trans ?_)); (repeat (first | with_reducible refine Eq.trans ?_ (if_pos (by first | omega | (unfold w32; omega))).symm | with_reducible refine Eq.trans ?_ (if_neg (by first | omega | (unfold w32; omega))).symm)); try rfl)
          · refine ⟨pkv (ρ 112) p k % 4, ?_, ?_⟩
            · have op : X2_ofPage τ' (73 + 10 * p) k c = some (pkv (ρ 112) p k % 4) := by
                unfold X2_ofPage
                ((repeat (first | with_reducible refine (ag_ok (by omega) (by omega) (by decide)).trans ?_ | rewrite [lt_v] | rewrite [bd_some] | rewrite [bd2_some] | rewrite [Int.toNat_natCast] | rewrite [x3] | with_reducible refine (if_pos (by first | omega | (unfold w32; omega))).trans ?_ | with_reducible refine (if_neg (by first | omega | (unfold w32; omega))).trans ?_)); (repeat (first | with_reducible refine Eq.trans ?_ (if_pos (by first | omega | (unfold w32; omega))).symm | with_reducible refine Eq.trans ?_ (if_neg (by first | omega | (unfold w32; omega))).symm)); try rfl)
              ((repeat (first | with_reducible refine (ag_ok (by omega) (by omega) (by decide)).trans ?_ | rewrite [lt_v] | rewrite [bd_some] | rewrite [bd2_some] | rewrite [bdk (i1)] | rewrite [bdk (j1)] | rewrite [bd2k (s1)] | rewrite [kg_ok (kd73 hp)] | rewrite [l1] | rewrite [bdk (op)] | with_reducible refine (if_pos (by first | omega | (unfold w32; omega))).trans ?_ | with_reducible refine (if_neg (by first | omega | (unfold w32; omega))).trans ?_)); (repeat (first | with_reducible refine Eq.trans ?_ (if_pos (by first | omega | (unfold w32; omega))).symm | with_reducible refine Eq.trans ?_ (if_neg (by first | omega | (unfold w32; omega))).symm)); try rfl)
            · rw [w2]
              ((repeat (first | with_reducible refine (ag_ok (by omega) (by omega) (by decide)).trans ?_ | rewrite [lt_v] | rewrite [bd_some] | rewrite [bd2_some] | rewrite [bdk (i2)] | rewrite [bdk (j2)] | rewrite [bd2k (s2)] | rewrite [Int.toNat_natCast] | rewrite [y3] | rewrite [m1] | with_reducible refine (if_pos (by first | omega | (unfold w32; omega))).trans ?_ | with_reducible refine (if_neg (by first | omega | (unfold w32; omega))).trans ?_)); (repeat (first | with_reducible refine Eq.trans ?_ (if_pos (by first | omega | (unfold w32; omega))).symm | with_reducible refine Eq.trans ?_ (if_neg (by first | omega | (unfold w32; omega))).symm)); try rfl)
          · refine ⟨((pln (ρ 112) p k).length : Int), ?_, ?_⟩
            · have op : X2_ofPage τ' (73 + 10 * p) k c = some (((pln (ρ 112) p k).length : Int)) := by
                unfold X2_ofPage
                ((repeat (first | with_reducible refine (ag_ok (by omega) (by omega) (by decide)).trans ?_ | rewrite [lt_v] | rewrite [bd_some] | rewrite [bd2_some] | rewrite [Int.toNat_natCast] | rewrite [x4] | with_reducible refine (if_pos (by first | omega | (unfold w32; omega))).trans ?_ | with_reducible refine (if_neg (by first | omega | (unfold w32; omega))).trans ?_)); (repeat (first | with_reducible refine Eq.trans ?_ (if_pos (by first | omega | (unfold w32; omega))).symm | with_reducible refine Eq.trans ?_ (if_neg (by first | omega | (unfold w32; omega))).symm)); try rfl)
              ((repeat (first | with_reducible refine (ag_ok (by omega) (by omega) (by decide)).trans ?_ | rewrite [lt_v] | rewrite [bd_some] | rewrite [bd2_some] | rewrite [bdk (i1)] | rewrite [bdk (j1)] | rewrite [bd2k (s1)] | rewrite [kg_ok (kd73 hp)] | rewrite [l1] | rewrite [bdk (op)] | with_reducible refine (if_pos (by first | omega | (unfold w32; omega))).trans ?_ | with_reducible refine (if_neg (by first | omega | (unfold w32; omega))).trans ?_)); (repeat (first | with_reducible refine Eq.trans ?_ (if_pos (by first | omega | (unfold w32; omega))).symm | with_reducible refine Eq.trans ?_ (if_neg (by first | omega | (unfold w32; omega))).symm)); try rfl)
            · rw [w2]
              ((repeat (first | with_reducible refine (ag_ok (by omega) (by omega) (by decide)).trans ?_ | rewrite [lt_v] | rewrite [bd_some] | rewrite [bd2_some] | rewrite [bdk (i2)] | rewrite [bdk (j2)] | rewrite [bd2k (s2)] | rewrite [Int.toNat_natCast] | rewrite [y4] | rewrite [m1] | with_reducible refine (if_pos (by first | omega | (unfold w32; omega))).trans ?_ | with_reducible refine (if_neg (by first | omega | (unfold w32; omega))).trans ?_)); (repeat (first | with_reducible refine Eq.trans ?_ (if_pos (by first | omega | (unfold w32; omega))).symm | with_reducible refine Eq.trans ?_ (if_neg (by first | omega | (unfold w32; omega))).symm)); try rfl)
          · refine ⟨pkv (ρ 112) p k / 4, ?_, ?_⟩
            · have op : X2_ofPage τ' (73 + 10 * p) k c = some (pkv (ρ 112) p k / 4) := by
                unfold X2_ofPage
                ((repeat (first | with_reducible refine (ag_ok (by omega) (by omega) (by decide)).trans ?_ | rewrite [lt_v] | rewrite [bd_some] | rewrite [bd2_some] | rewrite [Int.toNat_natCast] | rewrite [x5] | with_reducible refine (if_pos (by first | omega | (unfold w32; omega))).trans ?_ | with_reducible refine (if_neg (by first | omega | (unfold w32; omega))).trans ?_)); (repeat (first | with_reducible refine Eq.trans ?_ (if_pos (by first | omega | (unfold w32; omega))).symm | with_reducible refine Eq.trans ?_ (if_neg (by first | omega | (unfold w32; omega))).symm)); try rfl)
              ((repeat (first | with_reducible refine (ag_ok (by omega) (by omega) (by decide)).trans ?_ | rewrite [lt_v] | rewrite [bd_some] | rewrite [bd2_some] | rewrite [bdk (i1)] | rewrite [bdk (j1)] | rewrite [bd2k (s1)] | rewrite [kg_ok (kd73 hp)] | rewrite [l1] | rewrite [bdk (op)] | with_reducible refine (if_pos (by first | omega | (unfold w32; omega))).trans ?_ | with_reducible refine (if_neg (by first | omega | (unfold w32; omega))).trans ?_)); (repeat (first | with_reducible refine Eq.trans ?_ (if_pos (by first | omega | (unfold w32; omega))).symm | with_reducible refine Eq.trans ?_ (if_neg (by first | omega | (unfold w32; omega))).symm)); try rfl)
            · rw [w2]
              ((repeat (first | with_reducible refine (ag_ok (by omega) (by omega) (by decide)).trans ?_ | rewrite [lt_v] | rewrite [bd_some] | rewrite [bd2_some] | rewrite [bdk (i2)] | rewrite [bdk (j2)] | rewrite [bd2k (s2)] | rewrite [Int.toNat_natCast] | rewrite [y5] | rewrite [m1] | with_reducible refine (if_pos (by first | omega | (unfold w32; omega))).trans ?_ | with_reducible refine (if_neg (by first | omega | (unfold w32; omega))).trans ?_)); (repeat (first | with_reducible refine Eq.trans ?_ (if_pos (by first | omega | (unfold w32; omega))).symm | with_reducible refine Eq.trans ?_ (if_neg (by first | omega | (unfold w32; omega))).symm)); try rfl)
          · refine ⟨tk (ρ 112) p k, ?_, ?_⟩
            · have op : X2_ofPage τ' (73 + 10 * p) k c = some (tk (ρ 112) p k) := by
                unfold X2_ofPage
                ((repeat (first | with_reducible refine (ag_ok (by omega) (by omega) (by decide)).trans ?_ | rewrite [lt_v] | rewrite [bd_some] | rewrite [bd2_some] | rewrite [Int.toNat_natCast] | rewrite [x2] | rewrite [x6] | with_reducible refine (if_pos (by first | omega | (unfold w32; omega))).trans ?_ | with_reducible refine (if_neg (by first | omega | (unfold w32; omega))).trans ?_)); (repeat (first | with_reducible refine Eq.trans ?_ (if_pos (by first | omega | (unfold w32; omega))).symm | with_reducible refine Eq.trans ?_ (if_neg (by first | omega | (unfold w32; omega))).symm)); try rfl)
              ((repeat (first | with_reducible refine (ag_ok (by omega) (by omega) (by decide)).trans ?_ | rewrite [lt_v] | rewrite [bd_some] | rewrite [bd2_some] | rewrite [bdk (i1)] | rewrite [bdk (j1)] | rewrite [bd2k (s1)] | rewrite [kg_ok (kd73 hp)] | rewrite [l1] | rewrite [bdk (op)] | with_reducible refine (if_pos (by first | omega | (unfold w32; omega))).trans ?_ | with_reducible refine (if_neg (by first | omega | (unfold w32; omega))).trans ?_)); (repeat (first | with_reducible refine Eq.trans ?_ (if_pos (by first | omega | (unfold w32; omega))).symm | with_reducible refine Eq.trans ?_ (if_neg (by first | omega | (unfold w32; omega))).symm)); try rfl)
            · rw [w2]
              ((repeat (first | with_reducible refine (ag_ok (by omega) (by omega) (by decide)).trans ?_ | rewrite [lt_v] | rewrite [bd_some] | rewrite [bd2_some] | rewrite [bdk (i2)] | rewrite [bdk (j2)] | rewrite [bd2k (s2)] | rewrite [Int.toNat_natCast] | rewrite [y6] | rewrite [m1] | with_reducible refine (if_pos (by first | omega | (unfold w32; omega))).trans ?_ | with_reducible refine (if_neg (by first | omega | (unfold w32; omega))).trans ?_)); (repeat (first | with_reducible refine Eq.trans ?_ (if_pos (by first | omega | (unfold w32; omega))).symm | with_reducible refine Eq.trans ?_ (if_neg (by first | omega | (unfold w32; omega))).symm)); try rfl)
        obtain ⟨r, k1, k2⟩ := key
        exact ⟨r, τ', ρ', k1, k2, s3, s4, s5⟩
      · refine sim_tell2 (x := fun τ => X10_laid τ p k c) (y := fun ρ => X11_laid ρ p k c) (k := 3) (c := -1000004) s3 s4 s5 (by omega) ?_ ?_
        · show X10_laid τ p k c = _
          unfold X10_laid
          ((repeat (first | with_reducible refine (ag_ok (by omega) (by omega) (by decide)).trans ?_ | rewrite [lt_v] | rewrite [bd_some] | rewrite [bd2_some] | rewrite [bdk (i1)] | rewrite [bdk (j1)] | rewrite [bd2k (s1)] | rewrite [kg_ok (kd73 hp)] | rewrite [l1] | rewrite [bd2k (tell_3 τ')] | with_reducible refine (if_pos (by first | omega | (unfold w32; omega))).trans ?_ | with_reducible refine (if_neg (by first | omega | (unfold w32; omega))).trans ?_)); (repeat (first | with_reducible refine Eq.trans ?_ (if_pos (by first | omega | (unfold w32; omega))).symm | with_reducible refine Eq.trans ?_ (if_neg (by first | omega | (unfold w32; omega))).symm)); try rfl)
        · show X11_laid ρ p k c = _
          unfold X11_laid X11_laid_B45
          rw [w2]
          by_cases c0 : nPg (ρ 112) p = 0
          · rw [if_pos c0] at s2
            ((repeat (first | with_reducible refine (ag_ok (by omega) (by omega) (by decide)).trans ?_ | rewrite [lt_v] | rewrite [bd_some] | rewrite [bd2_some] | rewrite [bdk (i2)] | rewrite [bdk (j2)] | rewrite [bd2k (s2)] | rewrite [bd2k (finds_3 ρ')] | with_reducible refine (if_pos (by first | omega | (unfold w32; omega))).trans ?_ | with_reducible refine (if_neg (by first | omega | (unfold w32; omega))).trans ?_)); (repeat (first | with_reducible refine Eq.trans ?_ (if_pos (by first | omega | (unfold w32; omega))).symm | with_reducible refine Eq.trans ?_ (if_neg (by first | omega | (unfold w32; omega))).symm)); try rfl)
          · rw [if_neg c0] at s2
            have m1 := (s8 c0).1.1.1
            ((repeat (first | with_reducible refine (ag_ok (by omega) (by omega) (by decide)).trans ?_ | rewrite [lt_v] | rewrite [bd_some] | rewrite [bd2_some] | rewrite [bdk (i2)] | rewrite [bdk (j2)] | rewrite [bd2k (s2)] | rewrite [m1] | rewrite [bd2k (finds_3 ρ')] | with_reducible refine (if_pos (by first | omega | (unfold w32; omega))).trans ?_ | with_reducible refine (if_neg (by first | omega | (unfold w32; omega))).trans ?_)); (repeat (first | with_reducible refine Eq.trans ?_ (if_pos (by first | omega | (unfold w32; omega))).symm | with_reducible refine Eq.trans ?_ (if_neg (by first | omega | (unfold w32; omega))).symm)); try rfl)
    · have hwi := within_if (σ := τ) hc (a := 0) (b := 5) (iR0 (by decide) (by decide)) (iR0 (by decide) (by decide))
      have hii := in_if (σ := ρ) hc (a := 0) (b := 5) (iR0 (by decide) (by decide)) (iR0 (by decide) (by decide))
      exact nobody 1 _ (isPart_t h1.1 h1.2) (mPart_t h1.1 h1.2) hwi hii (Or.inr ⟨rfl, by
        by_cases h0 : i < 0
        · exact Or.inl h0
        · exact Or.inr ⟨by omega, if_neg (fun q => h2 ⟨q, by omega⟩)⟩⟩)
  · have hwi := within_if (σ := τ) hc (a := 0) (b := 5) (iR0 (by decide) (by decide)) (iR0 (by decide) (by decide))
    have hii := in_if (σ := ρ) hc (a := 0) (b := 5) (iR0 (by decide) (by decide)) (iR0 (by decide) (by decide))
    exact nobody 0 _ (isPart_f h1 ha) (mPart_f h1 ha) hwi hii (Or.inl rfl)
theorem sim_ends {a i : Int} (ha : inR a) (hi : inR i) : Sim (fun τ => X10_ends τ a i) (fun ρ => X11_ends ρ a i) := by
  intro τ ρ h
  obtain ⟨i1', i2'⟩ := id hi
  have nobody : ∀ (r1 : Int), X10_isPart τ a = some r1 → X11_isPart ρ a = some r1 → (r1 = 0 ∨ (r1 = 1 ∧ i < 0)) → ∃ r τ' ρ', X10_ends τ a i = some (r, τ') ∧ X11_ends ρ a i = some (r, ρ') ∧ Rel τ' ρ' ∧ (∀ q, 111 ≤ q → τ' q = τ q) ∧ ∀ q, q < 111 → ρ' q = ρ q := by
    intro r1 e1 e2 e5
    refine sim_tell (x := fun τ => X10_ends τ a i) (y := fun ρ => X11_ends ρ a i) (k := 0) (c := -1000001) h (by omega) ?_ ?_
    · show X10_ends τ a i = _
      unfold X10_ends X10_ends_B11
      rcases e5 with e5 | ⟨e5, e6⟩
      · ((repeat (first | with_reducible refine (ag_ok (by omega) (by omega) (by decide)).trans ?_ | rewrite [lt_v] | rewrite [bd_some] | rewrite [bd2_some] | rewrite [bdk (e1)] | rewrite [bd2k (tell_0 τ)] | with_reducible refine (if_pos (by first | omega | (unfold w32; omega))).trans ?_ | with_reducible refine (if_neg (by first | omega | (unfold w32; omega))).trans ?_)); (repeat (first | with_reducible refine Eq.trans ?_ (if_pos (by first | omega | (unfold w32; omega))).symm | with_reducible refine Eq.trans ?_ (if_neg (by first | omega | (unfold w32; omega))).symm)); try rfl)
      · ((repeat (first | with_reducible refine (ag_ok (by omega) (by omega) (by decide)).trans ?_ | rewrite [lt_v] | rewrite [bd_some] | rewrite [bd2_some] | rewrite [bdk (e1)] | rewrite [bd2k (tell_0 τ)] | with_reducible refine (if_pos (by first | omega | (unfold w32; omega))).trans ?_ | with_reducible refine (if_neg (by first | omega | (unfold w32; omega))).trans ?_)); (repeat (first | with_reducible refine Eq.trans ?_ (if_pos (by first | omega | (unfold w32; omega))).symm | with_reducible refine Eq.trans ?_ (if_neg (by first | omega | (unfold w32; omega))).symm)); try rfl)
    · show X11_ends ρ a i = _
      unfold X11_ends X11_ends_B11
      rcases e5 with e5 | ⟨e5, e6⟩
      · ((repeat (first | with_reducible refine (ag_ok (by omega) (by omega) (by decide)).trans ?_ | rewrite [lt_v] | rewrite [bd_some] | rewrite [bd2_some] | rewrite [bdk (e2)] | rewrite [bd2k (finds_0 ρ)] | with_reducible refine (if_pos (by first | omega | (unfold w32; omega))).trans ?_ | with_reducible refine (if_neg (by first | omega | (unfold w32; omega))).trans ?_)); (repeat (first | with_reducible refine Eq.trans ?_ (if_pos (by first | omega | (unfold w32; omega))).symm | with_reducible refine Eq.trans ?_ (if_neg (by first | omega | (unfold w32; omega))).symm)); try rfl)
      · ((repeat (first | with_reducible refine (ag_ok (by omega) (by omega) (by decide)).trans ?_ | rewrite [lt_v] | rewrite [bd_some] | rewrite [bd2_some] | rewrite [bdk (e2)] | rewrite [bd2k (finds_0 ρ)] | with_reducible refine (if_pos (by first | omega | (unfold w32; omega))).trans ?_ | with_reducible refine (if_neg (by first | omega | (unfold w32; omega))).trans ?_)); (repeat (first | with_reducible refine Eq.trans ?_ (if_pos (by first | omega | (unfold w32; omega))).symm | with_reducible refine Eq.trans ?_ (if_neg (by first | omega | (unfold w32; omega))).symm)); try rfl)
  by_cases h1 : 0 ≤ a ∧ a ≤ 3
  · by_cases h3 : 0 ≤ i
    · obtain ⟨p, rfl⟩ := Int.eq_ofNat_of_zero_le h1.1
      obtain ⟨k, rfl⟩ := Int.eq_ofNat_of_zero_le h3
      have hp : p < 4 := by omega
      obtain ⟨τ', ρ', s1, s2, s3, s4, s5, s6, s7, s8, _, _⟩ := laySim h hp
      obtain ⟨⟨l1, l2, l3, l4, l5⟩, l6, l7, l8⟩ := s7
      have i1 := isPart_t (σ := τ) h1.1 h1.2
      have i2 := mPart_t (σ := ρ) h1.1 h1.2
      have hM := lle_le h.1 hp
      by_cases hk : k < (lle (ρ 112) p (nPg (ρ 112) p)).length
      · have c0 : nPg (ρ 112) p ≠ 0 := fun c => by rw [c] at hk; exact absurd hk (Nat.not_lt_zero _)
        rw [if_neg c0] at s2
        obtain ⟨⟨⟨m1, m2, m3⟩, m4, m5⟩, _⟩ := s8 c0
        have x1 := l7 k hk
        have y1 := m5 k hk
        refine ⟨((lle (ρ 112) p (nPg (ρ 112) p)).getD k 0 : Nat), τ', ρ', ?_, ?_, s3, s4, s5⟩
        · show X10_ends τ p k = _
          unfold X10_ends
          ((repeat (first | with_reducible refine (ag_ok (by omega) (by omega) (by decide)).trans ?_ | rewrite [lt_v] | rewrite [bd_some] | rewrite [bd2_some] | rewrite [bdk (i1)] | rewrite [bd2k (s1)] | rewrite [kg_ok (kd73 hp)] | rewrite [Int.toNat_natCast] | rewrite [x1] | rewrite [l2] | with_reducible refine (if_pos (by first | omega | (unfold w32; omega))).trans ?_ | with_reducible refine (if_neg (by first | omega | (unfold w32; omega))).trans ?_)); (repeat (first | with_reducible refine Eq.trans ?_ (if_pos (by first | omega | (unfold w32; omega))).symm | with_reducible refine Eq.trans ?_ (if_neg (by first | omega | (unfold w32; omega))).symm)); try rfl)
        · show X11_ends ρ p k = _
          unfold X11_ends
          ((repeat (first | with_reducible refine (ag_ok (by omega) (by omega) (by decide)).trans ?_ | rewrite [lt_v] | rewrite [bd_some] | rewrite [bd2_some] | rewrite [bdk (i2)] | rewrite [bd2k (s2)] | rewrite [Int.toNat_natCast] | rewrite [y1] | rewrite [m2] | with_reducible refine (if_pos (by first | omega | (unfold w32; omega))).trans ?_ | with_reducible refine (if_neg (by first | omega | (unfold w32; omega))).trans ?_)); (repeat (first | with_reducible refine Eq.trans ?_ (if_pos (by first | omega | (unfold w32; omega))).symm | with_reducible refine Eq.trans ?_ (if_neg (by first | omega | (unfold w32; omega))).symm)); try rfl)
      · refine sim_tell2 (x := fun τ => X10_ends τ p k) (y := fun ρ => X11_ends ρ p k) (k := 3) (c := -1000004) s3 s4 s5 (by omega) ?_ ?_
        · show X10_ends τ p k = _
          unfold X10_ends
          ((repeat (first | with_reducible refine (ag_ok (by omega) (by omega) (by decide)).trans ?_ | rewrite [lt_v] | rewrite [bd_some] | rewrite [bd2_some] | rewrite [bdk (i1)] | rewrite [bd2k (s1)] | rewrite [kg_ok (kd73 hp)] | rewrite [l2] | rewrite [bd2k (tell_3 τ')] | with_reducible refine (if_pos (by first | omega | (unfold w32; omega))).trans ?_ | with_reducible refine (if_neg (by first | omega | (unfold w32; omega))).trans ?_)); (repeat (first | with_reducible refine Eq.trans ?_ (if_pos (by first | omega | (unfold w32; omega))).symm | with_reducible refine Eq.trans ?_ (if_neg (by first | omega | (unfold w32; omega))).symm)); try rfl)
        · show X11_ends ρ p k = _
          unfold X11_ends X11_ends_B42
          by_cases c0 : nPg (ρ 112) p = 0
          · rw [if_pos c0] at s2
            ((repeat (first | with_reducible refine (ag_ok (by omega) (by omega) (by decide)).trans ?_ | rewrite [lt_v] | rewrite [bd_some] | rewrite [bd2_some] | rewrite [bdk (i2)] | rewrite [bd2k (s2)] | rewrite [bd2k (finds_3 ρ')] | with_reducible refine (if_pos (by first | omega | (unfold w32; omega))).trans ?_ | with_reducible refine (if_neg (by first | omega | (unfold w32; omega))).trans ?_)); (repeat (first | with_reducible refine Eq.trans ?_ (if_pos (by first | omega | (unfold w32; omega))).symm | with_reducible refine Eq.trans ?_ (if_neg (by first | omega | (unfold w32; omega))).symm)); try rfl)
          · rw [if_neg c0] at s2
            have m1 := (s8 c0).1.1.2.1
            ((repeat (first | with_reducible refine (ag_ok (by omega) (by omega) (by decide)).trans ?_ | rewrite [lt_v] | rewrite [bd_some] | rewrite [bd2_some] | rewrite [bdk (i2)] | rewrite [bd2k (s2)] | rewrite [m1] | rewrite [bd2k (finds_3 ρ')] | with_reducible refine (if_pos (by first | omega | (unfold w32; omega))).trans ?_ | with_reducible refine (if_neg (by first | omega | (unfold w32; omega))).trans ?_)); (repeat (first | with_reducible refine Eq.trans ?_ (if_pos (by first | omega | (unfold w32; omega))).symm | with_reducible refine Eq.trans ?_ (if_neg (by first | omega | (unfold w32; omega))).symm)); try rfl)
    · exact nobody 1 (isPart_t h1.1 h1.2) (mPart_t h1.1 h1.2) (Or.inr ⟨rfl, by omega⟩)
  · exact nobody 0 (isPart_f h1 ha) (mPart_f h1 ha) (Or.inl rfl)
