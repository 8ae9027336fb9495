/-! layings: the class's by cache, the reference's anew -/
theorem kg_ok {α : Type} {n k : Nat} {x : Option α} (h : kd k = n) : kg n k x = x := if_pos h
theorem c_layingOf {r : Nat → Int} (hw : WF r) {p : Nat} (hp : p < 4) {τ : Mem} (hc : CRB 1 r τ) (ha : CA r τ) : ∃ τ', X10_layingOf τ p = some (73 + 10 * p, τ') ∧ (∀ q, q < 53 ∨ (61 < q ∧ q < 71) ∨ 110 < q → τ' q = τ q) ∧ (∀ j, j < 5 ∨ 7 < j → τ' 53 j = τ 53 j) ∧ (∀ q, 71 ≤ q → q < 71 + 10 * p ∨ 80 + 10 * p < q → τ' q = τ q) ∧ CA r τ' ∧ LYc r p τ' (nPg r p) := by
  have h40 := hw.bars hp
  have hme := hw.mem hp
  obtain ⟨N, hN⟩ : ∃ N : Nat, r (9 + 165 * p) = N := ⟨(r (9 + 165 * p)).toNat, by omega⟩
  unfold X10_layingOf
  rw [ag_nat hp (by decide)]
  rcases (ha p hp).2 with h | ⟨h, h2⟩
  · obtain ⟨τ1, t1, t2, t3, t4⟩ := c_tableOf hw hp hc ha
    have hc1 : CRB 1 r τ1 := hc.frame (fun k _ _ => t2 k (by omega) (by omega) (by omega) (by omega) (by omega))
    have e1 : τ1 (9 + 3 * p + 1) (1 : Int).toNat = r (6 + 165 * p) := by
      rw [show 9 + 3 * p + 1 = 10 + 3 * p by omega, show (1 : Int).toNat = 1 from rfl, hc1.trt hp (by omega), show 5 + 165 * p + 1 = 6 + 165 * p by omega]
    obtain ⟨τ2, u1, u2, u3⟩ := c_findEase hw hp hme hc1
    have hc2 : CRB 1 r τ2 := hc1.frame (fun k _ _ => u2 k (by omega))
    have e3 : τ2 (9 + 3 * p + 1) (3 : Int).toNat = r (8 + 165 * p) := by
      rw [show 9 + 3 * p + 1 = 10 + 3 * p by omega, show (3 : Int).toNat = 3 from rfl, hc2.trt hp (by omega), show 5 + 165 * p + 3 = 8 + 165 * p by omega]
    obtain ⟨τ3, v1, v2, v3, v4, v5⟩ := c_weigh hw hp hN (pk := pkn r p 3) (sp := spB r p) (fun b k _ hk => bnd_pkn hw hp (by omega) 3 (by omega)) hc2 (by rw [u2 _ (by omega), t4.1, hN]) (fun b k k1 k2 => by rw [u2 _ (by omega)]; exact t4.2 b k k1 (by omega)) (fun k hk => by
      rw [u3 k (by omega)]
      have := esS_in hw hp (r (6 + 165 * p)) k
      exact ⟨by omega, by omega, rfl⟩)
    have hc3 : CRB 1 r τ3 := hc2.frame (fun k _ _ => v2 k (by omega) (by omega) (by omega))
    obtain ⟨τ4, w1, w2, w3, w4⟩ := c_layOut hw hp hN hc3 v4 v5
    have ca3 : CA r τ3 := (t3.frame (fun q _ _ => u2 q (by omega))).frame (fun q _ _ => v2 q (by omega) (by omega) (by omega))
    refine ⟨τ4, ?_, fun q hq => ?_, fun j hj => ?_, fun q q1 q2 => ?_, fun p' hp' => ?_, w4⟩
    · have hkd : kd (71 + 10 * p) = 4 := by
        rcases (by omega : p = 0 ∨ p = 1 ∨ p = 2 ∨ p = 3) with rfl | rfl | rfl | rfl <;> rfl
      rw [h, if_neg (by decide), ag_nat hp (by decide), bd2k t1, kg_ok hkd, ag_ok (by omega) (by omega) (by decide), e1, bdk u1, ag_ok (by omega) (by omega) (by decide), e3, bdk v1, bdk w1]
    · rw [w2 q (by omega) (by omega) (by omega) (by omega), v2 q (by omega) (by omega) (by omega), u2 q (by omega), t2 q (by omega) (by omega) (by omega) (by omega) (by omega)]
    · rw [w2 53 (by omega) (by omega) (by omega) (by omega), v3 j hj, u2 53 (by omega), t2 53 (by omega) (by omega) (by omega) (by omega) (by omega)]
    · rw [w2 q (by omega) (by omega) (by omega) (by omega), v2 q (by omega) (by omega) (by omega), u2 q (by omega), t2 q (by omega) (by omega) (by omega) (by omega) (by omega)]
    · by_cases hpp : p' = p
      · rw [hpp]
        refine ⟨?_, Or.inr ⟨w3, w4⟩⟩
        rw [w2 (71 + 10 * p) (by omega) (by omega) (by omega) (by omega)]
        exact (ca3 p hp).1.imp id (fun c => ⟨c.1, c.2.frame (w2 _ (by omega) (by omega) (by omega) (by omega)) (w2 _ (by omega) (by omega) (by omega) (by omega))⟩)
      · have f : ∀ q, 71 + 10 * p' ≤ q → q ≤ 80 + 10 * p' → τ4 q = τ3 q := fun q q1 q2 => w2 q (by omega) (by omega) (by omega) (by omega)
        obtain ⟨h1, h2⟩ := ca3 p' hp'
        rw [f _ (by omega) (by omega), f (73 + 10 * p') (by omega) (by omega)]
        exact ⟨h1.imp id (fun c => ⟨c.1, c.2.frame (f _ (by omega) (by omega)) (f _ (by omega) (by omega))⟩), h2.imp id (fun c => ⟨c.1, c.2.frame (fun q q1 q2 => f q (by omega) (by omega))⟩)⟩
  · refine ⟨τ, ?_, fun _ _ => rfl, fun _ _ => rfl, fun _ _ _ => rfl, ha, h2⟩
    rw [h, if_pos (by decide)]
/-! the reference's lines of a page -/
theorem m_seek {r : Nat → Int} (hw : WF r) {p s : Nat} (hp : p < 4) (hs : s < 3) {ρ : Mem} {b e l i cnt : Nat} {c0 v : Int} (he : (e : Int) < r (9 + 165 * p)) (hl : l < 6) (hm : LM r p s ρ) (ht : TM r p s e ρ l) (hv : tl r p s e (l + 1) b = some v) (h24 : ρ 111 24 = cnt) (hcnt : cnt < 40) (hi : i < 40) (h129 : ρ 129 i = c0) (rec : Mem → Int → Int → Int → Int → Int → Int → Option Mem) : ∀ (n k f : Nat), k + n = e → n < f → b ≤ k → (∃ j, k ≤ j ∧ j ≤ e ∧ decide (oad (lnc r p s b j) (tl r p s e l (j + 1)) = tl r p s e (l + 1) b) = true) → ∃ x, lnc r p s b (fnd1 (fun k => decide (oad (lnc r p s b k) (tl r p s e l (k + 1)) = tl r p s e (l + 1) b)) n k) = some x ∧ X11_layLines_L76 rec f ρ i s e b ((l + 1 : Nat) : Int) v k = rec (st (st (st ρ 132 cnt ((fnd1 (fun k => decide (oad (lnc r p s b k) (tl r p s e l (k + 1)) = tl r p s e (l + 1) b)) n k : Nat) : Int)) 111 24 ((cnt : Int) + 1)) 129 i (c0 + 1)) i s e (((fnd1 (fun k => decide (oad (lnc r p s b k) (tl r p s e l (k + 1)) = tl r p s e (l + 1) b)) n k : Nat) : Int) + 1) l (v - x) := by
  have h40 := hw.bars hp
  have hs2 : 0 ≤ (s : Int) ∧ (s : Int) ≤ 2 := by omega
  have bv := bnd_tl hw hp hs2 he (L := l + 1) (b := b) (by omega) v hv
  have found : ∀ (k f : Nat) (x : Int), b ≤ k → k ≤ e → lnc r p s b k = some x → oad (lnc r p s b k) (tl r p s e l (k + 1)) = tl r p s e (l + 1) b → X11_layLines_L76 rec (f + 1) ρ i s e b ((l + 1 : Nat) : Int) v k = rec (st (st (st ρ 132 cnt (k : Int)) 111 24 ((cnt : Int) + 1)) 129 i (c0 + 1)) i s e ((k : Int) + 1) l (v - x) := by
    intro k f x k1 k2 hx heq
    have hcl := m_cell ρ s b k
    have hcl2 : cel s b k < 4800 := by unfold cel; omega
    have q5 : ρ 117 (cel s b k) = x := by rw [hm b (by omega) k k1 (by omega), hx]; rfl
    have bx := bnd_lnc hw hp hs2 (a := b) (k := k) (by omega) k1 x hx
    rw [hx, hv] at heq
    obtain ⟨x', y, e1, e2, e3⟩ := oad_some heq
    have : x' = x := (Option.some.inj e1).symm
    subst this
    have by_ := bnd_tl hw hp hs2 (e := e) (L := l) (b := k + 1) he (by omega) y e2
    have q7 : ρ 119 (41 * (((l + 1 : Nat) : Int) - 1) + k + 1).toNat = y := by
      rw [show (41 * (((l + 1 : Nat) : Int) - 1) + k + 1).toNat = 41 * l + (k + 1) by omega, ht (k + 1) (by omega), e2]; rfl
    show X11_layLines_B76 _ _ _ _ _ _ _ _ _ _ = _
    unfold X11_layLines_B76
    rw [bdk hcl, ag_nat hcl2 (by decide), q5, if_neg (by first | omega | (unfold w32; omega)), ag_ok (by omega) (by omega) (by decide), q7, if_neg (by first | omega | (unfold w32; omega)), bdk hcl, ag_nat hcl2 (by decide), q5, ag_ok (by omega) (by omega) (by decide), q7, e3, if_pos rfl, bdk hcl, ag_nat hcl2 (by decide), q5, lt_v, lt_v, h24, ag_nat hcnt (by decide), lt_v]
    rw [show st ρ 132 cnt (k : Int) 111 24 = cnt by rw [st_ne (by omega)]; exact h24, lt_v, ag_nat hi (by decide), ag_nat hi (by decide)]
    rw [show st (st ρ 132 cnt (k : Int)) 111 24 ((cnt : Int) + 1) 129 i = c0 by rw [st_ne (by omega), st_ne (by omega)]; exact h129, lt_v, lt_v]
    rw [show ((l + 1 : Nat) : Int) + -1 = l by omega]
  have skip : ∀ (k f : Nat), b ≤ k → k ≤ e → oad (lnc r p s b k) (tl r p s e l (k + 1)) ≠ tl r p s e (l + 1) b → X11_layLines_L76 rec (f + 1) ρ i s e b ((l + 1 : Nat) : Int) v k = X11_layLines_L76 rec f ρ i s e b ((l + 1 : Nat) : Int) v ((k : Int) + 1) := by
    intro k f k1 k2 hne
    have hcl := m_cell ρ s b k
    have hcl2 : cel s b k < 4800 := by unfold cel; omega
    have q5 : ρ 117 (cel s b k) = eM (lnc r p s b k) := hm b (by omega) k k1 (by omega)
    have q7 : ρ 119 (41 * (((l + 1 : Nat) : Int) - 1) + k + 1).toNat = eM (tl r p s e l (k + 1)) := by
      rw [show (41 * (((l + 1 : Nat) : Int) - 1) + k + 1).toNat = 41 * l + (k + 1) by omega, ht (k + 1) (by omega)]
    have b1 := bnd_lnc hw hp hs2 (a := b) (k := k) (by omega) k1
    have b2 := bnd_tl hw hp hs2 (e := e) (L := l) (b := k + 1) (by omega) (by omega)
    show X11_layLines_B76 _ _ _ _ _ _ _ _ _ _ = _
    unfold X11_layLines_B76 X11_layLines_B154
    rw [bdk hcl, ag_nat hcl2 (by decide), q5]
    rcases eM_w b1 with ⟨u1, u2⟩ | ⟨v1, u1, u2, u3⟩
    · rw [u2, if_pos rfl, lt_v]
    · rw [u2, if_neg (by first | omega | (unfold w32; omega)), ag_ok (by omega) (by omega) (by decide), q7]
      rcases eM_w b2 with ⟨w1, w2⟩ | ⟨v2, w1, w2, w3⟩
      · rw [w2, if_pos rfl, lt_v]
      · rw [w2, if_neg (by first | omega | (unfold w32; omega)), bdk hcl, ag_nat hcl2 (by decide), q5, u2, ag_ok (by omega) (by omega) (by decide), q7, w2]
        rw [u1, w1, hv] at hne
        have hq : v1 + v2 ≠ v := fun h => hne (by rw [← h]; rfl)
        rw [if_neg (by first | omega | (unfold w32; omega)), lt_v]
  have line : ∀ k, oad (lnc r p s b k) (tl r p s e l (k + 1)) = tl r p s e (l + 1) b → ∃ x, lnc r p s b k = some x := fun k hk => by
    rw [hv] at hk
    obtain ⟨x, y, e1, e2, e3⟩ := oad_some hk
    exact ⟨x, e1⟩
  intro n
  induction n with
  | zero =>
    intro k f h1 h2 h3 ⟨j, j1, j2, j3⟩
    obtain ⟨f, rfl⟩ : ∃ x, f = x + 1 := ⟨f - 1, by omega⟩
    have hjk : j = k := by omega
    rw [hjk] at j3
    have hd := of_decide_eq_true j3
    obtain ⟨x, hx⟩ := line k hd
    exact ⟨x, hx, found k f x h3 (by omega) hx hd⟩
  | succ n ih =>
    intro k f h1 h2 h3 hex
    obtain ⟨f, rfl⟩ : ∃ x, f = x + 1 := ⟨f - 1, by omega⟩
    unfold fnd1
    by_cases hd : decide (oad (lnc r p s b k) (tl r p s e l (k + 1)) = tl r p s e (l + 1) b) = true
    · rw [if_pos hd]
      have hd' := of_decide_eq_true hd
      obtain ⟨x, hx⟩ := line k hd'
      exact ⟨x, hx, found k f x h3 (by omega) hx hd'⟩
    · rw [if_neg hd, skip k f h3 (by omega) (fun c => hd (decide_eq_true c))]
      obtain ⟨j, j1, j2, j3⟩ := hex
      exact ih (k + 1) f (by omega) (by omega) (by omega) ⟨j, by
        by_cases hj : j = k
        · rw [hj] at j3; exact absurd j3 hd
        · omega, j2, j3⟩
