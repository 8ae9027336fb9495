/-! the class's laying, as far as page i -/
def LYc (r : Nat → Int) (p : Nat) (τ : Mem) (i : Nat) : Prop :=
  (τ (73 + 10 * p) 0 = i ∧ τ (73 + 10 * p) 1 = ((lle r p i).length : Int) ∧ τ (73 + 10 * p) 2 = sto r p i ∧ τ (73 + 10 * p) 3 = tro r p i ∧ τ (73 + 10 * p) 4 = csS r p i) ∧
  (∀ j, j < i → τ (73 + 10 * p + 1) j = ps r p j ∧ τ (73 + 10 * p + 2) j = pz r p j ∧ τ (73 + 10 * p + 3) j = pkv r p j % 4 ∧ τ (73 + 10 * p + 4) j = ((pln r p j).length : Int) ∧ τ (73 + 10 * p + 5) j = pkv r p j / 4) ∧
  (∀ j, j < (lle r p i).length → τ (73 + 10 * p + 6) j = ((lle r p i).getD j 0 : Nat)) ∧
  ∀ b, b < 40 → τ (73 + 10 * p + 7) b = tbs r p i b
theorem tk_012 (r : Nat → Int) (p i : Nat) : tk r p i = 0 ∨ tk r p i = 1 ∨ tk r p i = 2 := by
  unfold tk
  split
  · split
    · exact Or.inr (Or.inr rfl)
    · exact Or.inr (Or.inl rfl)
  · exact Or.inl rfl
theorem getD_app_l {l m : List Nat} {j : Nat} (h : j < l.length) : (l ++ m).getD j 0 = l.getD j 0 := by
  simp [List.getD, List.getElem?_append_left h]
theorem getD_app_r {l m : List Nat} {j : Nat} : (l ++ m).getD (l.length + j) 0 = m.getD j 0 := by
  simp [List.getD, List.getElem?_append_right]
theorem c_turnOf {r : Nat → Int} {p i e N x : Nat} {τ : Mem} (hx : r (8 + 165 * p) = (x : Nat)) (hx2 : x < 1024) (h1 : τ (71 + 10 * p) 1 = N) (h2 : τ 53 5 = ((trn x : Nat) : Int)) (h3 : τ 53 6 = r 2) (he : e < N) (hN : N ≤ 40) (hn : 0 ≤ r 2 ∧ r 2 ≤ 999) (h4 : -1 ≤ τ 58 e ∧ τ 58 e ≤ 200000) {s : Bool} (h5 : s = decide (τ 58 e < r 2)) : X1_turnOf τ (71 + 10 * p) ((qst i : Nat) : Int) e = some (if e + 1 < N ∧ tnB x i = true then (if s = true then 2 else 1) else 0) := by
  have hq := qst_lt i
  have hbit := bit_nat (x := trn x) (k := qst i) (by have := trn_lt x; omega) (by omega)
  have htn : (trn x).testBit (qst i) = tnB x i := by rw [← tnB_t hx2 hq, tnB_q hx2]
  unfold X1_turnOf
  rw [h1]
  by_cases c1 : e + 1 < N
  · rw [if_neg (by first | omega | (unfold w32; omega)), h2, hbit, htn]
    by_cases c2 : tnB x i = true
    · have hR : (if e + 1 < N ∧ tnB x i = true then (if s = true then (2 : Int) else 1) else 0) = if s = true then 2 else 1 := if_pos ⟨c1, c2⟩
      rw [if_pos c2, if_pos (by decide), ag_nat (by omega) (by decide), h3, hR, h5]
      by_cases c3 : τ 58 e < r 2
      · rw [if_pos (by first | omega | (unfold w32; omega)), if_pos (decide_eq_true c3)]
      · rw [if_neg (by first | omega | (unfold w32; omega)), if_neg (by simp [c3])]
    · have hR : (if e + 1 < N ∧ tnB x i = true then (if s = true then (2 : Int) else 1) else 0) = 0 := if_neg (fun c => c2 c.2)
      rw [if_neg c2, if_neg (by decide), hR]
  · have hR : (if e + 1 < N ∧ tnB x i = true then (if s = true then (2 : Int) else 1) else 0) = 0 := if_neg (fun c => c1 c.1)
    rw [if_pos (by first | omega | (unfold w32; omega)), hR]
theorem c_layStep {r : Nat → Int} (hw : WF r) {p : Nat} (hp : p < 4) {N i : Nat} (hN : r (9 + 165 * p) = N) (hi : i < nPg r p) {τ : Mem} (hc : CRB 1 r τ) (he : envW N (pkn r p 3) (r 4) (spB r p) (r (8 + 165 * p)).toNat p (r 2) τ) (hW : ∀ c, c ≤ N → CW N (pkn r p 3) (r 4) (tnB (r (8 + 165 * p)).toNat) (spB r p) τ c) (hl : LYc r p τ i) (rec : Mem → Nat → Nat → Nat → Nat → Int → Int → Int → Option Mem) : ∃ τ', X1_layOut_B35 rec τ (9 + 3 * p) 3 (71 + 10 * p) (73 + 10 * p) (ps r p i) (qst i : Nat) i = rec τ' (9 + 3 * p) 3 (71 + 10 * p) (73 + 10 * p) ((ps r p (i + 1) : Nat) : Int) ((qst (i + 1) : Nat) : Int) ((i : Int) + 1) ∧ (∀ q, q ≠ 55 → q ≠ 56 → q ≠ 57 → q < 73 + 10 * p ∨ 80 + 10 * p < q → τ' q = τ q) ∧ τ' (73 + 10 * p) 5 = τ (73 + 10 * p) 5 ∧ LYc r p τ' (i + 1) := by
  have h40 := hw.bars hp
  have hfl := hw.flds hp
  have hn := hw.need
  have h6 := hw.lines
  obtain ⟨x, hx⟩ : ∃ x : Nat, r (8 + 165 * p) = x := ⟨(r (8 + 165 * p)).toNat, by omega⟩
  obtain ⟨L, hL⟩ : ∃ L : Nat, r 1 = L := ⟨(r 1).toNat, by omega⟩
  obtain ⟨f1, f2, f3, f4, ⟨w, f5, f5'⟩, f6, f7⟩ := pgf hw hp hi
  have hq := qst_lt i
  have hlen := lle_len hw hp i (by omega)
  have bv := bnd_pkn hw hp (a := ps r p i) (e := pz r p i) (by omega) 3 (by omega) _ f4
  -- the page's end
  have e61 : τ 61 (12 * ps r p i + qst i) = pz r p i := by
    have h1 := (hW (ps r p i) (by omega) (qst i) hq).2 (by omega) w
    rw [bW_q (fun g => tnB_q (by omega))] at h1
    rw [h1 (by
      have := f5
      unfold bL at this
      rw [hN, Int.toNat_natCast] at this
      exact this), f5']
  have hcell := he.2.2.2.2.1 (ps r p i) (pz r p i) f2 (by omega)
  rw [f4, show eC (some (pkv r p i)) = pkv r p i from rfl] at hcell
  have hsz := c_sizeOf (τ := τ) (p := p) (b := ps r p i) (k := pz r p i) (by omega) (by omega) hcell
  have hco := c_costOf (τ := τ) (p := p) (b := ps r p i) (k := pz r p i) (by omega) (by omega) bv hcell
  obtain ⟨⟨l1, l2, l3, l4, l5⟩, l6, l7, l8⟩ := hl
  obtain ⟨τ1, t1, t2, t3, t4, t5, t6, t7, t8⟩ := c_addPage (τ := τ) (l0 := 73 + 10 * p) (i := i) (a := (ps r p i : Int)) (e := (pz r p i : Int)) (s := pkv r p i % 4) (pc := pkv r p i / 4) (pp := r 4) l1 (by omega)
  have hes := he.2.2.2.2.2 (pz r p i) (by omega)
  have htu := c_turnOf (r := r) (p := p) (i := i) (e := pz r p i) (N := N) (τ := τ1) (s := spB r p (pz r p i)) hx (by omega) (by rw [t2 _ (by omega)]; exact he.2.2.2.1) (by rw [t2 _ (by omega)]; have := he.1; rw [hx] at this; exact this) (by rw [t2 _ (by omega)]; exact he.2.1) (by omega) (by omega) hn (by rw [t2 58 (by omega)]; exact ⟨hes.1, hes.2.1⟩) (by rw [t2 58 (by omega)]; exact hes.2.2)
  have htk : (if pz r p i + 1 < N ∧ tnB x i = true then (if spB r p (pz r p i) = true then (2 : Int) else 1) else 0) = tk r p i := by
    unfold tk
    rw [hN, hx, Int.toNat_natCast, Int.toNat_natCast]
  rw [htk] at htu
  obtain ⟨τ2, u1, u2, u3, u4, u5, u6⟩ := c_addTurn (τ := τ1) (l0 := 73 + 10 * p) (e := pz r p i) (t := tk r p i) (by omega) (tk_012 r p i)
  have hc2 : CRB 1 r τ2 := (hc.frame (fun k _ _ => t2 k (by omega))).frame (fun k _ _ => u2 k (by omega) (by omega))
  obtain ⟨τ3, v1, v2, v3⟩ := c_fill hw hp (s := pkv r p i % 4) f6 (a := ps r p i) (e := pz r p i) (by omega) f2 hc2
  have e31 : τ3 3 (1 : Int).toNat = L := by
    rw [v2 3 (by omega) (by omega), ← hL]
    exact hc2.rul (by omega)
  obtain ⟨τ4, w1, w2, w3⟩ := c_fillPages hw hp (s := pkv r p i % 4) f6 (a := ps r p i) (e := pz r p i) (E := pz r p i) (L := L) (by omega) (by omega) f2 (by omega) v3
  have e41 : τ4 3 (1 : Int).toNat = L := by rw [w2 3 (by omega)]; exact e31
  -- frames of cells of the laying up to here
  have g0 : ∀ q, 73 + 10 * p ≤ q → τ4 q = τ2 q := fun q hq => by rw [w2 q (by omega), v2 q (by omega) (by omega)]
  have a1 : τ4 (73 + 10 * p) 1 = ((lle r p i).length : Int) := by rw [g0 _ (by omega), u4 1 (by omega) (by omega), t3, up_ne (by omega), up_ne (by omega)]; exact l2
  have a0 : τ4 (73 + 10 * p) 0 = (i : Int) + 1 := by rw [g0 _ (by omega), u4 0 (by omega) (by omega), t3, up_at]
  have a4 : τ4 (73 + 10 * p + 4) i = ((0 : Nat) : Int) := by rw [g0 _ (by omega), u2 _ (by omega) (by omega), t7, up_at]; rfl
  have hgc : tl r p (pkv r p i % 4) (pz r p i) L (ps r p i) = some (pkv r p i / 4) := by
    have := f7
    unfold pgc at this
    rw [hL, Int.toNat_natCast, Int.toNat_of_nonneg f6.1] at this
    exact this
  obtain ⟨τ5, x1, x2, x3, x4, x5, x6, x7, x8⟩ := c_addLines hw hp (s := pkv r p i % 4) f6 (a := ps r p i) (e := pz r p i) (l0 := 73 + 10 * p) (i := i) (by omega) (by omega) (by omega) L (ps r p i) 5000 (lle r p i).length 0 τ4 (by omega) (by omega) (by omega) (by omega) hlen (fun _ => by rw [hgc]; simp) a1 a0 a4 (fun c c1 c2 => (v3 c c1 c2).frame (by omega) (by rw [w2 56 (by omega)]) (fun j _ _ => by rw [w2 55 (by omega)])) (fun m hm => w3 m hm)
  have x1' : X1_addLines τ4 (ps r p i) (pz r p i) L (73 + 10 * p) = some τ5 := x1
  have hpl : pln r p i = lns r p (pkv r p i % 4) (pz r p i) L (ps r p i) := by unfold pln; rw [hL, Int.toNat_natCast]
  rw [← hpl] at x5 x6 x8
  have hfo := c_following (σ := τ5) (q := qst i) hq
  rw [qst_s] at hfo
  refine ⟨τ5, ?_, fun q q1 q2 q3 q4 => by rw [x2 q (by omega) (by omega) (by omega), w2 q q3, v2 q q1 q2, u2 q (by omega) (by omega), t2 q (by omega)], by rw [x3 5 (by omega), g0 _ (by omega), u4 5 (by omega) (by omega), t3, up_ne (by omega), up_ne (by omega)], ⟨?_, ?_, ?_, ?_, ?_⟩, fun j hj => ?_, fun j hj => ?_, fun b hb => ?_⟩
  · unfold X1_layOut_B35
    rw [if_neg (by first | omega | (unfold w32; omega)), he.2.2.2.1, if_neg (by first | omega | (unfold w32; omega)), ag_ok (by omega) (by omega) (by decide), lt_v, show ((ps r p i : Int) * 12 + ((qst i : Nat) : Int)).toNat = 12 * ps r p i + qst i by omega, e61]
    rw [bdk hsz, bdk hco, he.2.2.1, bdk t1, bdk htu, bdk u1, bdk v1, show ln 3 = 5 from rfl, ag_ok (by omega) (by omega) (by decide), e31, bdk w1, ag_ok (by omega) (by omega) (by decide), e41, bdk x1', lt_v, bdk hfo, lt_v, ps_s]
    rfl
  · rw [x3 0 (by omega), a0]; rfl
  · rw [x5]
    show _ = ((lle r p i ++ pln r p i).length : Int)
    rw [List.length_append]
  · rw [x3 2 (by omega), g0 _ (by omega), u6, t3, up_ne (by omega), up_ne (by omega), l3]; rfl
  · rw [x3 3 (by omega), g0 _ (by omega), u5, t3, up_ne (by omega), up_ne (by omega), l4]; rfl
  · rw [x3 4 (by omega), g0 _ (by omega), u4 4 (by omega) (by omega), t3, up_ne (by omega), up_at, l5]; rfl
  · have y1 : τ5 (73 + 10 * p + 1) = up (τ (73 + 10 * p + 1)) i (ps r p i) := by rw [x2 _ (by omega) (by omega) (by omega), g0 _ (by omega), u2 _ (by omega) (by omega), t4]
    have y2 : τ5 (73 + 10 * p + 2) = up (τ (73 + 10 * p + 2)) i (pz r p i) := by rw [x2 _ (by omega) (by omega) (by omega), g0 _ (by omega), u2 _ (by omega) (by omega), t5]
    have y3 : τ5 (73 + 10 * p + 3) = up (τ (73 + 10 * p + 3)) i (pkv r p i % 4) := by rw [x2 _ (by omega) (by omega) (by omega), g0 _ (by omega), u2 _ (by omega) (by omega), t6]
    have y5 : τ5 (73 + 10 * p + 5) = up (τ (73 + 10 * p + 5)) i (pkv r p i / 4) := by rw [x2 _ (by omega) (by omega) (by omega), g0 _ (by omega), u2 _ (by omega) (by omega), t8]
    rw [y1, y2, y3, y5]
    by_cases hji : j = i
    · rw [hji, up_at, up_at, up_at, up_at, x6, Nat.zero_add]
      exact ⟨rfl, rfl, rfl, rfl, rfl⟩
    · rw [up_ne hji, up_ne hji, up_ne hji, up_ne hji, x4 j hji, g0 _ (by omega), u2 _ (by omega) (by omega), t7, up_ne hji]
      exact l6 j (by omega)
  · show _ = (((lle r p i ++ pln r p i).getD j 0 : Nat) : Int)
    have hj2 : j < (lle r p i).length + (pln r p i).length := by
      have : (lle r p (i + 1)).length = (lle r p i).length + (pln r p i).length := List.length_append
      omega
    by_cases hjl : j < (lle r p i).length
    · rw [x7 j hjl, getD_app_l hjl, g0 _ (by omega), u2 _ (by omega) (by omega), t2 _ (by omega)]
      exact l7 j hjl
    · obtain ⟨d, rfl⟩ : ∃ d, j = (lle r p i).length + d := ⟨j - (lle r p i).length, by omega⟩
      rw [x8 d (by omega), getD_app_r]
  · rw [x2 _ (by omega) (by omega) (by omega), g0 _ (by omega), u3, t2 _ (by omega)]
    show _ = if b = pz r p i then tk r p i else tbs r p i b
    by_cases hbz : b = pz r p i
    · rw [hbz, up_at, if_pos rfl]
    · rw [up_ne hbz, if_neg hbz]
      exact l8 b hb
