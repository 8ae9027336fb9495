/-! the class's table of pages -/
def pgc (r : Nat → Int) (p s a e : Nat) : Option Int := tl r p s e (r 1).toNat a
def pe (r : Nat → Int) (p s a e : Nat) : Option Int := (pgc r p s a e).map (fun c => 4 * c + s)
def pkn (r : Nat → Int) (p : Nat) : Nat → Nat → Nat → Option Int
  | 0, _, _ => none
  | n + 1, a, e => omn (pkn r p n a e) (pe r p n a e)
theorem oad_none (x : Option Int) : oad x none = none := by cases x <;> rfl
theorem tl_no {r : Nat → Int} {p : Nat} {s : Int} {e : Nat} (h : meS r p e = 0) : ∀ (L b : Nat), b ≤ e → tl r p s e L b = none
  | 0, b, hb => if_neg (by omega)
  | L + 1, b, hb => by
    show (if b = e + 1 then some 0 else _) = none
    rw [if_neg (by omega)]
    refine mnr_none _ _ _ (fun j j1 j2 => ?_)
    by_cases hj : j = e
    · have : lnc r p s b j = none := by
        unfold lnc
        rw [hj, if_neg (fun c => c.2 h)]
      show oad (lnc r p s b j) _ = none
      rw [this]; rfl
    · show oad _ (tl r p s e L (j + 1)) = none
      rw [tl_no h L (j + 1) (by omega), oad_none]
theorem bnd_pgc {r : Nat → Int} (hw : WF r) {p : Nat} (hp : p < 4) {s : Nat} (hs : s < 3) {a e : Nat} (he : (e : Int) < r (9 + 165 * p)) : bnd (pgc r p s a e) := by
  have := hw.lines
  exact bnd_tl hw hp (by omega) he (by omega)
theorem pe_some {r : Nat → Int} {p s a e : Nat} {v : Int} (h : pe r p s a e = some v) : ∃ c, pgc r p s a e = some c ∧ v = 4 * c + s := by
  unfold pe at h
  cases hc : pgc r p s a e with
  | none => rw [hc] at h; cases h
  | some c => rw [hc] at h; exact ⟨c, rfl, (Option.some.inj h).symm⟩
theorem bnd_pe {r : Nat → Int} (hw : WF r) {p : Nat} (hp : p < 4) {s : Nat} (hs : s < 3) {a e : Nat} (he : (e : Int) < r (9 + 165 * p)) : bnd (pe r p s a e) := fun v h => by
  obtain ⟨c, h1, h2⟩ := pe_some h
  have h6 := hw.lines
  have := tl_in hw hp (s := (s : Int)) (by omega) he _ _ _ h1
  omega
theorem bnd_pkn {r : Nat → Int} (hw : WF r) {p : Nat} (hp : p < 4) {a e : Nat} (he : (e : Int) < r (9 + 165 * p)) : ∀ n, n ≤ 3 → bnd (pkn r p n a e)
  | 0, _ => fun v h => by cases h
  | n + 1, h => omn_in (P := fun v => -1000 ≤ v ∧ v ≤ 1000000) (bnd_pkn hw hp he n (by omega)) (bnd_pe hw hp (by omega) he)
theorem c_takeCheaper {r : Nat → Int} (hw : WF r) {p : Nat} (hp : p < 4) {s e L : Nat} (hs : s < 3) (he : (e : Int) < r (9 + 165 * p)) (hL : (L : Int) = r 1) {l0 : Nat} (hl0 : 60 ≤ l0) : ∀ (n a f : Nat) (τ : Mem), a + n = e + 1 → n < f → (∀ b, b ≤ e → τ 57 (41 * L + b) = eC (pgc r p s b e)) → (∀ b, b < a → τ (l0 + 1) (40 * b + e) = eC (pkn r p (s + 1) b e)) → (∀ b, a ≤ b → b ≤ e → τ (l0 + 1) (40 * b + e) = eC (pkn r p s b e)) → ∃ τ', X4_takeCheaper_L3 f τ l0 L e s a = some τ' ∧ (∀ q, q ≠ l0 + 1 → τ' q = τ q) ∧ (∀ b k, k < 40 → k ≠ e → τ' (l0 + 1) (40 * b + k) = τ (l0 + 1) (40 * b + k)) ∧ ∀ b, b ≤ e → τ' (l0 + 1) (40 * b + e) = eC (pkn r p (s + 1) b e) := by
  have h40 := hw.bars hp
  have h6 := hw.lines
  intro n
  induction n with
  | zero =>
    intro a f τ h1 h2 h3 h4 h5
    obtain ⟨f, rfl⟩ : ∃ x, f = x + 1 := ⟨f - 1, by omega⟩
    refine ⟨τ, ?_, fun _ _ => rfl, fun _ _ _ _ => rfl, fun b hb => h4 b (by omega)⟩
    show X4_takeCheaper_B3 _ _ _ _ _ _ _ = _
    unfold X4_takeCheaper_B3
    ((repeat (first | with_reducible refine (ag_ok (by omega) (by omega) (by decide)).trans ?_ | rewrite [lt_v] | rewrite [bd_some] | rewrite [bd2_some] | with_reducible refine (if_pos (by first | omega | (unfold w32; omega))).trans ?_ | with_reducible refine (if_neg (by first | omega | (unfold w32; omega))).trans ?_)); (repeat (first | with_reducible refine Eq.trans ?_ (if_pos (by first | omega | (unfold w32; omega))).symm | with_reducible refine Eq.trans ?_ (if_neg (by first | omega | (unfold w32; omega))).symm)); try rfl)
  | succ n ih =>
    intro a f τ h1 h2 h3 h4 h5
    obtain ⟨f, rfl⟩ : ∃ x, f = x + 1 := ⟨f - 1, by omega⟩
    have hpc := c_pageCost (τ := τ) (L := L) (b := a) (by omega) (by omega)
    rw [h3 a (by omega)] at hpc
    show ∃ τ', X4_takeCheaper_B3 _ _ _ _ _ _ _ = _ ∧ _
    unfold X4_takeCheaper_B3 X4_takeCheaper_B58
    rw [if_neg (by first | omega | (unfold w32; omega)), bdk hpc]
    rcases eC_w (bnd_pgc hw hp hs (a := a) (e := e) he) with ⟨u1, u2⟩ | ⟨v1, u1, u2, u3⟩
    · rw [u2, if_pos (by decide), lt_v]
      exact ih (a + 1) f τ (by omega) (by omega) h3 (fun b hb => by
        by_cases hba : b = a
        · rw [hba, h5 a (by omega) (by omega)]
          show _ = eC (omn (pkn r p s a e) ((pgc r p s a e).map _))
          rw [u1]
          show _ = eC (omn (pkn r p s a e) none)
          rw [omn_none]
        · exact h4 b (by omega)) (fun b b1 b2 => h5 b (by omega) b2)
    · have b4 := bnd_pe hw hp hs (a := a) (e := e) he (4 * v1 + s) (by unfold pe; rw [u1]; rfl)
      rw [u2, if_neg (by first | omega | (unfold w32; omega)), lt_v, ag_ok (by omega) (by omega) (by decide), ag_ok (by omega) (by omega) (by decide), lt_v, lt_v]
      rw [show ((a : Int) * 40 + e).toNat = 40 * a + e by omega, h5 a (by omega) (by omega), show v1 * 4 + (s : Int) = 4 * v1 + s by omega, imn_eC (bnd_pkn hw hp he s (by omega)) b4]
      have e1 : st τ (l0 + 1) (40 * a + e) (eC (omn (pkn r p s a e) (some (4 * v1 + s)))) (l0 + 1) = up (τ (l0 + 1)) (40 * a + e) (eC (omn (pkn r p s a e) (some (4 * v1 + s)))) := st_self _ _ _ _
      obtain ⟨τ', t1, t2, t3, t4⟩ := ih (a + 1) f (st τ (l0 + 1) (40 * a + e) (eC (omn (pkn r p s a e) (some (4 * v1 + s))))) (by omega) (by omega) (fun b hb => by rw [st_ne (by omega)]; exact h3 b hb) (fun b hb => by
        rw [e1]
        by_cases hba : b = a
        · rw [hba, up_at]
          show _ = eC (omn (pkn r p s a e) ((pgc r p s a e).map _))
          rw [u1]; rfl
        · rw [up_ne (by omega)]; exact h4 b (by omega)) (fun b b1 b2 => by
        rw [e1, up_ne (by omega)]; exact h5 b (by omega) b2)
      refine ⟨τ', t1, fun q hq => by rw [t2 q hq, st_ne hq], fun b k k1 k2 => by rw [t3 b k k1 k2, e1, up_ne (by omega)], t4⟩
theorem c_tabE {r : Nat → Int} (hw : WF r) {p : Nat} (hp : p < 4) {s N : Nat} (hs : s < 3) (hN : r (9 + 165 * p) = N) (rec : Mem → Nat → Nat → Nat → Int → Option Mem) {l0 : Nat} (hl0 : 60 ≤ l0) : ∀ (n e f : Nat) (τ : Mem), e + n = N → n < f → τ l0 1 = N → CRB 1 r τ → (∀ b, b < N → LTb r p s τ b (N - 1)) → (∀ b k, b ≤ k → k < e → τ (l0 + 1) (40 * b + k) = eC (pkn r p (s + 1) b k)) → (∀ b k, b ≤ k → e ≤ k → k < N → τ (l0 + 1) (40 * b + k) = eC (pkn r p s b k)) → ∃ τ', X4_fill_L49 rec f τ l0 (9 + 3 * p) 3 s e = rec τ' l0 (9 + 3 * p) 3 ((s : Int) + 1) ∧ (∀ q, q ≠ 57 → q ≠ l0 + 1 → τ' q = τ q) ∧ ∀ b k, b ≤ k → k < N → τ' (l0 + 1) (40 * b + k) = eC (pkn r p (s + 1) b k) := by
  have h40 := hw.bars hp
  have h6 := hw.lines
  intro n
  induction n with
  | zero =>
    intro e f τ h1 h2 h3 h4 h5 h7 h8
    obtain ⟨f, rfl⟩ : ∃ x, f = x + 1 := ⟨f - 1, by omega⟩
    refine ⟨τ, ?_, fun _ _ _ => rfl, fun b k k1 k2 => h7 b k k1 (by omega)⟩
    show X4_fill_B49 _ _ _ _ _ _ _ _ = _
    unfold X4_fill_B49
    rw [h3, if_pos (by first | omega | (unfold w32; omega)), lt_v]
  | succ n ih =>
    intro e f τ h1 h2 h3 h4 h5 h7 h8
    obtain ⟨f, rfl⟩ : ∃ x, f = x + 1 := ⟨f - 1, by omega⟩
    have hme := c_mayEnd hw h4 hp (b := (e : Int)) ⟨by omega, by omega⟩
    show ∃ τ', X4_fill_B49 _ _ _ _ _ _ _ _ = _ ∧ _
    unfold X4_fill_B49 X4_fill_B89
    rw [h3, if_neg (by first | omega | (unfold w32; omega)), bdk hme]
    rcases meS_01 r p e with hh | hh
    · rw [hh, if_pos (by decide), lt_v]
      exact ih (e + 1) f τ (by omega) (by omega) h3 h4 h5 (fun b k k1 k2 => by
        by_cases hke : k = e
        · rw [hke] at k1 ⊢
          rw [h8 b e k1 (by omega) (by omega)]
          show _ = eC (omn (pkn r p s b e) ((tl r p s e _ b).map _))
          rw [tl_no hh _ _ k1]
          show _ = eC (omn (pkn r p s b e) none)
          rw [omn_none]
        · exact h7 b k k1 (by omega)) (fun b k k1 k2 k3 => h8 b k k1 (by omega) k3)
    · obtain ⟨L, hL⟩ : ∃ L : Nat, r 1 = L := ⟨(r 1).toNat, by omega⟩
      have e1 : τ 3 (1 : Int).toNat = L := by rw [← hL]; exact h4.rul (by omega)
      obtain ⟨τ1, t1, t2, t3⟩ := c_fillPages hw hp (s := (s : Int)) (by omega) (a := 0) (e := e) (E := N - 1) (L := L) (by omega) (by omega) (by omega) (by omega) (fun b b1 b2 => h5 b (by omega))
      have e2 : τ1 3 (1 : Int).toNat = L := by rw [t2 3 (by omega)]; exact e1
      obtain ⟨τ2, u1, u2, u3, u4⟩ := c_takeCheaper hw hp (s := s) (e := e) (L := L) hs (by omega) (by omega) hl0 (e + 1) 0 5000 τ1 (by omega) (by omega) (fun b hb => by
        rw [t3 L (by omega) b (by omega) (by omega)]
        unfold pgc
        rw [hL, Int.toNat_natCast]) (fun b hb => by omega) (fun b b1 b2 => by rw [t2 (l0 + 1) (by omega)]; exact h8 b e b2 (by omega) (by omega))
      have u1' : X4_takeCheaper τ1 l0 L e s = some τ2 := u1
      have t1' : X3_fillPages τ 0 e L = some τ1 := t1
      rw [hh, if_neg (by decide), show ln 3 = 5 from rfl, ag_ok (by omega) (by omega) (by decide), e1]
      rw [bdk t1', ag_ok (by omega) (by omega) (by decide), e2, bdk u1', lt_v]
      obtain ⟨τ3, w1, w2, w3⟩ := ih (e + 1) f τ2 (by omega) (by omega) (by rw [u2 l0 (by omega), t2 l0 (by omega)]; exact h3) ((h4.frame (fun k k1 k2 => t2 k (by omega))).frame (fun k k1 k2 => u2 k (by omega))) (fun b hb => (h5 b hb).frame (by omega) (by rw [u2 56 (by omega), t2 56 (by omega)]) (fun j _ _ => by rw [u2 55 (by omega), t2 55 (by omega)])) (fun b k k1 k2 => by
        by_cases hke : k = e
        · rw [hke] at k1 ⊢
          exact u4 b k1
        · rw [u3 b k (by omega) hke, t2 (l0 + 1) (by omega)]
          exact h7 b k k1 (by omega)) (fun b k k1 k2 k3 => by
        rw [u3 b k (by omega) (by omega), t2 (l0 + 1) (by omega)]
        exact h8 b k k1 (by omega) k3)
      exact ⟨τ3, w1, fun q q1 q2 => by rw [w2 q q1 q2, u2 q q2, t2 q q1], w3⟩
theorem c_tabS {r : Nat → Int} (hw : WF r) {p : Nat} (hp : p < 4) {N : Nat} (hN : r (9 + 165 * p) = N) {l0 : Nat} (hl0 : 60 ≤ l0) : ∀ (n s f : Nat) (τ : Mem), s + n = 3 → n < f → τ l0 1 = N → CRB 1 r τ → (∀ b k, b ≤ k → k < N → τ (l0 + 1) (40 * b + k) = eC (pkn r p s b k)) → ∃ τ', X4_fill_L25 f τ l0 (9 + 3 * p) 3 s = some τ' ∧ (∀ q, q ≠ 55 → q ≠ 56 → q ≠ 57 → q ≠ l0 + 1 → τ' q = τ q) ∧ ∀ b k, b ≤ k → k < N → τ' (l0 + 1) (40 * b + k) = eC (pkn r p 3 b k) := by
  have h40 := hw.bars hp
  intro n
  induction n with
  | zero =>
    intro s f τ h1 h2 h3 h4 h5
    obtain ⟨f, rfl⟩ : ∃ x, f = x + 1 := ⟨f - 1, by omega⟩
    refine ⟨τ, ?_, fun _ _ _ _ _ => rfl, fun b k k1 k2 => by rw [show 3 = s by omega]; exact h5 b k k1 k2⟩
    show X4_fill_B25 _ _ _ _ _ _ = _
    unfold X4_fill_B25
    rw [if_pos (by first | omega | (unfold w32; omega))]
  | succ n ih =>
    intro s f τ h1 h2 h3 h4 h5
    obtain ⟨f, rfl⟩ : ∃ x, f = x + 1 := ⟨f - 1, by omega⟩
    have hfl : ∃ τ1, X3_fill τ (9 + 3 * p) 3 s 0 ((N : Int) - 1) = some τ1 ∧ (∀ q, q ≠ 55 → q ≠ 56 → τ1 q = τ q) ∧ ∀ b, b < N → LTb r p s τ1 b (N - 1) := by
      by_cases h0 : N = 0
      · refine ⟨τ, ?_, fun _ _ _ => rfl, fun b hb => by omega⟩
        show X3_fill_B4 _ _ _ _ _ _ _ = _
        unfold X3_fill_B4
        rw [if_pos (by first | omega | (unfold w32; omega))]
      · obtain ⟨τ1, t1, t2, t3⟩ := c_fill hw hp (s := (s : Int)) (by omega) (a := 0) (e := N - 1) (by omega) (by omega) h4
        rw [show ((N - 1 : Nat) : Int) = (N : Int) - 1 by omega] at t1
        exact ⟨τ1, t1, t2, fun b hb => t3 b (by omega) (by omega)⟩
    obtain ⟨τ1, t1, t2, t3⟩ := hfl
    obtain ⟨τ2, u1, u2, u3⟩ := c_tabE hw hp (s := s) (by omega) hN (X4_fill_L25 f) hl0 N 0 5000 τ1 (by omega) (by omega) (by rw [t2 l0 (by omega) (by omega)]; exact h3) (h4.frame (fun k k1 k2 => t2 k (by omega) (by omega))) t3 (fun b k k1 k2 => by omega) (fun b k k1 k2 k3 => by rw [t2 (l0 + 1) (by omega) (by omega)]; exact h5 b k k1 k3)
    obtain ⟨τ3, w1, w2, w3⟩ := ih (s + 1) f τ2 (by omega) (by omega) (by rw [u2 l0 (by omega) (by omega), t2 l0 (by omega) (by omega)]; exact h3) ((h4.frame (fun k k1 k2 => t2 k (by omega) (by omega))).frame (fun k k1 k2 => u2 k (by omega) (by omega))) u3
    refine ⟨τ3, ?_, fun q q1 q2 q3 q4 => by rw [w2 q q1 q2 q3 q4, u2 q q3 q4, t2 q q1 q2], w3⟩
    show X4_fill_B25 _ _ _ _ _ _ = _
    unfold X4_fill_B25
    rw [if_neg (by first | omega | (unfold w32; omega)), h3, bdk t1]
    exact u1.trans w1
def PT (r : Nat → Int) (p : Nat) (τ : Mem) : Prop := τ (71 + 10 * p) 1 = r (9 + 165 * p) ∧ ∀ b k : Nat, b ≤ k → (k : Int) < r (9 + 165 * p) → τ (72 + 10 * p) (40 * b + k) = eC (pkn r p 3 b k)
theorem c_tab {r : Nat → Int} (hw : WF r) {p : Nat} (hp : p < 4) {τ : Mem} (hc : CRB 1 r τ) : ∃ τ', X4_fill τ (71 + 10 * p) (9 + 3 * p) 3 = some τ' ∧ (∀ q, q ≠ 55 → q ≠ 56 → q ≠ 57 → q ≠ 71 + 10 * p → q ≠ 72 + 10 * p → τ' q = τ q) ∧ τ' (71 + 10 * p) 2 = 1 ∧ PT r p τ' := by
  have h40 := hw.bars hp
  obtain ⟨N, hN⟩ : ∃ N : Nat, r (9 + 165 * p) = N := ⟨(r (9 + 165 * p)).toNat, by omega⟩
  have hl : ln (71 + 10 * p + 1) = 1600 := by
    rcases (by omega : p = 0 ∨ p = 1 ∨ p = 2 ∨ p = 3) with rfl | rfl | rfl | rfl <;> rfl
  have eN : τ (9 + 3 * p) 2 = N := by rw [hc.nbars hp]; exact hN
  have hfe := fill_eq (st (st τ (71 + 10 * p) 1 N) (71 + 10 * p) 2 1) (71 + 10 * p + 1) 2147483647 (by omega)
  rw [hl] at hfe
  have f1 : ∀ q, q ≠ 71 + 10 * p → q ≠ 72 + 10 * p → fil (st (st τ (71 + 10 * p) 1 N) (71 + 10 * p) 2 1) (71 + 10 * p + 1) 1600 2147483647 q = τ q := fun q q1 q2 => by rw [fil_ne (by omega), st_ne q1, st_ne q1]
  have f2 : fil (st (st τ (71 + 10 * p) 1 N) (71 + 10 * p) 2 1) (71 + 10 * p + 1) 1600 2147483647 (71 + 10 * p) = up (up (τ (71 + 10 * p)) 1 N) 2 1 := by rw [fil_ne (by omega), st_self, st_self]
  obtain ⟨τ', t1, t2, t3⟩ := c_tabS hw hp hN (l0 := 71 + 10 * p) (by omega) 3 0 5000 (fil (st (st τ (71 + 10 * p) 1 N) (71 + 10 * p) 2 1) (71 + 10 * p + 1) 1600 2147483647) (by omega) (by omega) (by rw [f2, up_ne (by omega), up_at]) (hc.frame (fun k k1 k2 => f1 k (by omega) (by omega))) (fun b k k1 k2 => by
    rw [fil_in (by omega)]; rfl)
  have f3 : τ' (71 + 10 * p) = up (up (τ (71 + 10 * p)) 1 N) 2 1 := by rw [t2 _ (by omega) (by omega) (by omega) (by omega), f2]
  refine ⟨τ', ?_, fun q q1 q2 q3 q4 q5 => by rw [t2 q q1 q2 q3 (by omega), f1 q q4 q5], by rw [f3, up_at], by rw [f3, up_ne (by omega), up_at, hN], fun b k k1 k2 => by rw [show 72 + 10 * p = 71 + 10 * p + 1 by omega]; exact t3 b k k1 (by omega)⟩
  unfold X4_fill
  rw [lt_v, lt_v, eN, bdk hfe]
  exact t1
