/-! the class fills its tables of lines and tails -/
theorem LTb.frame {r : Nat → Int} {p : Nat} {s : Int} {τ τ' : Mem} {a e : Nat} (h : LTb r p s τ a e) (he : e < 40) (h6 : τ' 56 a = τ 56 a) (h5 : ∀ j, 40 * a ≤ j → j < 40 * a + 40 → τ' 55 j = τ 55 j) : LTb r p s τ' a e := by
  obtain ⟨c, t1, t2, t3, t4, t5⟩ := h
  exact ⟨c, by rw [h6]; exact t1, t2, t3, fun k k1 k2 => by rw [h5 _ (by omega) (by omega)]; exact t4 k k1 k2, t5⟩
theorem c_fillFrom {r : Nat → Int} (hw : WF r) {p : Nat} (hp : p < 4) {s : Int} (hs : 0 ≤ s ∧ s ≤ 2) {a e : Nat} (he : (e : Int) < r (9 + 165 * p)) (ha : a ≤ e) {τ : Mem} (hc : CRB 1 r τ) : ∃ τ', X3_fillFrom τ (9 + 3 * p) 3 s a e = some τ' ∧ (∀ q, q ≠ 55 → q ≠ 56 → τ' q = τ q) ∧ (∀ j, j < 40 * a ∨ 40 * a + 40 ≤ j → τ' 55 j = τ 55 j) ∧ (∀ j, j ≠ a → τ' 56 j = τ 56 j) ∧ LTb r p s τ' a e ∧ FT r p s τ' a := by
  have h40 := hw.bars hp
  have e56 : st τ 56 a ((a : Int) - 1) 56 = up (τ 56) a ((a : Int) - 1) := by rw [st_self]
  obtain ⟨τ', t1, t2, t3, t4, t5⟩ := fillFrom_loop hw hp hs (a := a) he (e + 1 - a) a 5000 (st τ 56 a ((a : Int) - 1)) (by omega) (by omega) (by omega) (hc.oth (by omega)) (by rw [e56, up_at]) (fun j h1 h2 => by omega) (fun h => by omega)
  refine ⟨τ', ?_, fun q h1 h2 => by rw [t2 q h1 h2, st_ne h2], fun j hj => by rw [t3 j hj, st_ne (by omega)], fun j hj => by rw [t4 j hj, e56, up_ne hj], t5⟩
  have e0 : τ 3 0 = r 0 := hc.rul (by omega)
  unfold X3_fillFrom
  rw [show ln 3 = 5 from rfl, ag_ok (by omega) (by omega) (by decide), lt_v, ag_nat (by omega) (by decide), lt_v, show (0 : Int).toNat = 0 from rfl, e0]
  rw [Nat.sub_self, show a - 1 - a = 0 by omega, show rsm r p s 0 a = 0 from rfl, show lmk r p 0 (a + 1) = 0 from rfl, Int.sub_zero] at t1
  exact t1
theorem c_fillL {r : Nat → Int} (hw : WF r) {p : Nat} (hp : p < 4) {s : Int} (hs : 0 ≤ s ∧ s ≤ 2) {a0 e : Nat} (he : (e : Int) < r (9 + 165 * p)) : ∀ (n a f : Nat) (τ : Mem), a + n = e + 1 → n < f → CRB 1 r τ → (∀ b, a0 ≤ b → b < a → LTb r p s τ b e) → ∃ τ', X3_fill_L4 f τ (9 + 3 * p) 3 s e a = some τ' ∧ (∀ q, q ≠ 55 → q ≠ 56 → τ' q = τ q) ∧ ∀ b, a0 ≤ b → b ≤ e → LTb r p s τ' b e := by
  have h40 := hw.bars hp
  intro n
  induction n with
  | zero =>
    intro a f τ h1 h2 h3 h4
    obtain ⟨f, rfl⟩ : ∃ x, f = x + 1 := ⟨f - 1, by omega⟩
    refine ⟨τ, ?_, fun _ _ _ => rfl, fun b b1 b2 => h4 b b1 (by omega)⟩
    show X3_fill_B4 _ _ _ _ _ _ _ = _
    unfold X3_fill_B4
    ((repeat (first | with_reducible refine (ag_ok (by omega) (by omega) (by decide)).trans ?_ | rewrite [lt_v] | rewrite [bd_some] | rewrite [bd2_some] | with_reducible refine (if_pos (by first | omega | (unfold w32; omega))).trans ?_ | with_reducible refine (if_neg (by first | omega | (unfold w32; omega))).trans ?_)); (repeat (first | with_reducible refine Eq.trans ?_ (if_pos (by first | omega | (unfold w32; omega))).symm | with_reducible refine Eq.trans ?_ (if_neg (by first | omega | (unfold w32; omega))).symm)); try rfl)
  | succ n ih =>
    intro a f τ h1 h2 h3 h4
    obtain ⟨f, rfl⟩ : ∃ x, f = x + 1 := ⟨f - 1, by omega⟩
    obtain ⟨τ', t1, t2, t3, t4, t5, _⟩ := c_fillFrom hw hp hs he (show a ≤ e by omega) h3
    obtain ⟨υ, u1, u2, u3⟩ := ih (a + 1) f τ' (by omega) (by omega) (h3.frame (fun k k1 k2 => t2 k (by omega) (by omega))) (fun b b1 b2 => by
      by_cases hb : b = a
      · rw [hb]; exact t5
      · exact (h4 b b1 (by omega)).frame (by omega) (t4 b hb) (fun j j1 j2 => t3 j (by omega)))
    refine ⟨υ, ?_, fun q q1 q2 => by rw [u2 q q1 q2, t2 q q1 q2], u3⟩
    show X3_fill_B4 _ _ _ _ _ _ _ = _
    unfold X3_fill_B4
    repeat (first | with_reducible refine (ag_ok (by omega) (by omega) (by decide)).trans ?_ | rewrite [lt_v] | rewrite [bd_some] | rewrite [bd2_some] | rewrite [bdk (t1)] | with_reducible refine (if_pos (by first | omega | (unfold w32; omega))).trans ?_ | with_reducible refine (if_neg (by first | omega | (unfold w32; omega))).trans ?_)
    exact u1
theorem c_fill {r : Nat → Int} (hw : WF r) {p : Nat} (hp : p < 4) {s : Int} (hs : 0 ≤ s ∧ s ≤ 2) {a e : Nat} (he : (e : Int) < r (9 + 165 * p)) (ha : a ≤ e) {τ : Mem} (hc : CRB 1 r τ) : ∃ τ', X3_fill τ (9 + 3 * p) 3 s a e = some τ' ∧ (∀ q, q ≠ 55 → q ≠ 56 → τ' q = τ q) ∧ ∀ b, a ≤ b → b ≤ e → LTb r p s τ' b e := by
  have h40 := hw.bars hp
  exact c_fillL hw hp hs he (e + 1 - a) a 5000 τ (by omega) (by omega) hc (fun b b1 b2 => by omega)
def TLs (r : Nat → Int) (p : Nat) (s : Int) (e : Nat) (τ : Mem) (a l : Nat) : Prop := ∀ b, a ≤ b → b ≤ e + 1 → τ 57 (41 * l + b) = eC (tl r p s e l b)
theorem tl_end (r : Nat → Int) (p : Nat) (s : Int) (e l : Nat) : tl r p s e l (e + 1) = some 0 := by
  cases l with
  | zero => exact if_pos rfl
  | succ l => exact if_pos rfl
theorem c_pagesIn {r : Nat → Int} (hw : WF r) {p : Nat} (hp : p < 4) {s : Int} (hs : 0 ≤ s ∧ s ≤ 2) {a e E L l : Nat} (hE : (E : Int) < r (9 + 165 * p)) (he : e ≤ E) (hL : L ≤ 6) (hl : l < L) (rec : Mem → Int → Int → Int → Int → Option Mem) : ∀ (n f : Nat) (τ : Mem), a + n ≤ e + 1 → n < f → (∀ b, a ≤ b → b ≤ e → LTb r p s τ b E) → (∀ m, m ≤ l → TLs r p s e τ a m) → TLs r p s e τ (a + n) (l + 1) → ∃ τ', X3_fillPages_L64 rec f τ a e L ((l + 1 : Nat) : Int) (41 * ((l + 1 : Nat) : Int)) ((a : Int) + n - 1) = rec τ' a e L ((l + 1 : Nat) + 1) ∧ (∀ q, q ≠ 57 → τ' q = τ q) ∧ ∀ m, m ≤ l + 1 → TLs r p s e τ' a m := by
  have h40 := hw.bars hp
  intro n
  induction n with
  | zero =>
    intro f τ h1 h2 h3 h4 h5
    obtain ⟨f, rfl⟩ : ∃ x, f = x + 1 := ⟨f - 1, by omega⟩
    refine ⟨τ, ?_, fun _ _ => rfl, fun m hm => ?_⟩
    · show X3_fillPages_B64 _ _ _ _ _ _ _ _ _ = _
      unfold X3_fillPages_B64
      ((repeat (first | with_reducible refine (ag_ok (by omega) (by omega) (by decide)).trans ?_ | rewrite [lt_v] | rewrite [bd_some] | rewrite [bd2_some] | with_reducible refine (if_pos (by first | omega | (unfold w32; omega))).trans ?_ | with_reducible refine (if_neg (by first | omega | (unfold w32; omega))).trans ?_)); (repeat (first | with_reducible refine Eq.trans ?_ (if_pos (by first | omega | (unfold w32; omega))).symm | with_reducible refine Eq.trans ?_ (if_neg (by first | omega | (unfold w32; omega))).symm)); try rfl)
    · by_cases hml : m = l + 1
      · rw [hml]; exact h5
      · exact h4 m (by omega)
  | succ n ih =>
    intro f τ h1 h2 h3 h4 h5
    obtain ⟨f, rfl⟩ : ∃ x, f = x + 1 := ⟨f - 1, by omega⟩
    have hch := c_cheap hw hp hs (τ := τ) (b := a + n) (e := e) (E := E) (L := l) (by omega) he hE (by omega) (h3 (a + n) (by omega) (by omega)) (fun k k1 k2 => by
      have := h4 l (by omega) (k + 1) (by omega) (by omega)
      rw [← this]; rfl)
    have e57 : st τ 57 (41 * (l + 1) + (a + n)) (eC (tl r p s e (l + 1) (a + n))) 57 = up (τ 57) (41 * (l + 1) + (a + n)) (eC (tl r p s e (l + 1) (a + n))) := st_self _ _ _ _
    obtain ⟨τ', t1, t2, t3⟩ := ih f (st τ 57 (41 * (l + 1) + (a + n)) (eC (tl r p s e (l + 1) (a + n)))) (by omega) (by omega) (fun b b1 b2 => (h3 b b1 b2).frame (by omega) (by rw [st_ne (by omega)]) (fun j _ _ => by rw [st_ne (by omega)])) (fun m hm b b1 b2 => by
      rw [e57, up_ne (by omega)]; exact h4 m hm b b1 b2) (fun b b1 b2 => by
      rw [e57]
      by_cases hb : b = a + n
      · rw [hb, up_at]
      · rw [up_ne (by omega)]; exact h5 b (by omega) b2)
    refine ⟨τ', ?_, fun q hq => by rw [t2 q hq, st_ne hq], t3⟩
    show X3_fillPages_B64 _ _ _ _ _ _ _ _ _ = _
    unfold X3_fillPages_B64
    rw [show (a : Int) + ((n + 1 : Nat) : Int) - 1 = ((a + n : Nat) : Int) by omega]
    rw [if_neg (by first | omega | (unfold w32; omega)), bdk hch, ag_ok (by omega) (by omega) (by decide), lt_v, lt_v]
    rw [show (41 * ((l + 1 : Nat) : Int) + ((a + n : Nat) : Int)).toNat = 41 * (l + 1) + (a + n) by omega, show ((a + n : Nat) : Int) + -1 = (a : Int) + n - 1 by omega]
    exact t1
theorem c_pagesOut {r : Nat → Int} (hw : WF r) {p : Nat} (hp : p < 4) {s : Int} (hs : 0 ≤ s ∧ s ≤ 2) {a e E L : Nat} (hE : (E : Int) < r (9 + 165 * p)) (he : e ≤ E) (ha : a ≤ e) (hL : L ≤ 6) : ∀ (n l f : Nat) (τ : Mem), l + n = L → n < f → (∀ b, a ≤ b → b ≤ e → LTb r p s τ b E) → (∀ m, m ≤ l → TLs r p s e τ a m) → ∃ τ', X3_fillPages_L36 f τ a e L ((l + 1 : Nat) : Int) = some τ' ∧ (∀ q, q ≠ 57 → τ' q = τ q) ∧ ∀ m, m ≤ L → TLs r p s e τ' a m := by
  have h40 := hw.bars hp
  intro n
  induction n with
  | zero =>
    intro l f τ h1 h2 h3 h4
    obtain ⟨f, rfl⟩ : ∃ x, f = x + 1 := ⟨f - 1, by omega⟩
    refine ⟨τ, ?_, fun _ _ => rfl, fun m hm => h4 m (by omega)⟩
    show X3_fillPages_B36 _ _ _ _ _ _ = _
    unfold X3_fillPages_B36
    ((repeat (first | with_reducible refine (ag_ok (by omega) (by omega) (by decide)).trans ?_ | rewrite [lt_v] | rewrite [bd_some] | rewrite [bd2_some] | with_reducible refine (if_pos (by first | omega | (unfold w32; omega))).trans ?_ | with_reducible refine (if_neg (by first | omega | (unfold w32; omega))).trans ?_)); (repeat (first | with_reducible refine Eq.trans ?_ (if_pos (by first | omega | (unfold w32; omega))).symm | with_reducible refine Eq.trans ?_ (if_neg (by first | omega | (unfold w32; omega))).symm)); try rfl)
  | succ n ih =>
    intro l f τ h1 h2 h3 h4
    obtain ⟨f, rfl⟩ : ∃ x, f = x + 1 := ⟨f - 1, by omega⟩
    have e57 : st τ 57 (41 * (l + 1) + (e + 1)) 0 57 = up (τ 57) (41 * (l + 1) + (e + 1)) 0 := st_self _ _ _ _
    obtain ⟨τ', t1, t2, t3⟩ := c_pagesIn hw hp hs (a := a) (e := e) (E := E) (L := L) (l := l) hE he hL (by omega) (X3_fillPages_L36 f) (e + 1 - a) 5000 (st τ 57 (41 * (l + 1) + (e + 1)) 0) (by omega) (by omega) (fun b b1 b2 => (h3 b b1 b2).frame (by omega) (by rw [st_ne (by omega)]) (fun j _ _ => by rw [st_ne (by omega)])) (fun m hm b b1 b2 => by
      rw [e57, up_ne (by omega)]; exact h4 m hm b b1 b2) (fun b b1 b2 => by
      rw [e57, show b = e + 1 by omega, up_at, tl_end]; rfl)
    obtain ⟨υ, u1, u2, u3⟩ := ih (l + 1) f τ' (by omega) (by omega) (fun b b1 b2 => ((h3 b b1 b2).frame (by omega) (by rw [t2 56 (by omega), st_ne (by omega)]) (fun j _ _ => by rw [t2 55 (by omega), st_ne (by omega)]))) t3
    refine ⟨υ, ?_, fun q hq => by rw [u2 q hq, t2 q hq, st_ne hq], u3⟩
    show X3_fillPages_B36 _ _ _ _ _ _ = _
    unfold X3_fillPages_B36
    rw [if_neg (by first | omega | (unfold w32; omega)), lt_v, ag_ok (by omega) (by omega) (by decide), lt_v]
    rw [show (((l + 1 : Nat) : Int) * 41 + (e : Int) + 1).toNat = 41 * (l + 1) + (e + 1) by omega, show ((l + 1 : Nat) : Int) * 41 = 41 * ((l + 1 : Nat) : Int) by omega]
    rw [show (a : Int) + ((e + 1 - a : Nat) : Int) - 1 = (e : Int) by omega] at t1
    exact t1.trans u1
theorem c_fillPages {r : Nat → Int} (hw : WF r) {p : Nat} (hp : p < 4) {s : Int} (hs : 0 ≤ s ∧ s ≤ 2) {a e E L : Nat} (hE : (E : Int) < r (9 + 165 * p)) (he : e ≤ E) (ha : a ≤ e) (hL : L ≤ 6) {τ : Mem} (h3 : ∀ b, a ≤ b → b ≤ e → LTb r p s τ b E) : ∃ τ', X3_fillPages τ a e L = some τ' ∧ (∀ q, q ≠ 57 → τ' q = τ q) ∧ ∀ m, m ≤ L → TLs r p s e τ' a m := by
  have h40 := hw.bars hp
  have key : ∀ (n k f : Nat) (υ : Mem), k + n = e + 1 → n < f → a ≤ k → (∀ q, q ≠ 57 → υ q = τ q) → (∀ b, a ≤ b → b < k → υ 57 b = 2147483647) → ∃ τ', X3_fillPages_L3 f υ a e L k = some τ' ∧ (∀ q, q ≠ 57 → τ' q = τ q) ∧ ∀ m, m ≤ L → TLs r p s e τ' a m := by
    intro n
    induction n with
    | zero =>
      intro k f υ h1 h2 ha h5 h6
      obtain ⟨f, rfl⟩ : ∃ x, f = x + 1 := ⟨f - 1, by omega⟩
      have e57 : st υ 57 (e + 1) 0 57 = up (υ 57) (e + 1) 0 := st_self _ _ _ _
      obtain ⟨τ', t1, t2, t3⟩ := c_pagesOut hw hp hs hE he (show a ≤ e by assumption) hL L 0 5000 (st υ 57 (e + 1) 0) (by omega) (by omega) (fun b b1 b2 => (h3 b b1 b2).frame (by omega) (by rw [st_ne (by omega), h5 56 (by omega)]) (fun j _ _ => by rw [st_ne (by omega), h5 55 (by omega)])) (fun m hm b b1 b2 => by
        rw [show m = 0 by omega, e57, Nat.mul_zero, Nat.zero_add]
        by_cases hb : b = e + 1
        · rw [hb, up_at, tl_end]; rfl
        · rw [up_ne hb, h6 b b1 (by omega)]
          show _ = eC (if b = e + 1 then some 0 else none)
          rw [if_neg hb]; rfl)
      refine ⟨τ', ?_, fun q hq => by rw [t2 q hq, st_ne hq, h5 q hq], t3⟩
      show X3_fillPages_B3 _ _ _ _ _ _ = _
      unfold X3_fillPages_B3
      rw [if_pos (by first | omega | (unfold w32; omega)), ag_ok (by omega) (by omega) (by decide), lt_v, show ((e : Int) + 1).toNat = e + 1 by omega]
      exact t1
    | succ n ih =>
      intro k f υ h1 h2 ha h5 h6
      obtain ⟨f, rfl⟩ : ∃ x, f = x + 1 := ⟨f - 1, by omega⟩
      have e57 : st υ 57 k 2147483647 57 = up (υ 57) k 2147483647 := st_self _ _ _ _
      obtain ⟨τ', t1, t2⟩ := ih (k + 1) f (st υ 57 k 2147483647) (by omega) (by omega) (by omega) (fun q hq => by rw [st_ne hq, h5 q hq]) (fun b b1 b2 => by
        rw [e57]
        by_cases hb : b = k
        · rw [hb, up_at]
        · rw [up_ne hb, h6 b b1 (by omega)])
      refine ⟨τ', ?_, t2⟩
      show X3_fillPages_B3 _ _ _ _ _ _ = _
      unfold X3_fillPages_B3
      rw [if_neg (by first | omega | (unfold w32; omega)), ag_nat (by omega) (by decide), lt_v, lt_v]
      exact t1
  exact key (e + 1 - a) a 5000 τ (by omega) (by omega) (by omega) (fun _ _ => rfl) (fun b b1 b2 => by omega)
theorem c_pageCost {τ : Mem} {L b : Nat} (hL : L ≤ 6) (hb : b ≤ 40) : X3_pageCost τ L b = some (τ 57 (41 * L + b)) := by
  unfold X3_pageCost
  rw [ag_ok (by omega) (by omega) (by decide), show ((L : Int) * 41 + b).toNat = 41 * L + b by omega]
