/-! least costs of tails of a page -/
def oad (x y : Option Int) : Option Int := match x, y with
  | some a, some b => some (a + b)
  | _, _ => none
def omn (x y : Option Int) : Option Int := match x, y with
  | none, y => y
  | some a, none => some a
  | some a, some b => some (if b < a then b else a)
def mnr (f : Nat → Option Int) : Nat → Nat → Option Int → Option Int
  | 0, _, x => x
  | n + 1, k, x => mnr f n (k + 1) (omn x (f k))
def tl (r : Nat → Int) (p : Nat) (s : Int) (e : Nat) : Nat → Nat → Option Int
  | 0, b => if b = e + 1 then some 0 else none
  | L + 1, b => if b = e + 1 then some 0 else mnr (fun k => oad (lnc r p s b k) (tl r p s e L (k + 1))) (e + 1 - b) b none
theorem omn_none (x : Option Int) : omn x none = x := by cases x <;> rfl
theorem mnr_none {f : Nat → Option Int} : ∀ (n k : Nat) (x : Option Int), (∀ j, k ≤ j → j < k + n → f j = none) → mnr f n k x = x
  | 0, _, _, _ => rfl
  | n + 1, k, x, h => by
    show mnr f n (k + 1) (omn x (f k)) = x
    rw [h k (by omega) (by omega), omn_none]
    exact mnr_none n (k + 1) x (fun j h1 h2 => h j (by omega) (by omega))
theorem omn_in {P : Int → Prop} {x y : Option Int} (hx : ∀ v, x = some v → P v) (hy : ∀ v, y = some v → P v) : ∀ v, omn x y = some v → P v := by
  intro v h
  cases x with
  | none => exact hy v h
  | some a =>
    cases y with
    | none => exact hx v h
    | some b =>
      have h2 : (if b < a then b else a) = v := Option.some.inj h
      by_cases c : b < a
      · rw [if_pos c] at h2; rw [← h2]; exact hy b rfl
      · rw [if_neg c] at h2; rw [← h2]; exact hx a rfl
theorem mnr_in {P : Int → Prop} {f : Nat → Option Int} : ∀ (n k : Nat) (x : Option Int), (∀ v, x = some v → P v) → (∀ j, k ≤ j → j < k + n → ∀ v, f j = some v → P v) → ∀ v, mnr f n k x = some v → P v
  | 0, _, _, hx, _ => hx
  | n + 1, k, x, hx, hf => mnr_in n (k + 1) (omn x (f k)) (omn_in hx (hf k (by omega) (by omega))) (fun j h1 h2 => hf j (by omega) (by omega))
theorem lnc_in {r : Nat → Int} (hw : WF r) {p : Nat} (hp : p < 4) {s : Int} (hs : 0 ≤ s ∧ s ≤ 2) {a k : Nat} (hk : (k : Int) < r (9 + 165 * p)) (ha : a ≤ k) {v : Int} (h : lnc r p s a k = some v) : -5 ≤ v ∧ v ≤ 8000 := by
  unfold lnc at h
  by_cases c : lrm r p s a k ≤ r 0 ∧ meS r p k ≠ 0
  · rw [if_pos c] at h
    have := lnv_in hw hp hs hk ha c.1
    rw [Option.some.inj h] at this
    exact this
  · rw [if_neg c] at h
    cases h
theorem oad_some {x y : Option Int} {v : Int} (h : oad x y = some v) : ∃ a b, x = some a ∧ y = some b ∧ v = a + b := by
  cases x with
  | none => cases h
  | some a =>
    cases y with
    | none => cases h
    | some b => exact ⟨a, b, rfl, rfl, (Option.some.inj h).symm⟩
theorem tl_in {r : Nat → Int} (hw : WF r) {p : Nat} (hp : p < 4) {s : Int} (hs : 0 ≤ s ∧ s ≤ 2) {e : Nat} (he : (e : Int) < r (9 + 165 * p)) : ∀ (L b : Nat) (v : Int), tl r p s e L b = some v → -5 * (L : Int) ≤ v ∧ v ≤ 8000 * (L : Int)
  | 0, b, v, h => by
    unfold tl at h
    by_cases c : b = e + 1
    · rw [if_pos c] at h
      have := Option.some.inj h
      omega
    · rw [if_neg c] at h
      cases h
  | L + 1, b, v, h => by
    unfold tl at h
    by_cases c : b = e + 1
    · rw [if_pos c] at h
      have := Option.some.inj h
      omega
    · rw [if_neg c] at h
      refine mnr_in (P := fun v => -5 * ((L + 1 : Nat) : Int) ≤ v ∧ v ≤ 8000 * ((L + 1 : Nat) : Int)) _ _ _ (fun v h => by cases h) (fun j h1 h2 u hu => ?_) v h
      obtain ⟨x, y, hx, hy, rfl⟩ := oad_some hu
      have i1 := lnc_in hw hp hs (by omega) h1 hx
      have i2 := tl_in hw hp hs he L (j + 1) y hy
      omega
def bnd (x : Option Int) : Prop := ∀ v, x = some v → -1000 ≤ v ∧ v ≤ 1000000
theorem bnd_tl {r : Nat → Int} (hw : WF r) {p : Nat} (hp : p < 4) {s : Int} (hs : 0 ≤ s ∧ s ≤ 2) {e : Nat} (he : (e : Int) < r (9 + 165 * p)) {L b : Nat} (hL : L ≤ 6) : bnd (tl r p s e L b) := fun v h => by
  have := tl_in hw hp hs he L b v h
  omega
theorem bnd_lt {r : Nat → Int} (hw : WF r) {p : Nat} (hp : p < 4) {s : Int} (hs : 0 ≤ s ∧ s ≤ 2) {b k e : Nat} (he : (e : Int) < r (9 + 165 * p)) (hb : b ≤ k) (hk : k ≤ e) {L : Nat} (hL : L ≤ 6) : bnd (oad (lnc r p s b k) (tl r p s e L (k + 1))) := fun v h => by
  obtain ⟨x, y, hx, hy, rfl⟩ := oad_some h
  have i1 := lnc_in hw hp hs (by omega) hb hx
  have i2 := tl_in hw hp hs he L (k + 1) y hy
  omega
theorem imn_eC {x : Option Int} (hx : bnd x) {v : Int} (hv : -1000 ≤ v ∧ v ≤ 1000000) : imn (eC x) v = eC (omn x (some v)) := by
  unfold imn
  cases x with
  | none => exact if_pos (by show w32 v < w32 2147483647; exact (by first | omega | (unfold w32; omega)))
  | some a =>
    have := hx a rfl
    show (if w32 v < w32 a then v else a) = if v < a then v else a
    rw [w32_id (by omega) (by omega), w32_id (by omega) (by omega)]
theorem eC_w {x : Option Int} (hx : bnd x) : (x = none ∧ eC x = 2147483647) ∨ ∃ v, x = some v ∧ eC x = v ∧ -1000 ≤ v ∧ v ≤ 1000000 := by
  cases x with
  | none => exact Or.inl ⟨rfl, rfl⟩
  | some a => exact Or.inr ⟨a, rfl, rfl, hx a rfl⟩
theorem eM_w {x : Option Int} (hx : bnd x) : (x = none ∧ eM x = 1000000000) ∨ ∃ v, x = some v ∧ eM x = v ∧ -1000 ≤ v ∧ v ≤ 1000000 := by
  cases x with
  | none => exact Or.inl ⟨rfl, rfl⟩
  | some a => exact Or.inr ⟨a, rfl, rfl, hx a rfl⟩
theorem bnd_lnc {r : Nat → Int} (hw : WF r) {p : Nat} (hp : p < 4) {s : Int} (hs : 0 ≤ s ∧ s ≤ 2) {a k : Nat} (hk : (k : Int) < r (9 + 165 * p)) (ha : a ≤ k) : bnd (lnc r p s a k) := fun v h => by
  have := lnc_in hw hp hs hk ha h
  omega
theorem lnc_none {r : Nat → Int} {p : Nat} {s : Int} {a k : Nat} (h : r 0 < lrm r p s a k) : lnc r p s a k = none := if_neg (fun c => by omega)
theorem c_cheapL {r : Nat → Int} (hw : WF r) {p : Nat} (hp : p < 4) {s : Int} (hs : 0 ≤ s ∧ s ≤ 2) {τ : Mem} {b e E L : Nat} (he : e ≤ E) (hE : (E : Int) < r (9 + 165 * p)) (hL : L < 6) {c : Int} (h3 : ∀ k : Nat, b ≤ k → (k : Int) ≤ c → τ 55 (40 * b + k) = eC (lnc r p s b k)) (h4 : ∀ k : Nat, c < k → k ≤ E → r 0 < lrm r p s b k) (h7 : ∀ k, b ≤ k → k ≤ e → τ 57 (41 * L + k + 1) = eC (tl r p s e L (k + 1))) {l5 l6 l7 : Int} (hl5 : (l5 = e ∧ e ≤ c) ∨ (l5 = c ∧ c ≤ e)) (hl6 : l6 = 40 * b) (hl7 : l7 = 41 * L + 1) (hc0 : -1 ≤ c) : ∀ (n k f : Nat) (x : Option Int), k + n = e + 1 → n < f → b ≤ k → bnd x → X3_cheapestFrom_L35 τ f (eC x) l5 l6 l7 k = some (eC (mnr (fun k => oad (lnc r p s b k) (tl r p s e L (k + 1))) n k x)) := by
  have h40 := hw.bars hp
  intro n
  induction n with
  | zero =>
    intro k f x h1 h2 hb hx
    obtain ⟨f, rfl⟩ : ∃ x, f = x + 1 := ⟨f - 1, by omega⟩
    show X3_cheapestFrom_B35 _ _ _ _ _ _ _ = _
    unfold X3_cheapestFrom_B35
    ((repeat (first | with_reducible refine (ag_ok (by omega) (by omega) (by decide)).trans ?_ | rewrite [lt_v] | rewrite [bd_some] | rewrite [bd2_some] | with_reducible refine (if_pos (by first | omega | (unfold w32; omega))).trans ?_ | with_reducible refine (if_neg (by first | omega | (unfold w32; omega))).trans ?_)); (repeat (first | with_reducible refine Eq.trans ?_ (if_pos (by first | omega | (unfold w32; omega))).symm | with_reducible refine Eq.trans ?_ (if_neg (by first | omega | (unfold w32; omega))).symm)); try rfl)
  | succ n ih =>
    intro k f x h1 h2 hb hx
    obtain ⟨f, rfl⟩ : ∃ x, f = x + 1 := ⟨f - 1, by omega⟩
    show X3_cheapestFrom_B35 _ _ _ _ _ _ _ = _
    by_cases hk : l5 < k
    · rw [mnr_none (n + 1) k x (fun j j1 j2 => by
        have : lnc r p s b j = none := lnc_none (h4 j (by omega) (by omega))
        show oad (lnc r p s b j) _ = none
        rw [this]; rfl)]
      unfold X3_cheapestFrom_B35
      ((repeat (first | with_reducible refine (ag_ok (by omega) (by omega) (by decide)).trans ?_ | rewrite [lt_v] | rewrite [bd_some] | rewrite [bd2_some] | with_reducible refine (if_pos (by first | omega | (unfold w32; omega))).trans ?_ | with_reducible refine (if_neg (by first | omega | (unfold w32; omega))).trans ?_)); (repeat (first | with_reducible refine Eq.trans ?_ (if_pos (by first | omega | (unfold w32; omega))).symm | with_reducible refine Eq.trans ?_ (if_neg (by first | omega | (unfold w32; omega))).symm)); try rfl)
    · have q5 : τ 55 (l6 + k).toNat = eC (lnc r p s b k) := by rw [show (l6 + k).toNat = 40 * b + k by omega]; exact h3 k hb (by omega)
      have q7 : τ 57 (l7 + k).toNat = eC (tl r p s e L (k + 1)) := by rw [show (l7 + k).toNat = 41 * L + k + 1 by omega]; exact h7 k hb (by omega)
      have b1 := bnd_lnc hw hp hs (a := b) (k := k) (by omega) hb
      have b2 := bnd_tl hw hp hs (e := e) (L := L) (b := k + 1) (by omega) (by omega)
      have b3 := bnd_lt hw hp hs (b := b) (k := k) (e := e) (by omega) hb (by omega) (L := L) (by omega)
      unfold X3_cheapestFrom_B35 X3_cheapestFrom_B100
      show _ = some (eC (mnr _ n (k + 1) (omn x (oad (lnc r p s b k) (tl r p s e L (k + 1))))))
      rcases eC_w b1 with ⟨u1, u2⟩ | ⟨v1, u1, u2, u3⟩
      · repeat (first | with_reducible refine (ag_ok (by omega) (by omega) (by decide)).trans ?_ | rewrite [lt_v] | rewrite [bd_some] | rewrite [bd2_some] | with_reducible refine (if_pos (by first | omega | (unfold w32; omega))).trans ?_ | with_reducible refine (if_neg (by first | omega | (unfold w32; omega))).trans ?_)
        rw [u1, show oad none (tl r p s e L (k + 1)) = none from rfl, omn_none]
        exact ih (k + 1) f x (by omega) (by omega) (by omega) hx
      · rcases eC_w b2 with ⟨w1, w2⟩ | ⟨v2, w1, w2, w3⟩
        · repeat (first | with_reducible refine (ag_ok (by omega) (by omega) (by decide)).trans ?_ | rewrite [lt_v] | rewrite [bd_some] | rewrite [bd2_some] | with_reducible refine (if_pos (by first | omega | (unfold w32; omega))).trans ?_ | with_reducible refine (if_neg (by first | omega | (unfold w32; omega))).trans ?_)
          rw [u1, w1, show oad (some v1) none = none from rfl, omn_none]
          exact ih (k + 1) f x (by omega) (by omega) (by omega) hx
        · rw [u1, w1] at b3
          have b4 := b3 (v1 + v2) rfl
          repeat (first | with_reducible refine (ag_ok (by omega) (by omega) (by decide)).trans ?_ | rewrite [lt_v] | rewrite [bd_some] | rewrite [bd2_some] | with_reducible refine (if_pos (by first | omega | (unfold w32; omega))).trans ?_ | with_reducible refine (if_neg (by first | omega | (unfold w32; omega))).trans ?_)
          rw [q5, q7, u2, w2, imn_eC hx b4, u1, w1]
          exact ih (k + 1) f _ (by omega) (by omega) (by omega) (omn_in (P := fun v => -1000 ≤ v ∧ v ≤ 1000000) hx (fun v hv => by rw [← Option.some.inj hv]; exact b4))
theorem c_cheap {r : Nat → Int} (hw : WF r) {p : Nat} (hp : p < 4) {s : Int} (hs : 0 ≤ s ∧ s ≤ 2) {τ : Mem} {b e E L : Nat} (hb : b ≤ e) (he : e ≤ E) (hE : (E : Int) < r (9 + 165 * p)) (hL : L < 6) (ht : LTb r p s τ b E) (h7 : ∀ k, b ≤ k → k ≤ e → τ 57 (41 * L + k + 1) = eC (tl r p s e L (k + 1))) : X3_cheapestFrom τ b e ((L + 1 : Nat) : Int) = some (eC (tl r p s e (L + 1) b)) := by
  have h40 := hw.bars hp
  obtain ⟨c, t1, t2, t3, t4, t5⟩ := ht
  have hc : imn e (τ 56 b) = e ∧ (e : Int) ≤ c ∨ imn e (τ 56 b) = c ∧ c ≤ e := by
    rw [t1]
    unfold imn
    rw [w32_id (by omega) (by omega), w32_id (by omega) (by omega)]
    by_cases q : c < e
    · rw [if_pos q]; omega
    · rw [if_neg q]; omega
  unfold X3_cheapestFrom
  rw [ag_nat (by omega) (by decide), lt_v, lt_v, lt_v]
  have := c_cheapL hw hp hs he hE hL t4 t5 h7 hc (show (b : Int) * 40 = 40 * b by omega) (show (((L + 1 : Nat) : Int) - 1) * 41 + 1 = 41 * L + 1 by omega) (by omega) (e + 1 - b) b 5000 none (by omega) (by omega) (by omega) (fun v h => by cases h)
  rw [show eC none = 2147483647 from rfl] at this
  rw [this]
  show _ = some (eC (if b = e + 1 then some 0 else _))
  rw [if_neg (by omega)]
