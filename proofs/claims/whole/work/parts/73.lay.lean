/-! a laying: pages and lines, by the row -/
def fnd1 (f : Nat → Bool) : Nat → Nat → Nat
  | 0, k => k
  | n + 1, k => if f k = true then k else fnd1 f n (k + 1)
theorem fnd1_in (f : Nat → Bool) : ∀ n k, k ≤ fnd1 f n k ∧ fnd1 f n k ≤ k + n
  | 0, k => ⟨Nat.le_refl _, Nat.le_refl _⟩
  | n + 1, k => by
    unfold fnd1
    have := fnd1_in f n (k + 1)
    split <;> omega
theorem fnd1_none {f : Nat → Bool} : ∀ n k, (∀ j, k ≤ j → j < k + n → f j = false) → fnd1 f n k = k + n
  | 0, k, _ => rfl
  | n + 1, k, h => by
    unfold fnd1
    rw [h k (by omega) (by omega), if_neg (by simp), fnd1_none n (k + 1) (fun j j1 j2 => h j (by omega) (by omega))]
    omega
theorem fnd1_sat {f : Nat → Bool} : ∀ n k, (∃ j, k ≤ j ∧ j ≤ k + n ∧ f j = true) → f (fnd1 f n k) = true
  | 0, k, ⟨j, j1, j2, j3⟩ => by
    show f k = true
    rw [show k = j by omega]; exact j3
  | n + 1, k, ⟨j, j1, j2, j3⟩ => by
    unfold fnd1
    by_cases h : f k = true
    · rw [if_pos h]; exact h
    · rw [if_neg h]
      exact fnd1_sat n (k + 1) ⟨j, by
        by_cases hj : j = k
        · rw [hj] at j3; exact absurd j3 h
        · omega, by omega, j3⟩
def fle (r : Nat → Int) (p : Nat) (s : Int) (e L b : Nat) : Nat := fnd1 (fun k => decide (oad (lnc r p s b k) (tl r p s e L (k + 1)) = tl r p s e (L + 1) b)) (e - b) b
def lns (r : Nat → Int) (p : Nat) (s : Int) (e : Nat) : Nat → Nat → List Nat
  | 0, _ => []
  | L + 1, b => if b ≤ e then fle r p s e L b :: lns r p s e L (fle r p s e L b + 1) else []
theorem mnr_mem {f : Nat → Option Int} : ∀ (n k : Nat) (x : Option Int) (v : Int), mnr f n k x = some v → x = some v ∨ ∃ j, k ≤ j ∧ j < k + n ∧ f j = some v
  | 0, _, _, _, h => Or.inl h
  | n + 1, k, x, v, h => by
    rcases mnr_mem n (k + 1) (omn x (f k)) v h with h1 | ⟨j, j1, j2, j3⟩
    · have : omn x (f k) = x ∨ omn x (f k) = f k := by
        cases x with
        | none => exact Or.inr rfl
        | some a =>
          cases f k with
          | none => exact Or.inl rfl
          | some b =>
            show some (if b < a then b else a) = _ ∨ some (if b < a then b else a) = _
            split
            · exact Or.inr rfl
            · exact Or.inl rfl
      rcases this with e | e
      · exact Or.inl (by rw [← e]; exact h1)
      · exact Or.inr ⟨k, by omega, by omega, by rw [← e]; exact h1⟩
    · exact Or.inr ⟨j, by omega, by omega, j3⟩
theorem fle_ex {r : Nat → Int} {p : Nat} {s : Int} {e L b : Nat} (hb : b ≤ e) (h : tl r p s e (L + 1) b ≠ none) : ∃ j, b ≤ j ∧ j ≤ e ∧ decide (oad (lnc r p s b j) (tl r p s e L (j + 1)) = tl r p s e (L + 1) b) = true := by
  cases hv : tl r p s e (L + 1) b with
  | none => exact absurd hv h
  | some v =>
    have h2 := hv
    unfold tl at h2
    rw [if_neg (by omega)] at h2
    rcases mnr_mem _ _ _ _ h2 with h1 | ⟨j, j1, j2, j3⟩
    · cases h1
    · exact ⟨j, j1, by omega, decide_eq_true j3⟩
theorem fle_in {r : Nat → Int} {p : Nat} {s : Int} {e L b : Nat} (hb : b ≤ e) : b ≤ fle r p s e L b ∧ fle r p s e L b ≤ e := by
  have := fnd1_in (fun k => decide (oad (lnc r p s b k) (tl r p s e L (k + 1)) = tl r p s e (L + 1) b)) (e - b) b
  unfold fle
  omega
theorem fle_eq {r : Nat → Int} {p : Nat} {s : Int} {e L b : Nat} (hb : b ≤ e) (h : tl r p s e (L + 1) b ≠ none) : oad (lnc r p s b (fle r p s e L b)) (tl r p s e L (fle r p s e L b + 1)) = tl r p s e (L + 1) b := by
  have h1 := fle_ex hb h
  have := fnd1_sat (f := fun k => decide (oad (lnc r p s b k) (tl r p s e L (k + 1)) = tl r p s e (L + 1) b)) (e - b) b (by
    obtain ⟨j, j1, j2, j3⟩ := h1
    exact ⟨j, j1, by omega, j3⟩)
  exact of_decide_eq_true this
theorem lns_len (r : Nat → Int) (p : Nat) (s : Int) (e : Nat) : ∀ (L b : Nat), (lns r p s e L b).length ≤ e + 1 - b
  | 0, b => by show 0 ≤ _; omega
  | L + 1, b => by
    unfold lns
    by_cases h : b ≤ e
    · rw [if_pos h]
      have h1 := lns_len r p s e L (fle r p s e L b + 1)
      have h2 := fle_in (r := r) (p := p) (s := s) (L := L) h
      show (lns r p s e L (fle r p s e L b + 1)).length + 1 ≤ _
      omega
    · rw [if_neg h]
      show 0 ≤ _
      omega
theorem eC_inj {x : Option Int} (hx : bnd x) {v : Int} (hv : -1000 ≤ v ∧ v ≤ 1000000) : eC x = v ↔ x = some v := by
  cases x with
  | none => exact ⟨fun h => by have : (2147483647 : Int) = v := h; omega, fun h => by cases h⟩
  | some a => exact ⟨fun h => by rw [show a = v from h], fun h => Option.some.inj h⟩
/-- the class finds the first line's end -/
theorem c_fleL {r : Nat → Int} (hw : WF r) {p : Nat} (hp : p < 4) {s : Int} (hs : 0 ≤ s ∧ s ≤ 2) {τ : Mem} {b e L : Nat} (he : (e : Int) < r (9 + 165 * p)) (hL : L < 6) {c v : Int} (h3 : ∀ k : Nat, b ≤ k → (k : Int) ≤ c → τ 55 (40 * b + k) = eC (lnc r p s b k)) (h4 : ∀ k : Nat, c < k → k ≤ e → r 0 < lrm r p s b k) (h7 : ∀ k, b ≤ k → k ≤ e → τ 57 (41 * L + (k + 1)) = eC (tl r p s e L (k + 1))) (hv : tl r p s e (L + 1) b = some v) (hc0 : -1 ≤ c) (hce : c ≤ e) : ∀ (n k f : Nat), k + n = e → n + 1 < f → b ≤ k → X3_firstLineEnd_L23 τ f b e ((L + 1 : Nat) : Int) v c k = some ((fnd1 (fun k => decide (oad (lnc r p s b k) (tl r p s e L (k + 1)) = tl r p s e (L + 1) b)) n k : Nat) : Int) := by
  have h40 := hw.bars hp
  have bv := bnd_tl hw hp hs he (L := L + 1) (b := b) (by omega) v hv
  have stop : ∀ (k f : Nat), c < k → k ≤ e + 1 → X3_firstLineEnd_L23 τ (f + 1) b e ((L + 1 : Nat) : Int) v c k = some (e : Int) := by
    intro k f h1 h2
    show X3_firstLineEnd_B23 _ _ _ _ _ _ _ _ = _
    unfold X3_firstLineEnd_B23
    rw [if_pos (by first | omega | (unfold w32; omega))]
  have one : ∀ (k f : Nat), b ≤ k → (k : Int) ≤ c → k ≤ e → X3_firstLineEnd_L23 τ (f + 1) b e ((L + 1 : Nat) : Int) v c k = if decide (oad (lnc r p s b k) (tl r p s e L (k + 1)) = tl r p s e (L + 1) b) = true then some (k : Int) else X3_firstLineEnd_L23 τ f b e ((L + 1 : Nat) : Int) v c ((k : Int) + 1) := by
    intro k f k1 k2 k3
    have q5 : X3_costOf τ b k = some (eC (lnc r p s b k)) := by
      unfold X3_costOf
      rw [ag_ok (by omega) (by omega) (by decide), show ((b : Int) * 40 + k).toNat = 40 * b + k by omega, h3 k k1 k2]
    have q7 : X3_pageCost τ (((L + 1 : Nat) : Int) - 1) ((k : Int) + 1) = some (eC (tl r p s e L (k + 1))) := by
      have := c_pageCost (τ := τ) (L := L) (b := k + 1) (by omega) (by omega)
      rw [h7 k k1 k3] at this
      rw [show ((L + 1 : Nat) : Int) - 1 = L by omega]
      exact this
    have b1 := bnd_lnc hw hp hs (a := b) (k := k) (by omega) k1
    have b2 := bnd_tl hw hp hs (e := e) (L := L) (b := k + 1) (by omega) (by omega)
    have b3 := bnd_lt hw hp hs (b := b) (k := k) (e := e) (by omega) k1 (by omega) (L := L) (by omega)
    show X3_firstLineEnd_B23 _ _ _ _ _ _ _ _ = _
    unfold X3_firstLineEnd_B23 X3_firstLineEnd_B79
    rw [if_neg (by first | omega | (unfold w32; omega)), bdk q5, bdk q7, hv]
    rcases eC_w b1 with ⟨u1, u2⟩ | ⟨v1, u1, u2, u3⟩
    · rw [u2, if_pos rfl, u1, if_neg (by rw [show oad none (tl r p s e L (k + 1)) = none from rfl]; simp)]
      rfl
    · rw [u2, if_neg (by first | omega | (unfold w32; omega))]
      rcases eC_w b2 with ⟨w1, w2⟩ | ⟨v2, w1, w2, w3⟩
      · rw [w2, if_pos rfl, u1, w1, if_neg (by rw [show oad (some v1) none = none from rfl]; simp)]
        rfl
      · rw [u1, w1] at b3
        have b4 := b3 (v1 + v2) rfl
        rw [w2, if_neg (by first | omega | (unfold w32; omega)), u1, w1, show oad (some v1) (some v2) = some (v1 + v2) from rfl]
        by_cases hq : v1 + v2 = v
        · rw [if_neg (by first | omega | (unfold w32; omega)), if_pos (by rw [hq]; simp)]
        · rw [if_pos (by first | omega | (unfold w32; omega)), if_neg (by simp [hq])]
          rfl
  intro n
  induction n with
  | zero =>
    intro k f h1 h2 h5
    obtain ⟨f, rfl⟩ : ∃ x, f = x + 2 := ⟨f - 2, by omega⟩
    show _ = some ((k : Nat) : Int)
    by_cases hk : c < k
    · rw [stop k (f + 1) hk (by omega), show k = e by omega]
    · rw [one k (f + 1) h5 (by omega) (by omega)]
      split
      · rfl
      · rw [show (k : Int) + 1 = ((k + 1 : Nat) : Int) by omega, stop (k + 1) f (by omega) (by omega), show k = e by omega]
  | succ n ih =>
    intro k f h1 h2 h5
    obtain ⟨f, rfl⟩ : ∃ x, f = x + 1 := ⟨f - 1, by omega⟩
    by_cases hk : c < k
    · rw [stop k f hk (by omega), fnd1_none (n + 1) k (fun j j1 j2 => by
        have : lnc r p s b j = none := lnc_none (h4 j (by omega) (by omega))
        simp only [this, hv]
        rfl), show k + (n + 1) = e by omega]
    · rw [one k f h5 (by omega) (by omega)]
      unfold fnd1
      by_cases hd : decide (oad (lnc r p s b k) (tl r p s e L (k + 1)) = tl r p s e (L + 1) b) = true
      · rw [if_pos hd, if_pos hd]
      · rw [if_neg hd, if_neg hd]
        exact ih (k + 1) f (by omega) (by omega) (by omega)
theorem c_fle {r : Nat → Int} (hw : WF r) {p : Nat} (hp : p < 4) {s : Int} (hs : 0 ≤ s ∧ s ≤ 2) {τ : Mem} {b e L : Nat} (he : (e : Int) < r (9 + 165 * p)) (hb : b ≤ e) (hL : L < 6) (ht : LTb r p s τ b e) (hL0 : ∀ k, b ≤ k → k ≤ e → τ 57 (41 * L + (k + 1)) = eC (tl r p s e L (k + 1))) (hL1 : τ 57 (41 * (L + 1) + b) = eC (tl r p s e (L + 1) b)) (hv : tl r p s e (L + 1) b ≠ none) : X3_firstLineEnd τ b e ((L + 1 : Nat) : Int) = some ((fle r p s e L b : Nat) : Int) := by
  have h40 := hw.bars hp
  obtain ⟨c, t1, t2, t3, t4, t5⟩ := ht
  obtain ⟨v, hv⟩ : ∃ v, tl r p s e (L + 1) b = some v := by
    cases h : tl r p s e (L + 1) b with
    | none => exact absurd h hv
    | some v => exact ⟨v, rfl⟩
  have hc0 : -1 ≤ c := by omega
  have hn1 : b + (e - b) = e := by omega
  have hn2 : e - b + 1 < 5000 := by omega
  have hpc := c_pageCost (τ := τ) (L := L + 1) (b := b) (by omega) (by omega)
  rw [hL1, hv, show eC (some v) = v from rfl] at hpc
  have hc : imn e (τ 56 b) = c := by
    rw [t1]
    unfold imn
    rw [w32_id (by omega) (by omega), w32_id (by omega) (by omega)]
    split <;> omega
  unfold X3_firstLineEnd fle
  rw [bdk hpc, ag_nat (by omega) (by decide), lt_v, hc]
  exact c_fleL hw hp hs he hL t4 t5 hL0 hv hc0 t3 (e - b) b 5000 hn1 hn2 (Nat.le_refl b)
