/-! lines -/
def lmk (r : Nat → Int) (p : Nat) : Nat → Nat → Int
  | 0, _ => 0
  | n + 1, j => (if mkd r p j 2 = 0 then 0 else r 3) + lmk r p n (j + 1)
def lrm (r : Nat → Int) (p : Nat) (s : Int) (a k : Nat) : Int := rsm r p s (k + 1 - a) a
def lnv (r : Nat → Int) (p : Nat) (s : Int) (a k : Nat) : Int := (if (k : Int) = r (9 + 165 * p) - 1 then 0 else (r 0 - lrm r p s a k) * (r 0 - lrm r p s a k) / 10) + 20 * s * s - (if mkd r p k 4 = 0 then 0 else 5) + lmk r p (k - a) (a + 1)
def lnc (r : Nat → Int) (p : Nat) (s : Int) (a k : Nat) : Option Int := if lrm r p s a k ≤ r 0 ∧ meS r p k ≠ 0 then some (lnv r p s a k) else none
theorem WF.rep {r : Nat → Int} (hw : WF r) : 0 ≤ r 3 ∧ r 3 ≤ 99 := hw.1.2.2.2.1
theorem WF.lines {r : Nat → Int} (hw : WF r) : 1 ≤ r 1 ∧ r 1 ≤ 6 := hw.1.2.1
theorem WF.page {r : Nat → Int} (hw : WF r) : 0 ≤ r 4 ∧ r 4 ≤ 999 := hw.1.2.2.2.2
theorem rsm_snoc (r : Nat → Int) (p : Nat) (s : Int) : ∀ (n : Nat) (a : Int), rsm r p s (n + 1) a = rsm r p s n a + rmF (r (10 + 165 * p + 4 * (a + n).toNat)) s
  | 0, a => by
    show rmF _ s + 0 = 0 + rmF _ s
    rw [show a + ((0 : Nat) : Int) = a by omega, Int.add_zero, Int.zero_add]
  | n + 1, a => by
    have ih := rsm_snoc r p s n (a + 1)
    show rmF _ s + rsm r p s (n + 1) (a + 1) = rmF _ s + rsm r p s n (a + 1) + rmF _ s
    rw [ih, show a + 1 + (n : Int) = a + ((n + 1 : Nat) : Int) by omega, Int.add_assoc]
theorem lmk_snoc (r : Nat → Int) (p : Nat) : ∀ (n j : Nat), lmk r p (n + 1) j = lmk r p n j + (if mkd r p ((j + n : Nat) : Int) 2 = 0 then 0 else r 3)
  | 0, j => by
    show _ + 0 = 0 + _
    rw [Int.add_zero, Int.zero_add, Nat.add_zero]
  | n + 1, j => by
    have ih := lmk_snoc r p n (j + 1)
    show _ + lmk r p (n + 1) (j + 1) = _ + lmk r p n (j + 1) + _
    rw [ih, show j + 1 + n = j + (n + 1) by omega, Int.add_assoc]
theorem lmk_in {r : Nat → Int} (hw : WF r) (p : Nat) : ∀ (n j : Nat), 0 ≤ lmk r p n j ∧ lmk r p n j ≤ 99 * n
  | 0, j => by show (0 : Int) ≤ 0 ∧ (0 : Int) ≤ 99 * ((0 : Nat) : Int); omega
  | n + 1, j => by
    have ih := lmk_in hw p n (j + 1)
    have h3 := hw.rep
    unfold lmk
    by_cases h : mkd r p j 2 = 0
    · rw [if_pos h]; omega
    · rw [if_neg h]; omega
theorem lrm_in {r : Nat → Int} (hw : WF r) {p : Nat} (hp : p < 4) {s : Int} (hs : 0 ≤ s ∧ s ≤ 2) {a k : Nat} (hk : (k : Int) < r (9 + 165 * p)) (ha : a ≤ k) : 1 ≤ lrm r p s a k ∧ lrm r p s a k ≤ 2400 := by
  have h40 := hw.bars hp
  have := rsm_in hw hp hs (k + 1 - a) a (by omega) (by omega)
  unfold lrm
  omega
theorem sq_in {x : Int} (h1 : 0 ≤ x) (h2 : x ≤ 200) : 0 ≤ x * x ∧ x * x ≤ 40000 := by
  have h3 : x * x ≤ 200 * 200 := Int.mul_le_mul h2 h2 h1 (by omega)
  exact ⟨Int.mul_nonneg h1 h1, by omega⟩
theorem ss_in {s : Int} (hs : 0 ≤ s ∧ s ≤ 2) : 0 ≤ 20 * s * s ∧ 20 * s * s ≤ 80 := by
  rcases (by omega : s = 0 ∨ s = 1 ∨ s = 2) with rfl | rfl | rfl <;> decide
theorem lnv_in {r : Nat → Int} (hw : WF r) {p : Nat} (hp : p < 4) {s : Int} (hs : 0 ≤ s ∧ s ≤ 2) {a k : Nat} (hk : (k : Int) < r (9 + 165 * p)) (ha : a ≤ k) (hf : lrm r p s a k ≤ r 0) : -5 ≤ lnv r p s a k ∧ lnv r p s a k ≤ 8000 := by
  have h40 := hw.bars hp
  have hwd := hw.wid
  have h1 := lrm_in hw hp hs hk ha
  have h2 := lmk_in hw p (k - a) (a + 1)
  have h3 := sq_in (x := r 0 - lrm r p s a k) (by omega) (by omega)
  have h4 := ss_in hs
  unfold lnv
  generalize (r 0 - lrm r p s a k) * (r 0 - lrm r p s a k) = q at *
  generalize 20 * s * s = t at *
  by_cases c1 : (k : Int) = r (9 + 165 * p) - 1
  · rw [if_pos c1]
    by_cases c2 : mkd r p k 4 = 0
    · rw [if_pos c2]; omega
    · rw [if_neg c2]; omega
  · rw [if_neg c1]
    by_cases c2 : mkd r p k 4 = 0
    · rw [if_pos c2]; omega
    · rw [if_neg c2]; omega
theorem m_lmk {σ : Mem} (hw : WF (σ 112)) {p : Nat} (hp : p < 4) {k : Int} (hk : 0 ≤ k ∧ k < σ 112 (9 + 165 * p)) : ∀ (n f j : Nat) (acc : Int), n < f → (j : Int) + n = k + 1 → X11_lineCost_L66 σ f p k acc j = some (acc + lmk (σ 112) p n j) := by
  have h40 := hw.bars hp
  intro n
  induction n with
  | zero =>
    intro f j acc h1 h2
    obtain ⟨f, rfl⟩ : ∃ x, f = x + 1 := ⟨f - 1, by omega⟩
    show X11_lineCost_B66 _ _ _ _ _ _ = some (acc + 0)
    rw [Int.add_zero]
    unfold X11_lineCost_B66
    ((repeat (first | with_reducible refine (ag_ok (by omega) (by omega) (by decide)).trans ?_ | rewrite [lt_v] | rewrite [bd_some] | rewrite [bd2_some] | with_reducible refine (if_pos (by first | omega | (unfold w32; omega))).trans ?_ | with_reducible refine (if_neg (by first | omega | (unfold w32; omega))).trans ?_)); (repeat (first | with_reducible refine Eq.trans ?_ (if_pos (by first | omega | (unfold w32; omega))).symm | with_reducible refine Eq.trans ?_ (if_neg (by first | omega | (unfold w32; omega))).symm)); try rfl)
  | succ n ih =>
    intro f j acc h1 h2
    obtain ⟨f, rfl⟩ : ∃ x, f = x + 1 := ⟨f - 1, by omega⟩
    show X11_lineCost_B66 _ _ _ _ _ _ = _
    have hm := m_mark (σ := σ) hp (b := (j : Int)) (k := 2) ⟨by omega, by omega⟩
    unfold X11_lineCost_B66 X11_lineCost_B95 lmk
    rw [if_neg (by first | omega | (unfold w32; omega)), bdk hm]
    by_cases hc : mkd (σ 112) p j 2 = 0
    · rw [if_pos hc, if_pos hc, if_pos (by decide), lt_v, lt_v, Int.add_zero, Int.zero_add]
      exact ih f (j + 1) acc (by omega) (by omega)
    · rw [if_neg hc, if_neg hc, if_neg (by decide), ag_ok (by omega) (by omega) (by decide), lt_v, lt_v, ← Int.add_assoc]
      exact ih f (j + 1) (acc + σ 112 3) (by omega) (by omega)
theorem m_lineCost {σ : Mem} (hw : WF (σ 112)) {p : Nat} (hp : p < 4) {s : Int} (hs : 0 ≤ s ∧ s ≤ 2) {a k : Nat} (hk : (k : Int) < σ 112 (9 + 165 * p)) (ha : a ≤ k) (hf : lrm (σ 112) p s a k ≤ σ 112 0) : X11_lineCost σ p a k s (lrm (σ 112) p s a k) = some (lnv (σ 112) p s a k) := by
  have h40 := hw.bars hp
  have hwd := hw.wid
  have h1 := lrm_in hw hp hs hk ha
  have h3 := sq_in (x := σ 112 0 - lrm (σ 112) p s a k) (by omega) (by omega)
  have hm := m_mark (σ := σ) hp (b := (k : Int)) (k := 4) ⟨by omega, by omega⟩
  have w10 : w32 (10 : Int) ≠ 0 := by decide
  have fin : ∀ x y : Int, X11_lineCost_B58 σ p a k x y = some (x - y + lmk (σ 112) p (k - a) (a + 1)) := by
    intro x y
    unfold X11_lineCost_B58
    rw [lt_v, lt_v]
    exact m_lmk hw hp ⟨by omega, hk⟩ (k - a) 5000 (a + 1) (x - y) (by omega) (by omega)
  have b34 : ∀ x : Int, X11_lineCost_B34 σ p a k s x = some (x + 20 * s * s - (if mkd (σ 112) p k 4 = 0 then 0 else 5) + lmk (σ 112) p (k - a) (a + 1)) := by
    intro x
    unfold X11_lineCost_B34
    rw [bdk hm]
    by_cases hc : mkd (σ 112) p k 4 = 0
    · rw [if_pos hc, if_pos hc, if_pos (by decide), fin]
    · rw [if_neg hc, if_neg hc, if_neg (by decide), fin]
  unfold X11_lineCost lnv
  rw [ag_ok (by omega) (by omega) (by decide), lt_v, bdk (mbarsN hp), show (0 : Int).toNat = 0 from rfl]
  by_cases hc : (k : Int) = σ 112 (9 + 165 * p) - 1
  · rw [if_neg (by first | omega | (unfold w32; omega)), if_pos hc, b34]
  · rw [if_pos (by first | omega | (unfold w32; omega)), if_neg hc, dg_ok w10, b34, idv_ok (by omega) (by omega)]
