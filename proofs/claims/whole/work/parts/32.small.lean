/-! the small methods of both sides -/
theorem within_t {σ : Mem} {v a b : Int} (h1 : a ≤ v) (h2 : v ≤ b) (h3 : -2147483648 ≤ a) (h4 : b < 2147483648) : X10_within σ v a b = some 1 := by
  unfold X10_within
  rw [w32_id (x := v) (by omega) (by omega), w32_id (x := a) (by omega) (by omega), w32_id (x := b) (by omega) (by omega), if_neg (by omega), if_neg (by omega)]
theorem within_f {σ : Mem} {v a b : Int} (h : ¬ (a ≤ v ∧ v ≤ b)) (hv : inR v) (ha : inR a) (hb : inR b) : X10_within σ v a b = some 0 := by
  unfold X10_within
  rw [inR_w hv, inR_w ha, inR_w hb]
  by_cases h1 : v < a
  · rw [if_pos h1]
  · rw [if_neg h1, if_pos (by omega)]
theorem in_t {σ : Mem} {v a b : Int} (h1 : a ≤ v) (h2 : v ≤ b) (h3 : -2147483648 ≤ a) (h4 : b < 2147483648) : X11_in σ v a b = some 1 := by
  unfold X11_in
  rw [w64_id (x := v) (by omega) (by omega), w64_id (x := a) (by omega) (by omega), w64_id (x := b) (by omega) (by omega), if_neg (by omega), if_neg (by omega)]
theorem in_f {σ : Mem} {v a b : Int} (h : ¬ (a ≤ v ∧ v ≤ b)) (hv : inR v) (ha : inR a) (hb : inR b) : X11_in σ v a b = some 0 := by
  obtain ⟨hv1, hv2⟩ := hv
  obtain ⟨ha1, ha2⟩ := ha
  obtain ⟨hb1, hb2⟩ := hb
  unfold X11_in
  rw [w64_id (x := v) (by omega) (by omega), w64_id (x := a) (by omega) (by omega), w64_id (x := b) (by omega) (by omega)]
  by_cases h1 : v < a
  · rw [if_pos h1]
  · rw [if_neg h1, if_pos (by omega)]
theorem isPart_t {σ : Mem} {p : Int} (h1 : 0 ≤ p) (h2 : p ≤ 3) : X10_isPart σ p = some 1 := by
  unfold X10_isPart
  rw [within_t h1 h2 (by decide) (by decide), bd_some, bg_1]
theorem isPart_f {σ : Mem} {p : Int} (h : ¬ (0 ≤ p ∧ p ≤ 3)) (hp : inR p) : X10_isPart σ p = some 0 := by
  unfold X10_isPart
  rw [within_f h hp ⟨by decide, by decide⟩ ⟨by decide, by decide⟩, bd_some, bg_0]
theorem mPart_t {σ : Mem} {p : Int} (h1 : 0 ≤ p) (h2 : p ≤ 3) : X11_isPart σ p = some 1 := by
  unfold X11_isPart
  rw [w32_id (by omega) (by omega), in_t h1 h2 (by decide) (by decide), bd_some, bg_1]
theorem mPart_f {σ : Mem} {p : Int} (h : ¬ (0 ≤ p ∧ p ≤ 3)) (hp : inR p) : X11_isPart σ p = some 0 := by
  unfold X11_isPart
  rw [inR_w hp, in_f h hp ⟨by decide, by decide⟩ ⟨by decide, by decide⟩, bd_some, bg_0]
theorem isSheet_t {σ : Mem} {p : Int} (h1 : 0 ≤ p) (h2 : p ≤ 3) : X10_isSheet σ p = some 1 := by
  unfold X10_isSheet
  rw [within_t h1 h2 (by decide) (by decide), bd_some, bg_1]
theorem isSheet_f {σ : Mem} {p : Int} (h : ¬ (0 ≤ p ∧ p ≤ 3)) (hp : inR p) : X10_isSheet σ p = some 0 := by
  unfold X10_isSheet
  rw [within_f h hp ⟨by decide, by decide⟩ ⟨by decide, by decide⟩, bd_some, bg_0]
theorem mSheet_t {σ : Mem} {p : Int} (h1 : 0 ≤ p) (h2 : p ≤ 3) : X11_isSheet σ p = some 1 := by
  unfold X11_isSheet
  rw [w32_id (by omega) (by omega), in_t h1 h2 (by decide) (by decide), bd_some, bg_1]
theorem mSheet_f {σ : Mem} {p : Int} (h : ¬ (0 ≤ p ∧ p ≤ 3)) (hp : inR p) : X11_isSheet σ p = some 0 := by
  unfold X11_isSheet
  rw [inR_w hp, in_f h hp ⟨by decide, by decide⟩ ⟨by decide, by decide⟩, bd_some, bg_0]
theorem isSize_t {σ : Mem} {p : Int} (h1 : 0 ≤ p) (h2 : p ≤ 2) : X10_isSize σ p = some 1 := by
  unfold X10_isSize
  rw [within_t h1 h2 (by decide) (by decide), bd_some, bg_1]
theorem isSize_f {σ : Mem} {p : Int} (h : ¬ (0 ≤ p ∧ p ≤ 2)) (hp : inR p) : X10_isSize σ p = some 0 := by
  unfold X10_isSize
  rw [within_f h hp ⟨by decide, by decide⟩ ⟨by decide, by decide⟩, bd_some, bg_0]
/-- a finding is told: class, reference -/
def tel (σ : Mem) (k : Nat) : Mem := st σ 62 k (σ 62 k + 1)
def fnd (σ : Mem) (k : Nat) : Mem := st σ 114 k (σ 114 k + 1)
theorem tell_0 (σ : Mem) : X10_tell σ (-1000001) = some (-1000001, tel σ 0) := by
  unfold X10_tell
  rw [lt_v, show ((-1000001 : Int) - (-1000001)) = 0 by decide, within_t (by decide) (by decide) (by decide) (by decide), bd_some]
  rfl
theorem finds_0 (σ : Mem) : X11_finds σ 0 = some (-1000001, fnd σ 0) := by
  unfold X11_finds
  rfl
theorem tell_1 (σ : Mem) : X10_tell σ (-1000002) = some (-1000002, tel σ 1) := by
  unfold X10_tell
  rw [lt_v, show ((-1000001 : Int) - (-1000002)) = 1 by decide, within_t (by decide) (by decide) (by decide) (by decide), bd_some]
  rfl
theorem finds_1 (σ : Mem) : X11_finds σ 1 = some (-1000002, fnd σ 1) := by
  unfold X11_finds
  rfl
theorem tell_2 (σ : Mem) : X10_tell σ (-1000003) = some (-1000003, tel σ 2) := by
  unfold X10_tell
  rw [lt_v, show ((-1000001 : Int) - (-1000003)) = 2 by decide, within_t (by decide) (by decide) (by decide) (by decide), bd_some]
  rfl
theorem finds_2 (σ : Mem) : X11_finds σ 2 = some (-1000003, fnd σ 2) := by
  unfold X11_finds
  rfl
theorem tell_3 (σ : Mem) : X10_tell σ (-1000004) = some (-1000004, tel σ 3) := by
  unfold X10_tell
  rw [lt_v, show ((-1000001 : Int) - (-1000004)) = 3 by decide, within_t (by decide) (by decide) (by decide) (by decide), bd_some]
  rfl
theorem finds_3 (σ : Mem) : X11_finds σ 3 = some (-1000004, fnd σ 3) := by
  unfold X11_finds
  rfl
theorem tell_4 (σ : Mem) : X10_tell σ (-1000005) = some (-1000005, tel σ 4) := by
  unfold X10_tell
  rw [lt_v, show ((-1000001 : Int) - (-1000005)) = 4 by decide, within_t (by decide) (by decide) (by decide) (by decide), bd_some]
  rfl
theorem finds_4 (σ : Mem) : X11_finds σ 4 = some (-1000005, fnd σ 4) := by
  unfold X11_finds
  rfl
theorem tell_5 (σ : Mem) : X10_tell σ (-1000006) = some (-1000006, tel σ 5) := by
  unfold X10_tell
  rw [lt_v, show ((-1000001 : Int) - (-1000006)) = 5 by decide, within_t (by decide) (by decide) (by decide) (by decide), bd_some]
  rfl
theorem finds_5 (σ : Mem) : X11_finds σ 5 = some (-1000006, fnd σ 5) := by
  unfold X11_finds
  rfl
theorem tell_6 (σ : Mem) : X10_tell σ (-1000007) = some (-1000007, tel σ 6) := by
  unfold X10_tell
  rw [lt_v, show ((-1000001 : Int) - (-1000007)) = 6 by decide, within_t (by decide) (by decide) (by decide) (by decide), bd_some]
  rfl
theorem finds_6 (σ : Mem) : X11_finds σ 6 = some (-1000007, fnd σ 6) := by
  unfold X11_finds
  rfl
/-- isBar of both sides -/
theorem isBar_t {σ : Mem} {p b : Int} (hp : 0 ≤ p ∧ p ≤ 3) (hb : 0 ≤ b) (hn : b < σ (9 + 3 * p.toNat) 2) (h40 : σ (9 + 3 * p.toNat) 2 ≤ 40) : X10_isBar σ p b = some 1 := by
  unfold X10_isBar
  rw [isPart_t hp.1 hp.2, bd_some, if_neg (by decide), ag_ok hp.1 (by omega) (by decide)]
  unfold X5_has
  rw [w32_id (x := b) (by omega) (by omega), w32_id (x := σ (9 + 3 * p.toNat) 2) (by omega) (by omega), if_neg (by omega), if_neg (by omega), bd_some, if_neg (by decide)]
theorem isBar_f {σ : Mem} {p b : Int} (hp : inR p) (hb : inR b) (h : ¬ (0 ≤ p ∧ p ≤ 3 ∧ 0 ≤ b ∧ b < σ (9 + 3 * p.toNat) 2)) (h40 : 0 ≤ p → p ≤ 3 → 0 ≤ σ (9 + 3 * p.toNat) 2 ∧ σ (9 + 3 * p.toNat) 2 ≤ 40) : X10_isBar σ p b = some 0 := by
  unfold X10_isBar
  by_cases hpp : 0 ≤ p ∧ p ≤ 3
  · have := h40 hpp.1 hpp.2
    rw [isPart_t hpp.1 hpp.2, bd_some, if_neg (by decide), ag_ok hpp.1 (by omega) (by decide)]
    unfold X5_has
    rw [inR_w hb, w32_id (x := σ (9 + 3 * p.toNat) 2) (by omega) (by omega)]
    by_cases hb0 : b < 0
    · rw [if_pos hb0, bd_some, if_pos (by decide)]
    · rw [if_neg hb0, if_pos (by omega), bd_some, if_pos (by decide)]
  · rw [isPart_f hpp hp, bd_some, if_pos (by decide)]
theorem mbars {σ : Mem} {p : Int} (hp : 0 ≤ p ∧ p ≤ 3) : X11_bars σ p = some (σ 112 (9 + 165 * p.toNat)) := by
  unfold X11_bars X11_part
  rw [bd_some, ag_ok (by omega) (by omega) (by decide), show (5 + 165 * p + 4).toNat = 9 + 165 * p.toNat by omega]
theorem mBar_t {σ : Mem} {p b : Int} (hp : 0 ≤ p ∧ p ≤ 3) (hb : 0 ≤ b) (hn : b < σ 112 (9 + 165 * p.toNat)) (h40 : σ 112 (9 + 165 * p.toNat) ≤ 40) : X11_isBar σ p b = some 1 := by
  unfold X11_isBar
  rw [mPart_t hp.1 hp.2, bd_some, if_neg (by decide), mbars hp, bd_some, w32_id (x := b) (by omega) (by omega), w32_id (by omega) (by omega), in_t hb (by omega) (by decide) (by omega), bd_some, if_neg (by decide)]
theorem mBar_f {σ : Mem} {p b : Int} (hp : inR p) (hb : inR b) (h : ¬ (0 ≤ p ∧ p ≤ 3 ∧ 0 ≤ b ∧ b < σ 112 (9 + 165 * p.toNat))) (h40 : 0 ≤ p → p ≤ 3 → 0 ≤ σ 112 (9 + 165 * p.toNat) ∧ σ 112 (9 + 165 * p.toNat) ≤ 40) : X11_isBar σ p b = some 0 := by
  unfold X11_isBar
  by_cases hpp : 0 ≤ p ∧ p ≤ 3
  · have := h40 hpp.1 hpp.2
    rw [mPart_t hpp.1 hpp.2, bd_some, if_neg (by decide), mbars hpp, bd_some, inR_w hb, w32_id (by omega) (by omega), in_f (by omega) hb ⟨by decide, by decide⟩ ⟨by omega, by omega⟩, bd_some, if_pos (by decide)]
  · rw [mPart_f hpp hp, bd_some, if_pos (by decide)]
/-- layings are forgotten; a part's table is -/
def fgl (σ : Mem) : Mem := st (st (st (st σ 73 5 0) 83 5 0) 93 5 0) 103 5 0
def fgp (σ : Mem) (p : Nat) : Mem := fgl (st σ (71 + 10 * p) 2 0)
def fga (σ : Mem) : Mem := fgp (fgp (fgp (fgp σ 0) 1) 2) 3
theorem fgl_step (n : Nat) (σ : Mem) (i : Nat) (h : i < 4) : X10_forgetLayings_L2 (n + 1) σ (i : Int) = X10_forgetLayings_L2 n (st σ (73 + 10 * i) 5 0) ((i + 1 : Nat) : Int) := by
  show X10_forgetLayings_B2 (X10_forgetLayings_L2 n) σ (i : Int) = _
  unfold X10_forgetLayings_B2
  rw [w32_id (x := 4) (by decide) (by decide), w32_id (x := (i : Int)) (by omega) (by omega), if_neg (by omega), ag_nat h (by decide)]
  rfl
theorem forgetLayings_eq (σ : Mem) : X10_forgetLayings σ = some (fgl σ) := by
  show X10_forgetLayings_L2 (4999 + 1) σ ((0 : Nat) : Int) = _
  rw [fgl_step _ _ 0 (by decide), show 4999 = 4998 + 1 from rfl, fgl_step _ _ 1 (by decide), show 4998 = 4997 + 1 from rfl, fgl_step _ _ 2 (by decide), show 4997 = 4996 + 1 from rfl, fgl_step _ _ 3 (by decide)]
  rfl
theorem forgetPart_eq (σ : Mem) (p : Nat) (h : p < 4) : X10_forgetPart σ (p : Int) = some (fgp σ p) := by
  unfold X10_forgetPart
  rw [ag_nat h (by decide), lt_v, forgetLayings_eq, bd_some]
  rfl
theorem fga_step (n : Nat) (σ : Mem) (i : Nat) (h : i < 4) : X10_forgetAll_L2 (n + 1) σ (i : Int) = X10_forgetAll_L2 n (fgp σ i) ((i + 1 : Nat) : Int) := by
  show X10_forgetAll_B2 (X10_forgetAll_L2 n) σ (i : Int) = _
  unfold X10_forgetAll_B2
  rw [w32_id (x := 4) (by decide) (by decide), w32_id (x := (i : Int)) (by omega) (by omega), if_neg (by omega), forgetPart_eq σ i h]
  rfl
theorem forgetAll_eq (σ : Mem) : X10_forgetAll σ = some (fga σ) := by
  show X10_forgetAll_L2 (4999 + 1) σ ((0 : Nat) : Int) = _
  rw [fga_step _ _ 0 (by decide), show 4999 = 4998 + 1 from rfl, fga_step _ _ 1 (by decide), show 4998 = 4997 + 1 from rfl, fga_step _ _ 2 (by decide), show 4997 = 4996 + 1 from rfl, fga_step _ _ 3 (by decide)]
  rfl
theorem fgl_ne {σ : Mem} {k : Nat} (h : k ≠ 73 ∧ k ≠ 83 ∧ k ≠ 93 ∧ k ≠ 103) : fgl σ k = σ k := by
  unfold fgl
  rw [st_ne h.2.2.2, st_ne h.2.2.1, st_ne h.2.1, st_ne h.1]
theorem fgp_ne {σ : Mem} {k p : Nat} (h : k < 71 ∨ 111 ≤ k) (hp : p < 4) : fgp σ p k = σ k := by
  unfold fgp
  rw [fgl_ne (by omega), st_ne (by omega)]
theorem fga_ne {σ : Mem} {k : Nat} (h : k < 71 ∨ 111 ≤ k) : fga σ k = σ k := by
  unfold fga
  rw [fgp_ne h (by decide), fgp_ne h (by decide), fgp_ne h (by decide), fgp_ne h (by decide)]
