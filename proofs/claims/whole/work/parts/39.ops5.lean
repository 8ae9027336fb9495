/-! count, status, lay, as -/
def held (f : Nat → Int) : Nat → Int
  | 0 => 0
  | n + 1 => held f n + (if f n < 0 then 0 else 1)
theorem held_congr {f g : Nat → Int} : ∀ n, (∀ i, i < n → f i = g i) → held f n = held g n
  | 0, _ => rfl
  | n + 1, h => by
    show held f n + _ = held g n + _
    rw [held_congr n (fun i hi => h i (by omega)), h n (by omega)]
theorem cHeld_loop (σ : Mem) (B : Nat) (hs : ∀ i, i < 10 → inR (σ (B + 4) i)) : ∀ (r i n : Nat), i + r = 10 → r < n → X0_heldSpots_L4 σ n B (held (σ (B + 4)) i) (i : Int) = some (held (σ (B + 4)) 10) := by
  intro r
  induction r with
  | zero =>
    intro i n hi hn
    obtain ⟨n, rfl⟩ : ∃ m, n = m + 1 := ⟨n - 1, by omega⟩
    show X0_heldSpots_B4 (X0_heldSpots_L4 σ n) σ B _ _ = _
    unfold X0_heldSpots_B4
    rw [w32_nat (by omega), w32_id (x := 10) (by decide) (by decide), if_pos (by omega), show i = 10 by omega]
  | succ r ih =>
    intro i n hi hn
    obtain ⟨n, rfl⟩ : ∃ m, n = m + 1 := ⟨n - 1, by omega⟩
    show X0_heldSpots_B4 (X0_heldSpots_L4 σ n) σ B _ _ = _
    unfold X0_heldSpots_B4 X0_heldSpots_B22
    rw [w32_nat (by omega), w32_id (x := 10) (by decide) (by decide), if_neg (by omega), ag_nat (by omega) (by decide), inR_w (hs i (by omega))]
    have := ih (i + 1) n (by omega) (by omega)
    rw [show held (σ (B + 4)) (i + 1) = held (σ (B + 4)) i + (if σ (B + 4) i < 0 then 0 else 1) from rfl] at this
    by_cases h : σ (B + 4) i < 0
    · rw [if_pos h]
      rw [if_pos h, Int.add_zero] at this
      exact this
    · rw [if_neg h]
      rw [if_neg h] at this
      exact this
theorem cHeld (σ : Mem) (B : Nat) (hs : ∀ i, i < 10 → inR (σ (B + 4) i)) : X0_heldSpots σ B = some (held (σ (B + 4)) 10) := cHeld_loop σ B hs 10 0 5000 (by omega) (by omega)
theorem mHeld_loop (σ : Mem) (hs : ∀ i, i < 10 → inR (σ 112 (756 + i))) : ∀ (r i n : Nat), i + r = 10 → r < n → X11_count_L53 n σ (held (fun s => σ 112 (756 + s)) i) (i : Int) = some (held (fun s => σ 112 (756 + s)) 10, σ) := by
  intro r
  induction r with
  | zero =>
    intro i n hi hn
    obtain ⟨n, rfl⟩ : ∃ m, n = m + 1 := ⟨n - 1, by omega⟩
    show X11_count_B53 (X11_count_L53 n) σ _ _ = _
    unfold X11_count_B53
    rw [w32_nat (by omega), w32_id (x := 10) (by decide) (by decide), if_pos (by omega), show i = 10 by omega]
  | succ r ih =>
    intro i n hi hn
    obtain ⟨n, rfl⟩ : ∃ m, n = m + 1 := ⟨n - 1, by omega⟩
    show X11_count_B53 (X11_count_L53 n) σ _ _ = _
    unfold X11_count_B53 X11_count_B78
    rw [w32_nat (by omega), w32_id (x := 10) (by decide) (by decide), if_neg (by omega), ag_ok (by omega) (by omega) (by decide), show (756 + (i : Int)).toNat = 756 + i by omega, inR_w (hs i (by omega))]
    have := ih (i + 1) n (by omega) (by omega)
    rw [show held (fun s => σ 112 (756 + s)) (i + 1) = held (fun s => σ 112 (756 + s)) i + (if σ 112 (756 + i) < 0 then 0 else 1) from rfl] at this
    by_cases h : σ 112 (756 + i) < 0
    · rw [if_pos h]
      rw [if_pos h] at this
      exact this
    · rw [if_neg h]
      rw [if_neg h] at this
      exact this
theorem mHeld (σ : Mem) (hs : ∀ i, i < 10 → inR (σ 112 (756 + i))) : X11_count_L53 5000 σ 0 0 = some (held (fun s => σ 112 (756 + s)) 10, σ) := mHeld_loop σ hs 10 0 5000 (by omega) (by omega)
theorem c_count {σ : Mem} {w : Int} (hw : inR w) (hs : ∀ i, i < 10 → inR (σ 8 i)) : X10_count σ w = if w = 0 then some (σ 9 2 + σ 12 2 + σ 15 2 + σ 18 2, σ) else if w = 1 then some (σ 4 3, σ) else if w = 2 then some (σ 42 1, σ) else if w = 3 then some (held (σ 8) 10, σ) else some (-1000001, tel σ 0) := by
  unfold X10_count
  rw [inR_w hw, cAll, bd_some, cHeld σ 4 hs, bd_some, tell_0, bd2_some]
theorem m_count {σ : Mem} {w : Int} (hw : inR w) (hs : ∀ i, i < 10 → inR (σ 112 (756 + i))) : X11_count σ w = if w = 0 then some (σ 112 9 + σ 112 174 + σ 112 339 + σ 112 504, σ) else if w = 1 then some (σ 112 665, σ) else if w = 2 then some (σ 111 5, σ) else if w = 3 then some (held (fun s => σ 112 (756 + s)) 10, σ) else some (-1000001, fnd σ 0) := by
  unfold X11_count
  rw [inR_w hw, mAll, bd_some, mHeld σ hs, finds_0, bd2_some, ag_ok (by decide) (by decide) (by decide), show ((665 : Int).toNat) = 665 from rfl]
def sum7 (f : Nat → Int) : Int := f 0 + f 1 + f 2 + f 3 + f 4 + f 5 + f 6
theorem cst_step (n : Nat) (σ : Mem) (a : Int) (i : Nat) (h : i < 7) : X10_status_L32 (n + 1) σ a (i : Int) = X10_status_L32 n σ (a + σ 62 i) ((i + 1 : Nat) : Int) := by
  show X10_status_B32 (X10_status_L32 n) σ a (i : Int) = _
  unfold X10_status_B32
  rw [w32_id (x := 7) (by decide) (by decide), w32_nat (by omega), if_neg (by omega), ag_nat h (by decide)]
  rfl
theorem cst (σ : Mem) : X10_status_L32 5000 σ 0 0 = some (sum7 (σ 62), σ) := by
  show X10_status_L32 (4999 + 1) σ 0 ((0 : Nat) : Int) = _
  rw [cst_step _ _ _ 0 (by decide), show 4999 = 4998 + 1 from rfl, cst_step _ _ _ 1 (by decide), show 4998 = 4997 + 1 from rfl, cst_step _ _ _ 2 (by decide), show 4997 = 4996 + 1 from rfl, cst_step _ _ _ 3 (by decide), show 4996 = 4995 + 1 from rfl, cst_step _ _ _ 4 (by decide), show 4995 = 4994 + 1 from rfl, cst_step _ _ _ 5 (by decide), show 4994 = 4993 + 1 from rfl, cst_step _ _ _ 6 (by decide), Int.zero_add]
  rfl
theorem mst_step (n : Nat) (σ : Mem) (a : Int) (i : Nat) (h : i < 7) : X11_status_L35 (n + 1) σ a (i : Int) = X11_status_L35 n σ (a + σ 114 i) ((i + 1 : Nat) : Int) := by
  show X11_status_B35 (X11_status_L35 n) σ a (i : Int) = _
  unfold X11_status_B35
  rw [w32_id (x := 7) (by decide) (by decide), w32_nat (by omega), if_neg (by omega), ag_nat h (by decide)]
  rfl
theorem mst (σ : Mem) : X11_status_L35 5000 σ 0 0 = some (sum7 (σ 114), σ) := by
  show X11_status_L35 (4999 + 1) σ 0 ((0 : Nat) : Int) = _
  rw [mst_step _ _ _ 0 (by decide), show 4999 = 4998 + 1 from rfl, mst_step _ _ _ 1 (by decide), show 4998 = 4997 + 1 from rfl, mst_step _ _ _ 2 (by decide), show 4997 = 4996 + 1 from rfl, mst_step _ _ _ 3 (by decide), show 4996 = 4995 + 1 from rfl, mst_step _ _ _ 4 (by decide), show 4995 = 4994 + 1 from rfl, mst_step _ _ _ 5 (by decide), show 4994 = 4993 + 1 from rfl, mst_step _ _ _ 6 (by decide), Int.zero_add]
  rfl
theorem c_status {σ : Mem} {w : Int} (hw : inR w) : X10_status σ w = if -1 ≤ w ∧ w ≤ 6 then (if w < 0 then some (sum7 (σ 62), σ) else some (σ 62 w.toNat, σ)) else some (-1000001, tel σ 0) := by
  unfold X10_status
  rw [within_if hw (iR0 (by decide) (by decide)) (iR0 (by decide) (by decide)), bd_some, wif1, inR_w hw, cst, tell_0, bd2_some]
  by_cases h : -1 ≤ w ∧ w ≤ 6
  · rw [if_pos h, if_pos h]
    by_cases h2 : w < 0
    · rw [if_pos h2, if_pos h2]
    · rw [if_neg h2, if_neg h2, ag_ok (by omega) (by omega) (by decide)]
  · rw [if_neg h, if_neg h]
theorem m_status {σ : Mem} {w : Int} (hw : inR w) : X11_status σ w = if -1 ≤ w ∧ w ≤ 6 then (if w < 0 then some (sum7 (σ 114), σ) else some (σ 114 w.toNat, σ)) else some (-1000001, fnd σ 0) := by
  unfold X11_status
  rw [inR_w hw, in_if hw (iR0 (by decide) (by decide)) (iR0 (by decide) (by decide)), bd_some, wif1, mst, finds_0, bd2_some]
  by_cases h : -1 ≤ w ∧ w ≤ 6
  · rw [if_pos h, if_pos h]
    by_cases h2 : w < 0
    · rw [if_pos h2, if_pos h2]
    · rw [if_neg h2, if_neg h2, ag_ok (by omega) (by omega) (by decide)]
  · rw [if_neg h, if_neg h]
/-! lay -/
theorem c_lay {σ : Mem} {k p b : Int} (hk : inR k) (hp : inR p) (hb : inR b) (h40 : ∀ p, p < 4 → 0 ≤ σ (9 + 3 * p) 2 ∧ σ (9 + 3 * p) 2 ≤ 40) (hn : 0 ≤ σ 4 3 ∧ σ 4 3 ≤ 30) : X10_lay σ k p b = if (0 ≤ k ∧ k ≤ 6) ∧ 0 ≤ p ∧ p ≤ 3 ∧ 0 ≤ b ∧ b < σ (9 + 3 * p.toNat) 2 then (if σ 4 3 < 30 then some (σ 4 3, st (st (st (st σ 5 (σ 4 3).toNat k) 6 (σ 4 3).toNat p) 7 (σ 4 3).toNat b) 4 3 (σ 4 3 + 1)) else some (-1000002, tel σ 1)) else some (-1000001, tel σ 0) := by
  unfold X10_lay X10_lay_B19
  rw [within_if hk (iR0 (by decide) (by decide)) (iR0 (by decide) (by decide)), bd_some, wif0, tell_0, bd2_some, isBar_if hp hb h40, bd_some, wif1]
  by_cases h1 : 0 ≤ k ∧ k ≤ 6
  · rw [if_pos h1]
    by_cases h2 : 0 ≤ p ∧ p ≤ 3 ∧ 0 ≤ b ∧ b < σ (9 + 3 * p.toNat) 2
    · rw [if_pos h2, if_pos ⟨h1, h2⟩]
      unfold X0_add
      rw [w32_id (x := σ 4 3) (by omega) (by omega), w32_id (x := 30) (by decide) (by decide)]
      by_cases h3 : σ 4 3 < 30
      · rw [if_pos h3, if_pos h3, ag_ok hn.1 (by omega) (by decide), lt_v, st_ne (σ := σ) (k := 4 + 1) (a := 4) (by decide), ag_ok hn.1 (by omega) (by decide), lt_v, st_ne (k := 4 + 2) (a := 4) (by decide), st_ne (σ := σ) (k := 4 + 1) (a := 4) (by decide), ag_ok hn.1 (by omega) (by decide), lt_v, lt_v, st_ne (k := 4 + 3) (a := 4) (by decide), st_ne (k := 4 + 2) (a := 4) (by decide), st_ne (σ := σ) (k := 4 + 1) (a := 4) (by decide), bd2_some, st_at, w32_id (by omega) (by omega), if_pos (by omega), show σ 4 3 + 1 - 1 = σ 4 3 by omega]
      · rw [if_neg h3, if_neg h3, bd2_some, if_neg (by decide), tell_1, bd2_some]
    · rw [if_neg h2, if_neg (fun q => h2 q.2)]
  · rw [if_neg h1, if_neg (fun q => h1 q.1)]
theorem m_lay {σ : Mem} {k p b : Int} (hk : inR k) (hp : inR p) (hb : inR b) (h40 : ∀ p, p < 4 → 0 ≤ σ 112 (9 + 165 * p) ∧ σ 112 (9 + 165 * p) ≤ 40) (hn : 0 ≤ σ 112 665 ∧ σ 112 665 ≤ 30) : X11_lay σ k p b = if (0 ≤ k ∧ k ≤ 6) ∧ 0 ≤ p ∧ p ≤ 3 ∧ 0 ≤ b ∧ b < σ 112 (9 + 165 * p.toNat) then (if σ 112 665 < 30 then some (σ 112 665, st (st (st (st σ 112 (666 + 3 * (σ 112 665).toNat) k) 112 (667 + 3 * (σ 112 665).toNat) p) 112 (668 + 3 * (σ 112 665).toNat) b) 112 665 (σ 112 665 + 1)) else some (-1000002, fnd σ 1)) else some (-1000001, fnd σ 0) := by
  unfold X11_lay X11_lay_B21
  rw [inR_w hk, in_if hk (iR0 (by decide) (by decide)) (iR0 (by decide) (by decide)), bd_some, wif0, finds_0, bd2_some, mBar_if hp hb h40, bd_some, wif1, ag_ok (i := 665) (by decide) (by decide) (by decide), show ((665 : Int).toNat) = 665 from rfl, lt_v]
  by_cases h1 : 0 ≤ k ∧ k ≤ 6
  · rw [if_pos h1]
    by_cases h2 : 0 ≤ p ∧ p ≤ 3 ∧ 0 ≤ b ∧ b < σ 112 (9 + 165 * p.toNat)
    · rw [if_pos h2, if_pos (c := (0 ≤ k ∧ k ≤ 6) ∧ 0 ≤ p ∧ p ≤ 3 ∧ 0 ≤ b ∧ b < σ 112 (9 + 165 * p.toNat)) ⟨h1, h2⟩, w32_id (x := σ 112 665) (by omega) (by omega), w32_id (x := 30) (by decide) (by decide)]
      by_cases h3 : σ 112 665 < 30
      · rw [if_pos (by omega), if_pos h3, ag_ok (by omega) (by omega) (by decide), lt_v, ag_ok (by omega) (by omega) (by decide), lt_v, ag_ok (by omega) (by omega) (by decide), lt_v, ag_ok (i := 665) (by decide) (by decide) (by decide), show ((665 : Int).toNat) = 665 from rfl, ag_ok (i := 665) (by decide) (by decide) (by decide), show ((665 : Int).toNat) = 665 from rfl, lt_v, show (666 + 3 * σ 112 665).toNat = 666 + 3 * (σ 112 665).toNat by omega, show (666 + 3 * σ 112 665 + 1).toNat = 667 + 3 * (σ 112 665).toNat by omega, show (666 + 3 * σ 112 665 + 2).toNat = 668 + 3 * (σ 112 665).toNat by omega]
        have e : (st (st (st σ 112 (666 + 3 * (σ 112 665).toNat) k) 112 (667 + 3 * (σ 112 665).toNat) p) 112 (668 + 3 * (σ 112 665).toNat) b) 112 665 = σ 112 665 := by
          rw [st_self, up_ne (by omega), st_self, up_ne (by omega), st_self, up_ne (by omega)]
        rw [e]
      · rw [if_neg (by omega), if_neg h3, finds_1, bd2_some]
    · rw [if_neg h2, if_neg (fun q => h2 q.2)]
  · rw [if_neg h1, if_neg (fun q => h1 q.1)]
