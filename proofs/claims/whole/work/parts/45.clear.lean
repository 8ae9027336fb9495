/-! clear -/
def rnc (σ : Mem) (k d : Nat) (i v : Int) (s : Nat) : Mem := fun a b => if a = k ∧ d ≤ b ∧ b < d + s ∧ σ k b = i then v else σ a b
theorem rnc_0 (σ : Mem) (k d : Nat) (i v : Int) : rnc σ k d i v 0 = σ := by
  funext a b
  simp only [rnc]
  rw [if_neg (by omega)]
theorem rnc_ne {σ : Mem} {k d s a : Nat} {i v : Int} (h : a ≠ k) : rnc σ k d i v s a = σ a := by
  funext b
  simp only [rnc]
  rw [if_neg (by omega)]
theorem rnc_out {σ : Mem} {k d s b : Nat} {i v : Int} (h : b < d ∨ d + s ≤ b) : rnc σ k d i v s k b = σ k b := by
  simp only [rnc]
  rw [if_neg (by omega)]
theorem rnc_in {σ : Mem} {k d s b : Nat} {i v : Int} (h : d ≤ b ∧ b < d + s) : rnc σ k d i v s k b = if σ k b = i then v else σ k b := by
  simp only [rnc]
  by_cases hc : σ k b = i
  · rw [if_pos ⟨trivial, h.1, h.2, hc⟩, if_pos hc]
  · rw [if_neg (fun q => hc q.2.2.2), if_neg hc]
theorem rnc_y {σ : Mem} {k d s : Nat} {i v : Int} (h : σ k (d + s) = i) : st (rnc σ k d i v s) k (d + s) v = rnc σ k d i v (s + 1) := by
  funext a b
  simp only [st, rnc]
  by_cases h1 : a = k ∧ b = d + s
  · rw [if_pos h1, if_pos ⟨h1.1, by omega, by omega, by rw [h1.2]; exact h⟩]
  · rw [if_neg h1]
    by_cases h2 : a = k ∧ d ≤ b ∧ b < d + s ∧ σ k b = i
    · rw [if_pos h2, if_pos (by omega)]
    · rw [if_neg h2, if_neg (by omega)]
theorem rnc_n {σ : Mem} {k d s : Nat} {i v : Int} (h : ¬ σ k (d + s) = i) : rnc σ k d i v s = rnc σ k d i v (s + 1) := by
  funext a b
  simp only [rnc]
  by_cases h2 : a = k ∧ d ≤ b ∧ b < d + s ∧ σ k b = i
  · rw [if_pos h2, if_pos (by omega)]
  · rw [if_neg h2]
    by_cases h3 : b = d + s
    · rw [if_neg (by rw [h3]; exact fun q => h q.2.2.2)]
    · rw [if_neg (by omega)]
theorem c_rn (σ : Mem) (i v : Int) (hi : inR i) (hs : ∀ b, b < 10 → inR (σ 8 b)) : ∀ (r s n : Nat), s + r = 10 → r < n → X0_renumberSpots_L2 n (rnc σ 8 0 i v s) 4 i v (s : Int) = some (rnc σ 8 0 i v 10) := by
  intro r
  induction r with
  | zero =>
    intro s n h1 h2
    obtain ⟨n, rfl⟩ : ∃ g, n = g + 1 := ⟨n - 1, by omega⟩
    show X0_renumberSpots_B2 _ _ _ _ _ _ = _
    unfold X0_renumberSpots_B2
    repeat (first | with_reducible refine (ag_ok (by omega) (by omega) (by decide)).trans ?_ | rewrite [lt_v] | rewrite [bd_some] | rewrite [bd2_some] | with_reducible refine (if_pos (by first | omega | (unfold w32; omega))).trans ?_ | with_reducible refine (if_neg (by first | omega | (unfold w32; omega))).trans ?_)
    rw [show s = 10 by omega]
  | succ r ih =>
    intro s n h1 h2
    obtain ⟨n, rfl⟩ : ∃ g, n = g + 1 := ⟨n - 1, by omega⟩
    show X0_renumberSpots_B2 _ _ _ _ _ _ = _
    have h3 := ih (s + 1) n (by omega) (by omega)
    have h4 : rnc σ 8 0 i v s (4 + 4) (s : Int).toNat = σ 8 s := by
      rw [Int.toNat_natCast]
      exact rnc_out (by omega)
    have h5 := hs s (by omega)
    obtain ⟨h6, h7⟩ := id h5
    obtain ⟨h8, h9⟩ := id hi
    unfold X0_renumberSpots_B2 X0_renumberSpots_B25
    by_cases hc : σ 8 s = i
    · repeat (first | with_reducible refine (ag_ok (by omega) (by omega) (by decide)).trans ?_ | rewrite [lt_v] | rewrite [bd_some] | rewrite [bd2_some] | with_reducible refine (if_pos (by first | omega | (unfold w32; omega))).trans ?_ | with_reducible refine (if_neg (by first | omega | (unfold w32; omega))).trans ?_)
      have e := rnc_y (σ := σ) (i := i) (k := 8) (d := 0) (s := s) (v := v) (by rw [Nat.zero_add]; exact hc)
      rw [Nat.zero_add] at e
      rw [Int.toNat_natCast]
      show X0_renumberSpots_L2 n (st (rnc σ 8 0 i v s) 8 s v) 4 i v _ = _
      rw [e]
      exact h3
    · repeat (first | with_reducible refine (ag_ok (by omega) (by omega) (by decide)).trans ?_ | rewrite [lt_v] | rewrite [bd_some] | rewrite [bd2_some] | with_reducible refine (if_pos (by first | omega | (unfold w32; omega))).trans ?_ | with_reducible refine (if_neg (by first | omega | (unfold w32; omega))).trans ?_)
      have e := rnc_n (σ := σ) (i := i) (k := 8) (d := 0) (s := s) (v := v) (by rw [Nat.zero_add]; exact hc)
      rw [e]
      exact h3
def vfl (fl : Nat) (to : Int) : Int := if fl = 0 then to else -1
theorem m_rn (σ : Mem) (rec : Mem → Int → Int → Int → Int → Option (Int × Mem)) (p to N i : Int) (fl : Nat) (hf : fl < 2) (hi : inR i) (hs : ∀ b, b < 10 → inR (σ 112 (756 + b))) : ∀ (r s n : Nat), s + r = 10 → r < n → X11_clear_L54 rec n (rnc σ 112 756 i (vfl fl to) s) p to N i (fl : Int) (s : Int) = if fl = 0 then X11_clear_L115 rec 5000 (rnc σ 112 756 i (vfl fl to) 10) p to N i 0 else rec (rnc σ 112 756 i (vfl fl to) 10) p to N (i + 1) := by
  intro r
  induction r with
  | zero =>
    intro s n h1 h2
    obtain ⟨n, rfl⟩ : ∃ g, n = g + 1 := ⟨n - 1, by omega⟩
    show X11_clear_B54 _ _ _ _ _ _ _ _ _ = _
    unfold X11_clear_B54 X11_clear_B153
    rw [show s = 10 by omega]
    by_cases hc : fl = 0
    · ((repeat (first | with_reducible refine (ag_ok (by omega) (by omega) (by decide)).trans ?_ | rewrite [lt_v] | rewrite [bd_some] | rewrite [bd2_some] | with_reducible refine (if_pos (by first | omega | (unfold w32; omega))).trans ?_ | with_reducible refine (if_neg (by first | omega | (unfold w32; omega))).trans ?_)); (repeat (first | with_reducible refine Eq.trans ?_ (if_pos (by first | omega | (unfold w32; omega))).symm | with_reducible refine Eq.trans ?_ (if_neg (by first | omega | (unfold w32; omega))).symm)); try rfl)
    · ((repeat (first | with_reducible refine (ag_ok (by omega) (by omega) (by decide)).trans ?_ | rewrite [lt_v] | rewrite [bd_some] | rewrite [bd2_some] | with_reducible refine (if_pos (by first | omega | (unfold w32; omega))).trans ?_ | with_reducible refine (if_neg (by first | omega | (unfold w32; omega))).trans ?_)); (repeat (first | with_reducible refine Eq.trans ?_ (if_pos (by first | omega | (unfold w32; omega))).symm | with_reducible refine Eq.trans ?_ (if_neg (by first | omega | (unfold w32; omega))).symm)); try rfl)
  | succ r ih =>
    intro s n h1 h2
    obtain ⟨n, rfl⟩ : ∃ g, n = g + 1 := ⟨n - 1, by omega⟩
    show X11_clear_B54 _ _ _ _ _ _ _ _ _ = _
    have h3 := ih (s + 1) n (by omega) (by omega)
    have h4 : rnc σ 112 756 i (vfl fl to) s 112 ((756 : Int) + s).toNat = σ 112 (756 + s) := by
      rw [show ((756 : Int) + s).toNat = 756 + s by omega]
      exact rnc_out (by omega)
    have h5 := hs s (by omega)
    obtain ⟨h6, h7⟩ := id h5
    obtain ⟨h8, h9⟩ := id hi
    unfold X11_clear_B54 X11_clear_B97 X11_clear_B98
    by_cases hc : σ 112 (756 + s) = i
    · have e := rnc_y (σ := σ) (k := 112) (d := 756) (s := s) (v := vfl fl to) hc
      by_cases hf0 : fl = 0
      · refine Eq.trans ?_ h3
        repeat (first | with_reducible refine (ag_ok (by omega) (by omega) (by decide)).trans ?_ | rewrite [lt_v] | rewrite [bd_some] | rewrite [bd2_some] | with_reducible refine (if_pos (by first | omega | (unfold w32; omega))).trans ?_ | with_reducible refine (if_neg (by first | omega | (unfold w32; omega))).trans ?_)
        rw [show ((756 : Int) + s).toNat = 756 + s by omega, ← e]
        subst hf0
        rfl
      · refine Eq.trans ?_ h3
        repeat (first | with_reducible refine (ag_ok (by omega) (by omega) (by decide)).trans ?_ | rewrite [lt_v] | rewrite [bd_some] | rewrite [bd2_some] | with_reducible refine (if_pos (by first | omega | (unfold w32; omega))).trans ?_ | with_reducible refine (if_neg (by first | omega | (unfold w32; omega))).trans ?_)
        rw [show ((756 : Int) + s).toNat = 756 + s by omega, ← e]
        unfold vfl
        rw [if_neg hf0]
        rfl
    · have e := rnc_n (σ := σ) (k := 112) (d := 756) (s := s) (v := vfl fl to) hc
      refine Eq.trans ?_ h3
      repeat (first | with_reducible refine (ag_ok (by omega) (by omega) (by decide)).trans ?_ | rewrite [lt_v] | rewrite [bd_some] | rewrite [bd2_some] | with_reducible refine (if_pos (by first | omega | (unfold w32; omega))).trans ?_ | with_reducible refine (if_neg (by first | omega | (unfold w32; omega))).trans ?_)
      rw [← e]
      rfl
theorem m_mv (σ : Mem) (rec : Mem → Int → Int → Int → Int → Option (Int × Mem)) (p N : Int) (i to : Nat) (hi : i < 30) (ht : to ≤ i) : ∀ (r q n : Nat), q + r = 3 → r < n → X11_clear_L115 rec n (cpy σ 112 (666 + 3 * i) 112 (666 + 3 * to) q) p to N i (q : Int) = rec (cpy σ 112 (666 + 3 * i) 112 (666 + 3 * to) 3) p ((to : Int) + 1) N ((i : Int) + 1) := by
  intro r
  induction r with
  | zero =>
    intro q n h1 h2
    obtain ⟨n, rfl⟩ : ∃ g, n = g + 1 := ⟨n - 1, by omega⟩
    show X11_clear_B115 _ _ _ _ _ _ _ _ = _
    unfold X11_clear_B115 X11_clear_B153
    rw [show q = 3 by omega]
    ((repeat (first | with_reducible refine (ag_ok (by omega) (by omega) (by decide)).trans ?_ | rewrite [lt_v] | rewrite [bd_some] | rewrite [bd2_some] | with_reducible refine (if_pos (by first | omega | (unfold w32; omega))).trans ?_ | with_reducible refine (if_neg (by first | omega | (unfold w32; omega))).trans ?_)); (repeat (first | with_reducible refine Eq.trans ?_ (if_pos (by first | omega | (unfold w32; omega))).symm | with_reducible refine Eq.trans ?_ (if_neg (by first | omega | (unfold w32; omega))).symm)); try rfl)
  | succ r ih =>
    intro q n h1 h2
    obtain ⟨n, rfl⟩ : ∃ g, n = g + 1 := ⟨n - 1, by omega⟩
    show X11_clear_B115 _ _ _ _ _ _ _ _ = _
    have h3 := ih (q + 1) n (by omega) (by omega)
    unfold X11_clear_B115
    repeat (first | with_reducible refine (ag_ok (by omega) (by omega) (by decide)).trans ?_ | rewrite [lt_v] | rewrite [bd_some] | rewrite [bd2_some] | rewrite [bdk (m_of (k := (i : Int)) (q := (q : Int)) ⟨by omega, by omega⟩ ⟨by omega, by omega⟩)] | with_reducible refine (if_pos (by first | omega | (unfold w32; omega))).trans ?_ | with_reducible refine (if_neg (by first | omega | (unfold w32; omega))).trans ?_)
    rw [Int.toNat_natCast, Int.toNat_natCast, show ((666 : Int) + 3 * to + q).toNat = 666 + 3 * to + q by omega, cpy_get (by omega), cpy_succ]
    exact h3
