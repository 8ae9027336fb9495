/-! groups are repeated -/
theorem st_same {σ : Mem} {k j : Nat} {v : Int} (h : σ k j = v) : st σ k j v = σ := by
  funext a b
  unfold st
  split
  · rename_i c
    rw [c.1, c.2, h]
  · rfl
theorem c_repOver {τ : Mem} {d t : Nat} {g : Int} (hd : τ 41 5 = d) (hd4 : d < 4) (ht : τ 48 d = t) (ht9 : t ≤ 9) (ho : τ 41 4 = 1) : ∀ (m i f : Nat), i + m = t ∨ (m = 0 ∧ t ≤ i ∧ i ≤ 10) → m < f → X9_takeClosing_L46 f τ g i = some (1, τ) := by
  intro m
  induction m with
  | zero =>
    intro i f h1 h2
    obtain ⟨f, rfl⟩ : ∃ x, f = x + 1 := ⟨f - 1, by omega⟩
    show X9_takeClosing_B46 _ _ _ _ = _
    unfold X9_takeClosing_B46
    rw [hd, ag_nat hd4 (by decide), ht, if_pos (by first | omega | (unfold w32; omega))]
  | succ m ih =>
    intro i f h1 h2
    obtain ⟨f, rfl⟩ : ∃ x, f = x + 1 := ⟨f - 1, by omega⟩
    have hr : X9_repeatLast τ g = some τ := by
      unfold X9_repeatLast
      rw [ho, if_pos (by decide), lt_v, st_same ho]
    show X9_takeClosing_B46 _ _ _ _ = _
    unfold X9_takeClosing_B46
    rw [hd, ag_nat hd4 (by decide), ht, if_neg (by first | omega | (unfold w32; omega)), bdk hr, lt_v]
    exact ih (i + 1) f (by omega) (by omega)
theorem c_rep {d t g : Nat} (hd4 : d < 4) (ht9 : t ≤ 9) : ∀ (m i f R : Nat) (τ : Mem), i + m = t ∨ (m = 0 ∧ t ≤ i ∧ i ≤ 10) → m < f → τ 41 5 = d → τ 48 d = t → τ 41 4 = 0 → τ 41 3 = R → R ≤ 40 → g ≤ R → ∃ τ', X9_takeClosing_L46 f τ g i = some (1, τ') ∧ (∀ q, q ≠ 41 → q ≠ 47 → τ' q = τ q) ∧ (∀ j, j ≠ 3 → j ≠ 4 → τ' 41 j = τ 41 j) ∧ ((τ' 41 4 = 0 ∧ R + m * g ≤ 40 ∧ τ' 41 3 = ((R + m * g : Nat) : Int) ∧ (∀ q, q < 4 * R → τ' 47 q = τ 47 q) ∧ ∀ q, 4 * R ≤ q → q < 4 * (R + m * g) → τ' 47 q = τ' 47 (q - 4 * g)) ∨ (τ' 41 4 = 1 ∧ 40 < R + m * g ∧ 0 ≤ τ' 41 3 ∧ τ' 41 3 ≤ 40)) := by
  intro m
  induction m with
  | zero =>
    intro i f R τ h1 h2 h3 h4 h5 h6 h7 h8
    obtain ⟨f, rfl⟩ : ∃ x, f = x + 1 := ⟨f - 1, by omega⟩
    refine ⟨τ, ?_, fun _ _ _ => rfl, fun _ _ _ => rfl, Or.inl ⟨h5, by rw [Nat.zero_mul]; exact h7, by rw [Nat.zero_mul]; exact h6, fun _ _ => rfl, fun q q1 q2 => by rw [Nat.zero_mul] at q2; omega⟩⟩
    show X9_takeClosing_B46 _ _ _ _ = _
    unfold X9_takeClosing_B46
    rw [h3, ag_nat hd4 (by decide), h4, if_pos (by first | omega | (unfold w32; omega))]
  | succ m ih =>
    intro i f R τ h1 h2 h3 h4 h5 h6 h7 h8
    obtain ⟨f, rfl⟩ : ∃ x, f = x + 1 := ⟨f - 1, by omega⟩
    have hm : (m + 1) * g = m * g + g := Nat.succ_mul m g
    have e : ∀ τ1, X9_repeatLast τ g = some τ1 → X9_takeClosing_L46 (f + 1) τ g i = X9_takeClosing_L46 f τ1 g ((i + 1 : Nat) : Int) := fun τ1 hr => by
      show X9_takeClosing_B46 _ _ _ _ = _
      unfold X9_takeClosing_B46
      rw [h3, ag_nat hd4 (by decide), h4, if_neg (by first | omega | (unfold w32; omega)), bdk hr, lt_v]
      rfl
    by_cases hfit : R + g ≤ 40
    · have k47 : cpy τ 47 (4 * (R - g)) 47 (4 * R) (4 * g) 41 = τ 41 := cpy_ne (by omega)
      have hr : X9_repeatLast τ g = some (st (cpy τ 47 (4 * (R - g)) 47 (4 * R) (4 * g)) 41 3 ((R : Int) + g)) := by
        unfold X9_repeatLast
        rw [h5, if_neg (by decide), h6, if_pos (by first | omega | (unfold w32; omega))]
        have hac : ∀ K : Option Mem, ac 160 160 (((R : Int) - g) * 4) ((R : Int) * 4) ((g : Int) * 4) K = K := fun K => by
          unfold ac
          rw [w32_id (by omega) (by omega), w32_id (by omega) (by omega), w32_id (by omega) (by omega), if_pos ⟨by omega, by omega, by omega, by omega, by omega⟩]
        rw [hac, lt_v, w32_id (by omega) (by omega), w32_id (by omega) (by omega), w32_id (by omega) (by omega), show (((R : Int) - g) * 4).toNat = 4 * (R - g) by omega, show ((R : Int) * 4).toNat = 4 * R by omega, show ((g : Int) * 4).toNat = 4 * g by omega, k47, h6, lt_v]
      have u41 : st (cpy τ 47 (4 * (R - g)) 47 (4 * R) (4 * g)) 41 3 ((R : Int) + g) 41 = up (τ 41) 3 ((R : Int) + g) := by rw [st_self, k47]
      have uq : ∀ q, q ≠ 41 → q ≠ 47 → st (cpy τ 47 (4 * (R - g)) 47 (4 * R) (4 * g)) 41 3 ((R : Int) + g) q = τ q := fun q q1 q2 => by rw [st_ne q1, cpy_ne q2]
      have u47 : st (cpy τ 47 (4 * (R - g)) 47 (4 * R) (4 * g)) 41 3 ((R : Int) + g) 47 = cpy τ 47 (4 * (R - g)) 47 (4 * R) (4 * g) 47 := st_ne (by omega)
      obtain ⟨τ', t1, t2, t3, t4⟩ := ih (i + 1) f (R + g) (st (cpy τ 47 (4 * (R - g)) 47 (4 * R) (4 * g)) 41 3 ((R : Int) + g)) (by omega) (by omega) (by rw [u41, up_ne (by omega)]; exact h3) (by rw [uq 48 (by omega) (by omega)]; exact h4) (by rw [u41, up_ne (by omega)]; exact h5) (by rw [u41, up_at]; rfl) hfit (by omega)
      refine ⟨τ', (e _ hr).trans t1, fun q q1 q2 => by rw [t2 q q1 q2, uq q q1 q2], fun j j1 j2 => by rw [t3 j j1 j2, u41, up_ne j1], ?_⟩
      rcases t4 with ⟨v1, v2, v3, v4, v5⟩ | ⟨v1, v2, v3⟩
      · refine Or.inl ⟨v1, by omega, by rw [v3, hm]; omega, fun q hq => by rw [v4 q (by omega), u47, cpy_o (by omega)], fun q q1 q2 => ?_⟩
        by_cases hq : q < 4 * (R + g)
        · rw [v4 q hq, v4 (q - 4 * g) (by omega), u47, cpy_at q1 (by omega), cpy_o (by omega), show 4 * (R - g) + (q - 4 * R) = q - 4 * g by omega]
        · exact v5 q (by omega) (by omega)
      · exact Or.inr ⟨v1, by omega, v3⟩
    · have hr : X9_repeatLast τ g = some (st τ 41 4 1) := by
        unfold X9_repeatLast
        rw [h5, if_neg (by decide), h6, if_neg (by first | omega | (unfold w32; omega)), lt_v]
      have hov := c_repOver (τ := st τ 41 4 1) (d := d) (t := t) (g := (g : Int)) (by rw [st_self, up_ne (by omega)]; exact h3) hd4 (by rw [st_ne (by omega)]; exact h4) ht9 (st_at _ _ _ _) m (i + 1) f (by omega) (by omega)
      exact ⟨st τ 41 4 1, (e _ hr).trans hov, fun q q1 _ => st_ne q1, fun j _ j2 => by rw [st_self, up_ne j2], Or.inr ⟨st_at _ _ _ _, by omega, by rw [st_self, up_ne (by omega), h6]; omega, by rw [st_self, up_ne (by omega), h6]; omega⟩⟩
