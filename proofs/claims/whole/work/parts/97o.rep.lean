/-! groups are repeated: the reference -/
theorem m_rep4 {recT : Mem → Option Mem} {rec : Mem → Int → Int → Int → Int → Option Mem} {l1 l3 : Int} {b0 k R : Nat} (hR : R < 64) (hk : b0 + k < R) : ∀ (m i f : Nat) (ρ : Mem), i + m = 4 → m < f → ρ 111 13 = R → ∃ ρ', X11_readTimes_L141 recT rec f ρ l1 b0 l3 k i = rec (st ρ' 111 13 ((R : Int) + 1)) l1 b0 l3 ((k : Int) + 1) ∧ (∀ q, q ≠ 116 → ρ' q = ρ q) ∧ (∀ q, q < 4 * R + i ∨ 4 * R + 4 ≤ q → ρ' 116 q = ρ 116 q) ∧ ∀ j, i ≤ j → j < 4 → ρ' 116 (4 * R + j) = ρ 116 (4 * (b0 + k) + j) := by
  intro m
  induction m with
  | zero =>
    intro i f ρ h1 h2 h3
    obtain ⟨f, rfl⟩ : ∃ x, f = x + 1 := ⟨f - 1, by omega⟩
    refine ⟨ρ, ?_, fun _ _ => rfl, fun _ _ => rfl, fun j j1 j2 => by omega⟩
    show X11_readTimes_B141 _ _ _ _ _ _ _ _ _ = _
    unfold X11_readTimes_B141
    rw [if_pos (by first | omega | (unfold w32; omega)), h3, lt_v, lt_v]
  | succ m ih =>
    intro i f ρ h1 h2 h3
    obtain ⟨f, rfl⟩ : ∃ x, f = x + 1 := ⟨f - 1, by omega⟩
    have e116 : st ρ 116 (4 * R + i) (ρ 116 (4 * (b0 + k) + i)) 116 = up (ρ 116) (4 * R + i) (ρ 116 (4 * (b0 + k) + i)) := st_self _ _ _ _
    obtain ⟨ρ', t1, t2, t3, t4⟩ := ih (i + 1) f (st ρ 116 (4 * R + i) (ρ 116 (4 * (b0 + k) + i))) (by omega) (by omega) (by rw [st_ne (by omega)]; exact h3)
    refine ⟨ρ', ?_, fun q hq => by rw [t2 q hq, st_ne hq], fun q hq => by rw [t3 q (by omega), e116, up_ne (by omega)], fun j j1 j2 => ?_⟩
    · show X11_readTimes_B141 _ _ _ _ _ _ _ _ _ = _
      unfold X11_readTimes_B141
      rw [if_neg (by first | omega | (unfold w32; omega)), h3, ag_ok (by omega) (by omega) (by decide), ag_ok (by omega) (by omega) (by decide), show (4 * ((b0 : Int) + k) + i).toNat = 4 * (b0 + k) + i by omega, show (4 * (R : Int) + i).toNat = 4 * R + i by omega, lt_v, lt_v]
      exact t1
    · by_cases hj : j = i
      · rw [hj, t3 (4 * R + i) (by omega), e116, up_at]
      · rw [t4 j (by omega) j2, e116, up_ne (by omega)]
theorem m_rep {recT : Mem → Option Mem} {b0 many M : Nat} {t : Int} (hM : (t - 1) * (many : Int) = (M : Int)) (hM2 : M ≤ 1000) : ∀ (m k f : Nat) (ρ : Mem), k + m = M → m < f → ρ 111 13 = ((b0 + many + k : Nat) : Int) → b0 + many + k ≤ 64 → ρ 111 11 = 0 → ∃ (ρ' : Mem) (R' : Nat), X11_readTimes_L111 recT f ρ t b0 many k = some ρ' ∧ ρ' 111 13 = R' ∧ (R' = b0 + many + M ∨ (R' = 64 ∧ 64 < b0 + many + M)) ∧ R' ≤ 64 ∧ b0 + many + k ≤ R' ∧ (∀ q, q ≠ 111 → q ≠ 116 → ρ' q = ρ q) ∧ (∀ j, j ≠ 13 → ρ' 111 j = ρ 111 j) ∧ (∀ q, q < 4 * (b0 + many + k) → ρ' 116 q = ρ 116 q) ∧ ∀ q, 4 * (b0 + many + k) ≤ q → q < 4 * R' → ρ' 116 q = ρ' 116 (q - 4 * many) := by
  intro m
  induction m with
  | zero =>
    intro k f ρ h1 h2 h3 h4 h5
    obtain ⟨f, rfl⟩ : ∃ x, f = x + 1 := ⟨f - 1, by omega⟩
    refine ⟨ρ, b0 + many + k, ?_, h3, Or.inl (by omega), h4, Nat.le_refl _, fun _ _ _ => rfl, fun _ _ => rfl, fun _ _ => rfl, fun q q1 q2 => by omega⟩
    show X11_readTimes_B111 _ _ _ _ _ _ _ = _
    unfold X11_readTimes_B111
    rw [hM, if_pos (by first | omega | (unfold w32; omega))]
  | succ m ih =>
    intro k f ρ h1 h2 h3 h4 h5
    obtain ⟨f, rfl⟩ : ∃ x, f = x + 1 := ⟨f - 1, by omega⟩
    have hmany : many ≠ 0 := fun c => by
      rw [c] at hM
      have : (t - 1) * ((0 : Nat) : Int) = 0 := Int.mul_zero _
      rw [this] at hM
      omega
    by_cases h64 : b0 + many + k = 64
    · refine ⟨ρ, 64, ?_, by rw [h3, h64], Or.inr ⟨rfl, by omega⟩, Nat.le_refl _, by omega, fun _ _ _ => rfl, fun _ _ => rfl, fun _ _ => rfl, fun q q1 q2 => by omega⟩
      show X11_readTimes_B111 _ _ _ _ _ _ _ = _
      unfold X11_readTimes_B111
      rw [hM, if_neg (by first | omega | (unfold w32; omega)), h3, if_pos (by first | omega | (unfold w32; omega))]
    · obtain ⟨ρ1, s1, s2, s3, s4⟩ := m_rep4 (recT := recT) (rec := X11_readTimes_L111 recT f) (l1 := t) (l3 := (many : Int)) (b0 := b0) (k := k) (R := b0 + many + k) (by omega) (by omega) 4 0 5000 ρ (by omega) (by omega) h3
      have e111 : st ρ1 111 13 (((b0 + many + k : Nat) : Int) + 1) 111 = up (ρ 111) 13 (((b0 + many + k : Nat) : Int) + 1) := by rw [st_self, s2 111 (by omega)]
      obtain ⟨ρ', R', t1, t2, t3, t4, t5, t6, t7, t8, t9⟩ := ih (k + 1) f (st ρ1 111 13 (((b0 + many + k : Nat) : Int) + 1)) (by omega) (by omega) (by rw [e111, up_at]; omega) (by omega) (by rw [e111, up_ne (by omega)]; exact h5)
      refine ⟨ρ', R', ?_, t2, t3, t4, by omega, fun q q1 q2 => by rw [t6 q q1 q2, st_ne q1, s2 q q2], fun j hj => by rw [t7 j hj, e111, up_ne hj], fun q hq => by rw [t8 q (by omega), st_ne (by omega), s3 q (by omega)], fun q q1 q2 => ?_⟩
      · show X11_readTimes_B111 _ _ _ _ _ _ _ = _
        unfold X11_readTimes_B111
        rw [hM, if_neg (by first | omega | (unfold w32; omega)), h3, if_neg (by first | omega | (unfold w32; omega)), h5, if_pos (by decide)]
        exact s1.trans t1
      · by_cases hq : q < 4 * (b0 + many + (k + 1))
        · rw [t8 q hq, t8 (q - 4 * many) (by omega), st_ne (by omega)]
          obtain ⟨j, rfl⟩ : ∃ j, q = 4 * (b0 + many + k) + j := ⟨q - 4 * (b0 + many + k), by omega⟩
          rw [s4 j (by omega) (by omega), s3 (4 * (b0 + many + k) + j - 4 * many) (by omega), show 4 * (b0 + many + k) + j - 4 * many = 4 * (b0 + k) + j by omega]
        · exact t9 q (by omega) q2
/-- rows that repeat alike are alike -/
theorem per_eq {f g : Nat → Int} {a p N : Nat} (hp : p ≤ a) (hp0 : a < N → 0 < p) (h0 : ∀ q, q < a → f q = g q) (hf : ∀ q, a ≤ q → q < N → f q = f (q - p)) (hg : ∀ q, a ≤ q → q < N → g q = g (q - p)) : ∀ q, q < N → f q = g q := by
  intro q
  induction q using Nat.strongRecOn with
  | ind q ih =>
    intro hq
    by_cases c : q < a
    · exact h0 q c
    · rw [hf q (by omega) hq, hg q (by omega) hq]
      have := hp0 (by omega)
      exact ih (q - p) (by omega) (by omega)
