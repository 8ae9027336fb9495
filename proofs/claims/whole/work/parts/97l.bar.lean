/-! one bar on both sides -/
def okRow (f : Nat → Int) (b : Nat) : Prop := (1 ≤ f (4 * b) ∧ f (4 * b) ≤ 60) ∧ (0 ≤ f (4 * b + 1) ∧ f (4 * b + 1) ≤ 2) ∧ (1 ≤ f (4 * b + 2) ∧ f (4 * b + 2) ≤ 12) ∧ (0 ≤ f (4 * b + 3) ∧ f (4 * b + 3) ≤ 7)
def RW (τ ρ : Mem) : Prop := (τ 41 4 = 0 ∧ ∃ R : Nat, R ≤ 40 ∧ τ 41 3 = R ∧ ρ 111 13 = R ∧ (∀ i, i < 4 * R → τ 47 i = ρ 116 i) ∧ ∀ b, b < R → okRow (ρ 116) b) ∨ (τ 41 4 = 1 ∧ (40 < ρ 111 13 ∧ ρ 111 13 ≤ 64) ∧ 0 ≤ τ 41 3 ∧ τ 41 3 ≤ 40)
def PR (B : Nat → Int) (n T : Nat) (τ ρ : Mem) (k d : Nat) : Prop := τ 41 1 = k ∧ k ≤ T ∧ τ 41 5 = d ∧ ρ 111 10 = d ∧ ρ 111 11 = 0 ∧ TK B n T τ ∧ rbR ρ B n ∧ RT B n ρ k ∧ RW τ ρ
def FR (τ τ' ρ ρ' : Mem) : Prop := (∀ q, q ≠ 41 → q ≠ 47 → q ≠ 48 → q ≠ 49 → τ' q = τ q) ∧ (∀ q, q ≠ 111 → q ≠ 116 → ρ' q = ρ q) ∧ ∀ j, j < 6 ∨ j = 12 ∨ 13 < j → ρ' 111 j = ρ 111 j
theorem RW.read {τ ρ : Mem} (h : RW τ ρ) : 0 ≤ ρ 111 13 ∧ ρ 111 13 ≤ 64 := by
  rcases h with ⟨_, R, h1, h2, h3, _⟩ | ⟨_, h1, _⟩ <;> omega
theorem c_addBar {τ : Mem} {R : Nat} (hR : τ 41 3 = R) (hR2 : R < 40) (a b c d : Int) : ∃ τ', X9_addBar τ a b c d = some τ' ∧ (∀ q, q ≠ 41 → q ≠ 47 → τ' q = τ q) ∧ (∀ j, j ≠ 3 → τ' 41 j = τ 41 j) ∧ τ' 41 3 = (R : Int) + 1 ∧ τ' 47 = up (up (up (up (τ 47) (4 * R) a) (4 * R + 1) b) (4 * R + 2) c) (4 * R + 3) d := by
  have e1 : ∀ (υ : Mem) (j : Nat) (v : Int), st υ 47 j v 41 = υ 41 := fun υ j v => st_ne (by omega)
  refine ⟨st (st (st (st (st τ 47 (4 * R) a) 47 (4 * R + 1) b) 47 (4 * R + 2) c) 47 (4 * R + 3) d) 41 3 ((R : Int) + 1), ?_, fun q q1 q2 => by rw [st_ne q1, st_ne q2, st_ne q2, st_ne q2, st_ne q2], fun j hj => by rw [st_self, up_ne hj, e1, e1, e1, e1], st_at _ _ _ _, by rw [st_ne (by omega), st_self, st_self, st_self, st_self]⟩
  unfold X9_addBar
  rw [hR, if_pos (by first | omega | (unfold w32; omega)), lt_v, ag_ok (by omega) (by omega) (by decide), lt_v, ag_ok (by omega) (by omega) (by decide), lt_v, ag_ok (by omega) (by omega) (by decide), lt_v, ag_ok (by omega) (by omega) (by decide), lt_v, show ((R : Int) * 4 + 0).toNat = 4 * R by omega, show ((R : Int) * 4 + 1).toNat = 4 * R + 1 by omega, show ((R : Int) * 4 + 2).toNat = 4 * R + 2 by omega, show ((R : Int) * 4 + 3).toNat = 4 * R + 3 by omega]
  rw [show st (st (st (st τ 47 (4 * R) a) 47 (4 * R + 1) b) 47 (4 * R + 2) c) 47 (4 * R + 3) d 41 3 = R by rw [e1, e1, e1, e1]; exact hR, lt_v]
/-- the end of a bar: rows are still alike -/
theorem bar_end {τ ρ : Mem} (h : RW τ ρ) {τ2 ρ2 : Mem} {idx : Nat} (hidx : (idx : Int) = 4 * (if 64 ≤ ρ 111 13 then 63 else ρ 111 13)) {x c bt mk : Int} (hx : 1 ≤ x ∧ x ≤ 60) (hc : 0 ≤ c ∧ c ≤ 2) (hbt : 1 ≤ bt ∧ bt ≤ 12) (hmk : 0 ≤ mk ∧ mk ≤ 7) (t1 : ∀ j, j ≠ 1 → τ2 41 j = τ 41 j) (t2 : τ2 47 = τ 47) (r1 : ρ2 111 13 = ρ 111 13) (r2 : ∀ j, j < idx ∨ idx + 3 < j → ρ2 116 j = ρ 116 j) (v0 : ρ2 116 idx = x) (v1 : ρ2 116 (idx + 1) = c) (v2 : ρ2 116 (idx + 2) = bt) (v3 : ρ2 116 (idx + 3) = mk) : ∃ τ3, X9_addBar τ2 x c bt mk = some τ3 ∧ (∀ q, q ≠ 41 → q ≠ 47 → τ3 q = τ2 q) ∧ (∀ j, j ≠ 3 → j ≠ 4 → τ3 41 j = τ2 41 j) ∧ RW τ3 (fnR ρ2) ∧ (τ 41 4 = 1 → τ3 41 4 = 1) ∧ ρ 111 13 ≤ fnR ρ2 111 13 := by
  have f13 : fnR ρ2 111 13 = if 64 ≤ ρ 111 13 then 64 else ρ 111 13 + 1 := by unfold fnR; rw [st_at, r1]
  have f116 : fnR ρ2 116 = ρ2 116 := st_ne (by omega)
  have full : ∀ R : Nat, τ2 41 3 = R → R ≤ 40 → ¬ R < 40 → X9_addBar τ2 x c bt mk = some (st τ2 41 4 1) := fun R h1 h2 h3 => by
    unfold X9_addBar
    rw [h1, if_neg (by first | omega | (unfold w32; omega)), lt_v]
  have hrd := h.read
  have hge : ρ 111 13 ≤ fnR ρ2 111 13 := by rw [f13]; split <;> omega
  rcases h with ⟨o0, R, h1, h2, h3, h4, h5⟩ | ⟨o1, h1, h2⟩
  · have hb : τ2 41 3 = R := by rw [t1 3 (by omega)]; exact h2
    have hi : idx = 4 * R := by rw [h3, if_neg (by omega)] at hidx; omega
    by_cases hR : R < 40
    · obtain ⟨τ3, s1, s2, s3, s4, s5⟩ := c_addBar hb hR x c bt mk
      refine ⟨τ3, s1, s2, fun j j1 _ => s3 j j1, Or.inl ⟨by rw [s3 4 (by omega), t1 4 (by omega)]; exact o0, R + 1, by omega, by rw [s4]; rfl, by rw [f13, h3, if_neg (by omega)]; rfl, fun i hiR => ?_, fun b hbR => ?_⟩, fun q => by omega, hge⟩
      · rw [f116, s5, t2]
        rcases (by omega : i < 4 * R ∨ i = 4 * R ∨ i = 4 * R + 1 ∨ i = 4 * R + 2 ∨ i = 4 * R + 3) with e | e | e | e | e
        · rw [up_ne (by omega), up_ne (by omega), up_ne (by omega), up_ne (by omega), h4 i e, r2 i (by omega)]
        · rw [e, up_ne (by omega), up_ne (by omega), up_ne (by omega), up_at, ← hi, v0]
        · rw [e, up_ne (by omega), up_ne (by omega), up_at, ← hi, v1]
        · rw [e, up_ne (by omega), up_at, ← hi, v2]
        · rw [e, up_at, ← hi, v3]
      · rw [f116]
        by_cases hbe : b = R
        · unfold okRow
          rw [hbe, ← hi, v0, v1, v2, v3]
          exact ⟨hx, hc, hbt, hmk⟩
        · have := h5 b (by omega)
          unfold okRow at this ⊢
          rw [r2 _ (by omega), r2 _ (by omega), r2 _ (by omega), r2 _ (by omega)]
          exact this
    · refine ⟨st τ2 41 4 1, full R hb h1 hR, fun q q1 _ => st_ne q1, fun j j1 j2 => by rw [st_self, up_ne j2], Or.inr ⟨st_at _ _ _ _, by rw [f13, h3, if_neg (by omega)]; omega, by rw [st_self, up_ne (by omega), hb]; omega, by rw [st_self, up_ne (by omega), hb]; omega⟩, fun q => st_at _ _ _ _, hge⟩
  · have hb : τ2 41 3 = τ 41 3 := t1 3 (by omega)
    have h41 : τ2 41 4 = 1 := by rw [t1 4 (by omega)]; exact o1
    have f13' : 40 < fnR ρ2 111 13 ∧ fnR ρ2 111 13 ≤ 64 := by rw [f13]; split <;> omega
    obtain ⟨R, hR⟩ : ∃ R : Nat, τ2 41 3 = R := ⟨(τ2 41 3).toNat, by omega⟩
    by_cases hR4 : R < 40
    · obtain ⟨τ3, s1, s2, s3, s4, s5⟩ := c_addBar hR hR4 x c bt mk
      exact ⟨τ3, s1, s2, fun j j1 _ => s3 j j1, Or.inr ⟨by rw [s3 4 (by omega)]; exact h41, f13', by rw [s4]; omega, by rw [s4]; omega⟩, fun _ => by rw [s3 4 (by omega)]; exact h41, hge⟩
    · exact ⟨st τ2 41 4 1, full R hR (by omega) hR4, fun q q1 _ => st_ne q1, fun j j1 j2 => by rw [st_self, up_ne j2], Or.inr ⟨st_at _ _ _ _, f13', by rw [st_self, up_ne (by omega)]; omega, by rw [st_self, up_ne (by omega)]; omega⟩, fun q => st_at _ _ _ _, hge⟩
