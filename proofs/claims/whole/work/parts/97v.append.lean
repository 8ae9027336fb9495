/-! bars are appended -/
def apr (r : Nat → Int) (p n0 R : Nat) (f : Nat → Int) : Nat → Int := up (fun j => if 10 + 165 * p + 4 * n0 ≤ j ∧ j < 10 + 165 * p + 4 * n0 + 4 * R then f (j - (10 + 165 * p + 4 * n0)) else r j) (9 + 165 * p) ((n0 : Int) + R)
theorem apr_o {r : Nat → Int} {p n0 R : Nat} {f : Nat → Int} {j : Nat} (h1 : j ≠ 9 + 165 * p) (h2 : j < 10 + 165 * p + 4 * n0 ∨ 10 + 165 * p + 4 * n0 + 4 * R ≤ j) : apr r p n0 R f j = r j := by
  unfold apr
  rw [up_ne h1, if_neg (by omega)]
theorem apr_i {r : Nat → Int} {p n0 R : Nat} {f : Nat → Int} {i : Nat} (h : i < 4 * R) : apr r p n0 R f (10 + 165 * p + 4 * n0 + i) = f i := by
  unfold apr
  rw [up_ne (by omega), if_pos (by omega), show 10 + 165 * p + 4 * n0 + i - (10 + 165 * p + 4 * n0) = i by omega]
theorem apr_n {r : Nat → Int} {p n0 R : Nat} {f : Nat → Int} : apr r p n0 R f (9 + 165 * p) = (n0 : Int) + R := up_at _ _ _
theorem apr_wf {r : Nat → Int} {p n0 R : Nat} {f : Nat → Int} (hw : WF r) (hp : p < 4) (hn : r (9 + 165 * p) = n0) (h40 : n0 + R ≤ 40) (hf : ∀ b, b < R → okRow f b) : WF (apr r p n0 R f) := by
  obtain ⟨w1, w2, w3, w4, w5, w6⟩ := hw
  have lo : ∀ j, j < 5 → apr r p n0 R f j = r j := fun j hj => apr_o (by omega) (by omega)
  have hi : ∀ j, 665 ≤ j → apr r p n0 R f j = r j := fun j hj => apr_o (by omega) (by omega)
  have tr : ∀ q x, q < 4 → 5 ≤ x → x < 9 → apr r p n0 R f (x + 165 * q) = r (x + 165 * q) := fun q x hq x1 x2 => by
    rcases Nat.lt_trichotomy q p with c | c | c
    · exact apr_o (by omega) (by omega)
    · subst c; exact apr_o (by omega) (by omega)
    · exact apr_o (by omega) (by omega)
  have br : ∀ q, q < 4 → apr r p n0 R f (9 + 165 * q) = if q = p then (n0 : Int) + R else r (9 + 165 * q) := fun q hq => by
    by_cases c : q = p
    · rw [if_pos c, c, apr_n]
    · rw [if_neg c]
      rcases Nat.lt_trichotomy q p with d | d | d
      · exact apr_o (by omega) (by omega)
      · exact absurd d c
      · exact apr_o (by omega) (by omega)
  have ge : ∀ q, q < 4 → r (9 + 165 * q) ≤ apr r p n0 R f (9 + 165 * q) ∧ apr r p n0 R f (9 + 165 * q) ≤ 40 := fun q hq => by
    have := (w2 q hq).2.2.2.2
    rw [br q hq]
    split
    · rename_i c
      rw [c, hn]; omega
    · omega
  have fo : ∀ q j, q < 4 → q ≠ p → j < 160 → apr r p n0 R f (10 + 165 * q + j) = r (10 + 165 * q + j) := fun q j hq hqp hj => by
    rcases Nat.lt_trichotomy q p with d | d | d
    · exact apr_o (by omega) (by omega)
    · exact absurd d hqp
    · exact apr_o (by omega) (by omega)
  refine ⟨by rw [lo _ (by omega), lo _ (by omega), lo _ (by omega), lo _ (by omega), lo _ (by omega)]; exact w1, fun q hq => ?_, fun q hq b hb => ?_, by rw [hi _ (by omega)]; exact w4, fun k hk => ?_, fun s hs => by rw [hi _ (by omega), hi _ (by omega)]; exact w6 s hs⟩
  · obtain ⟨a1, a2, a3, a4, a5⟩ := w2 q hq
    have g := ge q hq
    rw [tr q 5 hq (by omega) (by omega), tr q 6 hq (by omega) (by omega), tr q 7 hq (by omega) (by omega), tr q 8 hq (by omega) (by omega)]
    exact ⟨a1, a2, a3, a4, by omega, g.2⟩
  · have g := ge q hq
    rw [br q hq] at hb
    by_cases c : q = p
    · rw [if_pos c] at hb
      rw [c]
      by_cases d : b < n0
      · have := w3 p hp b (by rw [hn]; omega)
        rw [apr_o (by omega) (by omega), apr_o (by omega) (by omega), apr_o (by omega) (by omega), apr_o (by omega) (by omega)]
        exact this
      · obtain ⟨x, rfl⟩ : ∃ x, b = n0 + x := ⟨b - n0, by omega⟩
        have := hf x (by omega)
        rw [show 10 + 165 * p + 4 * (n0 + x) = 10 + 165 * p + 4 * n0 + 4 * x by omega, show 11 + 165 * p + 4 * (n0 + x) = 10 + 165 * p + 4 * n0 + (4 * x + 1) by omega, show 12 + 165 * p + 4 * (n0 + x) = 10 + 165 * p + 4 * n0 + (4 * x + 2) by omega, show 13 + 165 * p + 4 * (n0 + x) = 10 + 165 * p + 4 * n0 + (4 * x + 3) by omega, apr_i (by omega), apr_i (by omega), apr_i (by omega), apr_i (by omega)]
        exact this
    · rw [if_neg c] at hb
      have := w3 q hq b hb
      have h40q := (w2 q hq).2.2.2.2
      rw [show 11 + 165 * q + 4 * b = 10 + 165 * q + (4 * b + 1) by omega, show 12 + 165 * q + 4 * b = 10 + 165 * q + (4 * b + 2) by omega, show 13 + 165 * q + 4 * b = 10 + 165 * q + (4 * b + 3) by omega] at this ⊢
      rw [fo q (4 * b) hq c (by omega), fo q (4 * b + 1) hq c (by omega), fo q (4 * b + 2) hq c (by omega), fo q (4 * b + 3) hq c (by omega)]
      exact this
  · rw [hi _ (by omega)] at hk
    obtain ⟨b1, b2, b3⟩ := w5 k hk
    rw [hi _ (by omega), hi _ (by omega), hi _ (by omega)]
    have g := ge (r (667 + 3 * k)).toNat (by omega)
    exact ⟨b1, b2, by omega, by omega⟩
