/-! bars are appended: both sides -/
theorem m_appL {p n0 R : Nat} {ρ1 : Mem} (hp : p < 4) (h40 : n0 + R ≤ 40) (h13 : ρ1 111 13 = R) : ∀ (m i f : Nat) (ρ : Mem), i + m = 4 * R → m < f → (∀ q, q ≠ 112 → ρ q = ρ1 q) → (∀ j, ρ 112 j = if 10 + 165 * p + 4 * n0 ≤ j ∧ j < 10 + 165 * p + 4 * n0 + i then ρ1 116 (j - (10 + 165 * p + 4 * n0)) else ρ1 112 j) → ∃ ρ', X11_read_L103 f ρ p n0 i = some ((n0 : Int) + R, ρ') ∧ (∀ q, q ≠ 112 → ρ' q = ρ1 q) ∧ ρ' 112 = apr (ρ1 112) p n0 R (ρ1 116) := by
  intro m
  induction m with
  | zero =>
    intro i f ρ h1 h2 h3 h4
    obtain ⟨f, rfl⟩ : ∃ x, f = x + 1 := ⟨f - 1, by omega⟩
    have e13 : ρ 111 13 = R := by rw [h3 111 (by omega)]; exact h13
    refine ⟨st ρ 112 (9 + 165 * p) ((n0 : Int) + R), ?_, fun q hq => by rw [st_ne hq, h3 q hq], ?_⟩
    · show X11_read_B103 _ _ _ _ _ = _
      unfold X11_read_B103 X11_part
      rw [e13, if_pos (by first | omega | (unfold w32; omega)), bd_some, ag_ok (by omega) (by omega) (by decide), show ((5 : Int) + 165 * p + 4).toNat = 9 + 165 * p by omega, lt_v]
      rw [show st ρ 112 (9 + 165 * p) ((n0 : Int) + R) 111 13 = R by rw [st_ne (by omega)]; exact e13]
    · rw [st_self]
      unfold apr
      congr 1
      funext j
      rw [h4 j, show i = 4 * R by omega]
  | succ m ih =>
    intro i f ρ h1 h2 h3 h4
    obtain ⟨f, rfl⟩ : ∃ x, f = x + 1 := ⟨f - 1, by omega⟩
    have e13 : ρ 111 13 = R := by rw [h3 111 (by omega)]; exact h13
    have e116 : ρ 116 = ρ1 116 := h3 116 (by omega)
    obtain ⟨ρ', t1, t2⟩ := ih (i + 1) f (st ρ 112 (10 + 165 * p + 4 * n0 + i) (ρ1 116 i)) (by omega) (by omega) (fun q hq => by rw [st_ne hq, h3 q hq]) (fun j => by
      rw [st_self]
      by_cases c : j = 10 + 165 * p + 4 * n0 + i
      · rw [c, up_at, if_pos (by omega), show 10 + 165 * p + 4 * n0 + i - (10 + 165 * p + 4 * n0) = i by omega]
      · rw [up_ne c, h4 j]
        by_cases d : 10 + 165 * p + 4 * n0 ≤ j ∧ j < 10 + 165 * p + 4 * n0 + i
        · rw [if_pos d, if_pos (by omega)]
        · rw [if_neg d, if_neg (by omega)])
    refine ⟨ρ', ?_, t2⟩
    show X11_read_B103 _ _ _ _ _ = _
    unfold X11_read_B103
    rw [e13, if_neg (by first | omega | (unfold w32; omega)), bdk m_at, ag_nat (by omega) (by decide), ag_ok (by omega) (by omega) (by decide), show ((5 : Int) + 165 * p + 5 + 4 * n0 + 0 + i).toNat = 10 + 165 * p + 4 * n0 + i by omega, e116, lt_v, lt_v]
    exact t1
theorem app_crb {r : Nat → Int} {τ : Mem} {p n0 R : Nat} {f : Nat → Int} (hc : CRB 1 r τ) (hp : p < 4) (hn : r (9 + 165 * p) = n0) (h40 : n0 + R ≤ 40) (hf : ∀ i, i < 4 * R → τ 47 i = f i) : CRB 1 (apr r p n0 R f) (st (cpy τ 47 0 (11 + 3 * p) (4 * n0) (4 * R)) (9 + 3 * p) 2 ((n0 : Int) + R)) := by
  have fr : ∀ q, q ≠ 9 + 3 * p → q ≠ 11 + 3 * p → st (cpy τ 47 0 (11 + 3 * p) (4 * n0) (4 * R)) (9 + 3 * p) 2 ((n0 : Int) + R) q = τ q := fun q q1 q2 => by rw [st_ne q1, cpy_ne q2]
  have f11 : st (cpy τ 47 0 (11 + 3 * p) (4 * n0) (4 * R)) (9 + 3 * p) 2 ((n0 : Int) + R) (11 + 3 * p) = cpy τ 47 0 (11 + 3 * p) (4 * n0) (4 * R) (11 + 3 * p) := st_ne (by omega)
  have f9 : st (cpy τ 47 0 (11 + 3 * p) (4 * n0) (4 * R)) (9 + 3 * p) 2 ((n0 : Int) + R) (9 + 3 * p) 2 = (n0 : Int) + R := st_at _ _ _ _
  generalize hτ' : st (cpy τ 47 0 (11 + 3 * p) (4 * n0) (4 * R)) (9 + 3 * p) 2 ((n0 : Int) + R) = τ' at fr f11 f9 ⊢
  have lo : ∀ j, j < 5 → apr r p n0 R f j = r j := fun j hj => apr_o (by omega) (by omega)
  have hi : ∀ j, 665 ≤ j → apr r p n0 R f j = r j := fun j hj => apr_o (by omega) (by omega)
  have tr : ∀ q x, q < 4 → x < 4 → apr r p n0 R f (5 + 165 * q + x) = r (5 + 165 * q + x) := fun q x hq x1 => by
    rcases Nat.lt_trichotomy q p with c | c | c
    · exact apr_o (by omega) (by omega)
    · subst c; exact apr_o (by omega) (by omega)
    · exact apr_o (by omega) (by omega)
  have br : ∀ q, q < 4 → q ≠ p → apr r p n0 R f (9 + 165 * q) = r (9 + 165 * q) := fun q hq c => by
    rcases Nat.lt_trichotomy q p with d | d | d
    · exact apr_o (by omega) (by omega)
    · exact absurd d c
    · exact apr_o (by omega) (by omega)
  have fo : ∀ q j, q < 4 → q ≠ p → j < 160 → apr r p n0 R f (10 + 165 * q + j) = r (10 + 165 * q + j) := fun q j hq hqp hj => by
    rcases Nat.lt_trichotomy q p with d | d | d
    · exact apr_o (by omega) (by omega)
    · exact absurd d hqp
    · exact apr_o (by omega) (by omega)
  obtain ⟨h1, h2, h3, h4, h5, h6, h7⟩ := hc
  refine ⟨fun i hi => ?_, fun q hq w hw => ?_, fun q hq => ?_, fun q hq j hj0 hj => ?_, ?_, fun k hk0 hk q hq => ?_, fun s hs => ?_⟩
  · rw [fr _ (by omega) (by omega), lo _ hi]; exact h1 i hi
  · rw [fr _ (by omega) (by omega), tr q w hq hw]; exact h2 q hq w hw
  · by_cases c : q = p
    · rw [c, show 1 + 8 + 3 * p = 9 + 3 * p by omega, f9, apr_n]
    · rw [fr _ (by omega) (by omega), br q hq c]; exact h3 q hq
  · by_cases c : q = p
    · rw [c] at hj
      rw [apr_n] at hj
      rw [c, show 1 + 10 + 3 * p = 11 + 3 * p by omega, f11]
      by_cases d : j < 4 * n0
      · rw [cpy_o (by omega), apr_o (by omega) (by omega)]
        have := h4 p hp j hj0 (by omega)
        rw [show 1 + 10 + 3 * p = 11 + 3 * p by omega] at this
        exact this
      · obtain ⟨x, rfl⟩ : ∃ x, j = 4 * n0 + x := ⟨j - 4 * n0, by omega⟩
        rw [cpy_at (by omega) (by omega), show 10 + 165 * p + (4 * n0 + x) = 10 + 165 * p + 4 * n0 + x by omega, apr_i (by omega)]
        have := hf x (by omega)
        rw [Nat.zero_add, show 4 * n0 + x - 4 * n0 = x by omega]
        exact this
    · rw [br q hq c] at hj
      rw [fr _ (by omega) (by omega), fo q j hq c hj0]; exact h4 q hq j hj0 hj
  · rw [fr _ (by omega) (by omega), hi _ (by omega)]; exact h5
  · rw [hi _ (by omega)] at hk
    rw [fr _ (by omega) (by omega), hi _ (by omega)]; exact h6 k hk0 hk q hq
  · rw [fr _ (by omega) (by omega), hi _ (by omega)]; exact h7 s hs
theorem c_app {r : Nat → Int} {τ : Mem} {p n0 R : Nat} {f : Nat → Int} (hw : WF r) (hc : CRB 1 r τ) (hp : p < 4) (hn : r (9 + 165 * p) = n0) (h40 : n0 + R ≤ 40) (hf : ∀ i, i < 4 * R → τ 47 i = f i) : ∃ τ', X5_append τ (9 + 3 * p) 47 R = some (1, τ') ∧ (∀ q, q ≠ 9 + 3 * p → q ≠ 11 + 3 * p → τ' q = τ q) ∧ τ' (9 + 3 * p) 2 = (n0 : Int) + R ∧ CRB 1 (apr r p n0 R f) τ' := by
  have hb : τ (9 + 3 * p) 2 = n0 := by rw [hc.nbars hp]; exact hn
  have hl : ln 47 = 160 := rfl
  have e9 : cpy τ 47 0 (11 + 3 * p) (4 * n0) (4 * R) (9 + 3 * p) = τ (9 + 3 * p) := cpy_ne (by omega)
  refine ⟨st (cpy τ 47 0 (11 + 3 * p) (4 * n0) (4 * R)) (9 + 3 * p) 2 ((n0 : Int) + R), ?_, fun q q1 q2 => by rw [st_ne q1, cpy_ne q2], st_at _ _ _ _, ?_⟩
  · unfold X5_append
    rw [hb, if_pos (by first | omega | (unfold w32; omega)), hl]
    have hac : ∀ K : Option (Int × Mem), ac 160 160 0 ((n0 : Int) * 4) ((R : Int) * 4) K = K := fun K => by
      unfold ac
      rw [show w32 0 = 0 from rfl, w32_id (by omega) (by omega), w32_id (by omega) (by omega), if_pos ⟨by omega, by omega, by omega, by omega, by omega⟩]
    rw [hac, lt_v, show w32 0 = 0 from rfl, w32_id (by omega) (by omega), w32_id (by omega) (by omega), show (0 : Int).toNat = 0 from rfl, show ((n0 : Int) * 4).toNat = 4 * n0 by omega, show ((R : Int) * 4).toNat = 4 * R by omega, show 9 + 3 * p + 2 = 11 + 3 * p by omega, e9, hb, lt_v]
  · exact app_crb hc hp hn h40 hf
