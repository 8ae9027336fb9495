/-! the reference's step from token to token -/
def rbR (ρ : Mem) (B : Nat → Int) (n : Nat) : Prop := ρ 111 5 = n ∧ n ≤ 120 ∧ ∀ i, i < n → ρ 115 i = B i ∧ 0 ≤ B i ∧ B i ≤ 255
theorem rbR.frame {ρ ρ' : Mem} {B : Nat → Int} {n : Nat} (h : rbR ρ B n) (h1 : ρ' 111 5 = ρ 111 5) (h2 : ρ' 115 = ρ 115) : rbR ρ' B n := ⟨by rw [h1]; exact h.1, h.2.1, fun i hi => by rw [h2]; exact h.2.2 i hi⟩
section
variable {B : Nat → Int} {n : Nat} {ρ : Mem}
theorem m_isLetter (h : rbR ρ B n) {i : Nat} (hi : i ≤ n) : X11_isLetter ρ i = some (if pL B n i = true then 1 else 0) := by
  obtain ⟨h1, h2, h3⟩ := h
  unfold X11_isLetter
  rw [h1]
  by_cases c : i < n
  · have hb := h3 i c
    have e : pL B n i = true ↔ 97 ≤ B i ∧ B i ≤ 122 := by
      unfold pL
      rw [Bool.and_eq_true, decide_eq_true_eq, decide_eq_true_eq]
      exact ⟨fun x => x.2, fun x => ⟨c, x⟩⟩
    rw [if_neg (by first | omega | (unfold w32; omega)), ag_nat (by omega) (by decide), hb.1, w32_id (by omega) (by omega)]
    by_cases d : 97 ≤ B i ∧ B i ≤ 122
    · rw [bdk (in_t d.1 d.2 (by decide) (by decide)), if_neg (by decide), if_pos (e.mpr d)]
    · rw [bdk (in_f d (iR0 (by omega) (by omega)) (iR0 (by decide) (by decide)) (iR0 (by decide) (by decide))), if_pos (by decide), if_neg (fun x => d (e.mp x))]
  · rw [if_pos (by first | omega | (unfold w32; omega)), if_neg (fun x => c (pL_lt x))]
theorem m_isDigit (h : rbR ρ B n) {i : Nat} (hi : i ≤ n) : X11_isDigit ρ i = some (if pD B n i = true then 1 else 0) := by
  obtain ⟨h1, h2, h3⟩ := h
  unfold X11_isDigit
  rw [h1]
  by_cases c : i < n
  · have hb := h3 i c
    have e : pD B n i = true ↔ 48 ≤ B i ∧ B i ≤ 57 := by
      unfold pD
      rw [Bool.and_eq_true, decide_eq_true_eq, decide_eq_true_eq]
      exact ⟨fun x => x.2, fun x => ⟨c, x⟩⟩
    rw [if_neg (by first | omega | (unfold w32; omega)), ag_nat (by omega) (by decide), hb.1, w32_id (by omega) (by omega)]
    by_cases d : 48 ≤ B i ∧ B i ≤ 57
    · rw [bdk (in_t d.1 d.2 (by decide) (by decide)), if_neg (by decide), if_pos (e.mpr d)]
    · rw [bdk (in_f d (iR0 (by omega) (by omega)) (iR0 (by decide) (by decide)) (iR0 (by decide) (by decide))), if_pos (by decide), if_neg (fun x => d (e.mp x))]
  · rw [if_pos (by first | omega | (unfold w32; omega)), if_neg (fun x => c (pD_lt x))]
end
theorem pL_iff {B : Nat → Int} {n j : Nat} (h : pL B n j = true) : 97 ≤ B j ∧ B j ≤ 122 := by
  unfold pL at h
  rw [Bool.and_eq_true, decide_eq_true_eq, decide_eq_true_eq] at h
  exact h.2
theorem pD_iff {B : Nat → Int} {n j : Nat} (h : pD B n j = true) : 48 ≤ B j ∧ B j ≤ 57 := by
  unfold pD at h
  rw [Bool.and_eq_true, decide_eq_true_eq, decide_eq_true_eq] at h
  exact h.2
theorem WM_long {B : Nat → Int} {s L : Nat} (h : 6 < L) : WM B s L (-1) := ⟨7, Or.inr ⟨rfl, fun w hw q => by
  have : 4 ≤ sLen.getD w 0 ∧ sLen.getD w 0 ≤ 6 := sLen_in ⟨w, hw⟩
  have := q.1
  omega⟩, Or.inr ⟨rfl, rfl⟩⟩
theorem m_wordL {B : Nat → Int} {n s : Nat} : ∀ (m i f : Nat) (ρ : Mem) (V : Int), i + m = n → m < f → s < i ∨ (s = i ∧ pL B n i = true) → rbR ρ B n → ρ 111 7 = i → ρ 111 6 = s → (∀ j, s ≤ j → j < i → pL B n j = true) → (i - s ≤ 7 → V = vfd B (i - s) s 0) → ∃ ρ', X11_step_L86 f ρ V = some ρ' ∧ (∀ q, q ≠ 111 → ρ' q = ρ q) ∧ (∀ j, j < 7 ∨ 9 < j → ρ' 111 j = ρ 111 j) ∧ ρ' 111 7 = ((run1 (pL B n) m i : Nat) : Int) ∧ ρ' 111 8 = 1 ∧ WM B s (run1 (pL B n) m i - s) (ρ' 111 9) := by
  intro m
  induction m with
  | zero =>
    intro i f ρ V h1 h2 h3 h4 h5 h6 h7 h8
    obtain ⟨f, rfl⟩ : ∃ x, f = x + 1 := ⟨f - 1, by omega⟩
    have hnp : ¬ pL B n i = true := fun c => by have := pL_lt c; omega
    have hsi : s < i := by
      rcases h3 with c | c
      · exact c
      · exact absurd c.2 hnp
    have hl := m_isLetter h4 (i := i) (by omega)
    rw [if_neg hnp] at hl
    have e7 : st ρ 111 8 1 111 7 = i := by rw [st_self, up_ne (by omega)]; exact h5
    have e6 : st ρ 111 8 1 111 6 = s := by rw [st_self, up_ne (by omega)]; exact h6
    have hrun : run1 (pL B n) 0 i = i := rfl
    rw [hrun]
    have key : ∀ v : Int, WM B s (i - s) v → X11_step_L86 (f + 1) ρ V = some (st (st ρ 111 8 1) 111 9 v) → ∃ ρ', X11_step_L86 (f + 1) ρ V = some ρ' ∧ (∀ q, q ≠ 111 → ρ' q = ρ q) ∧ (∀ j, j < 7 ∨ 9 < j → ρ' 111 j = ρ 111 j) ∧ ρ' 111 7 = (i : Int) ∧ ρ' 111 8 = 1 ∧ WM B s (i - s) (ρ' 111 9) := fun v hv he => ⟨_, he, fun q hq => by rw [st_ne hq, st_ne hq], fun j hj => by rw [st_self, up_ne (by omega), st_self, up_ne (by omega)], by rw [st_self, up_ne (by omega)]; exact e7, by rw [st_self, up_ne (by omega), st_at], by rw [st_at]; exact hv⟩
    have hn := h4.2.1
    by_cases c : i - s ≤ 6
    · obtain ⟨v, v1, v2⟩ := m_wordOf (B := B) (s := s) (L := i - s) (by omega) (fun j j1 j2 => pL_iff (h7 j j1 (by omega))) (st ρ 111 8 1)
      refine key v v2 ?_
      show X11_step_B86 _ _ _ = _
      unfold X11_step_B86
      rw [h5, bdk hl, if_pos (by decide), lt_v, e7, e6, if_pos (by first | omega | (unfold w32; omega)), h8 (by omega), bdk v1, lt_v]
    · refine key (-1) (WM_long (by omega)) ?_
      show X11_step_B86 _ _ _ = _
      unfold X11_step_B86
      rw [h5, bdk hl, if_pos (by decide), lt_v, e7, e6, if_neg (by first | omega | (unfold w32; omega)), lt_v]
  | succ m ih =>
    intro i f ρ V h1 h2 h3 h4 h5 h6 h7 h8
    obtain ⟨f, rfl⟩ : ∃ x, f = x + 1 := ⟨f - 1, by omega⟩
    have hn := h4.2.1
    by_cases hp : pL B n i = true
    · have hl := m_isLetter h4 (i := i) (by omega)
      rw [if_pos hp] at hl
      have hb := h4.2.2 i (by omega)
      have hbi := pL_iff hp
      rw [run1_ge _ _ hp]
      have e7 : st ρ 111 7 ((i : Int) + 1) 111 7 = ((i + 1 : Nat) : Int) := by rw [st_at]; rfl
      have go : ∀ V' : Int, (i + 1 - s ≤ 7 → V' = vfd B (i + 1 - s) s 0) → X11_step_L86 (f + 1) ρ V = X11_step_L86 f (st ρ 111 7 ((i : Int) + 1)) V' → ∃ ρ', X11_step_L86 (f + 1) ρ V = some ρ' ∧ (∀ q, q ≠ 111 → ρ' q = ρ q) ∧ (∀ j, j < 7 ∨ 9 < j → ρ' 111 j = ρ 111 j) ∧ ρ' 111 7 = ((run1 (pL B n) m (i + 1) : Nat) : Int) ∧ ρ' 111 8 = 1 ∧ WM B s (run1 (pL B n) m (i + 1) - s) (ρ' 111 9) := by
        intro V' hV' he
        obtain ⟨ρ', t1, t2, t3, t4, t5, t6⟩ := ih (i + 1) f (st ρ 111 7 ((i : Int) + 1)) V' (by omega) (by omega) (Or.inl (by omega)) (h4.frame (by rw [st_self, up_ne (by omega)]) (st_ne (by omega))) e7 (by rw [st_self, up_ne (by omega)]; exact h6) (fun j j1 j2 => by
          by_cases hj : j = i
          · rw [hj]; exact hp
          · exact h7 j j1 (by omega)) hV'
        exact ⟨ρ', he.trans t1, fun q hq => by rw [t2 q hq, st_ne hq], fun j hj => by rw [t3 j hj, st_self, up_ne (by omega)], t4, t5, t6⟩
      by_cases c7 : 7 ≤ i - s
      · refine go V (fun hh => by omega) ?_
        show X11_step_B86 _ _ _ = _
        unfold X11_step_B86 X11_step_B132
        rw [h5, bdk hl, if_neg (by decide), h6, if_pos (by first | omega | (unfold w32; omega)), lt_v]
      · have hv := h8 (by omega)
        have hin := vfd_in (B := B) (i - s) s 0 0 (by omega) (by decide) (by omega) (fun j j1 j2 => pL_iff (h7 j j1 (by omega)))
        obtain ⟨x, hx⟩ : ∃ x : Nat, V = x := ⟨V.toNat, by rw [hv]; omega⟩
        have hx40 : x < 1099511627776 := by rw [hx] at hv; omega
        obtain ⟨y, hy⟩ : ∃ y : Nat, B i - 96 = y := ⟨(B i - 96).toNat, by omega⟩
        have hy32 : y < 32 := by omega
        refine go (32 * V + (B i - 96)) (fun _ => by
          rw [show i + 1 - s = i - s + 1 by omega, vfd_snoc, ← hv, show s + (i - s) = i by omega]) ?_
        show X11_step_B86 _ _ _ = _
        unfold X11_step_B86 X11_step_B132
        rw [h5, bdk hl, if_neg (by decide), h6, if_neg (by first | omega | (unfold w32; omega)), ag_nat (by omega) (by decide), lt_v, hb.1, hy, w32_id (by omega) (by omega), hx, lsl5 hx40, lro5 hx40 hy32, show ((32 * x + y : Nat) : Int) = 32 * (x : Int) + (y : Int) by omega]
    · rw [run1_stop _ _ hp]
      have := ih
      have hl := m_isLetter h4 (i := i) (by omega)
      rw [if_neg hp] at hl
      have hsi : s < i := by
        rcases h3 with c | c
        · exact c
        · exact absurd c.2 hp
      have e7 : st ρ 111 8 1 111 7 = i := by rw [st_self, up_ne (by omega)]; exact h5
      have e6 : st ρ 111 8 1 111 6 = s := by rw [st_self, up_ne (by omega)]; exact h6
      have key : ∀ v : Int, WM B s (i - s) v → X11_step_L86 (f + 1) ρ V = some (st (st ρ 111 8 1) 111 9 v) → ∃ ρ', X11_step_L86 (f + 1) ρ V = some ρ' ∧ (∀ q, q ≠ 111 → ρ' q = ρ q) ∧ (∀ j, j < 7 ∨ 9 < j → ρ' 111 j = ρ 111 j) ∧ ρ' 111 7 = (i : Int) ∧ ρ' 111 8 = 1 ∧ WM B s (i - s) (ρ' 111 9) := fun v hv he => ⟨_, he, fun q hq => by rw [st_ne hq, st_ne hq], fun j hj => by rw [st_self, up_ne (by omega), st_self, up_ne (by omega)], by rw [st_self, up_ne (by omega)]; exact e7, by rw [st_self, up_ne (by omega), st_at], by rw [st_at]; exact hv⟩
      by_cases c : i - s ≤ 6
      · obtain ⟨v, v1, v2⟩ := m_wordOf (B := B) (s := s) (L := i - s) (by omega) (fun j j1 j2 => pL_iff (h7 j j1 (by omega))) (st ρ 111 8 1)
        refine key v v2 ?_
        show X11_step_B86 _ _ _ = _
        unfold X11_step_B86
        rw [h5, bdk hl, if_pos (by decide), lt_v, e7, e6, if_pos (by first | omega | (unfold w32; omega)), h8 (by omega), bdk v1, lt_v]
      · refine key (-1) (WM_long (by omega)) ?_
        show X11_step_B86 _ _ _ = _
        unfold X11_step_B86
        rw [h5, bdk hl, if_pos (by decide), lt_v, e7, e6, if_neg (by first | omega | (unfold w32; omega)), lt_v]
theorem m_numL {B : Nat → Int} {n : Nat} : ∀ (m i f : Nat) (ρ : Mem) (a : Int), i + m = n → m < f → rbR ρ B n → ρ 111 7 = i → ρ 111 9 = a → 0 ≤ a → a ≤ 100000 → ∃ ρ', X11_step_L201 f ρ = some ρ' ∧ (∀ q, q ≠ 111 → ρ' q = ρ q) ∧ (∀ j, j ≠ 7 → j ≠ 9 → ρ' 111 j = ρ 111 j) ∧ ρ' 111 7 = ((run1 (pD B n) m i : Nat) : Int) ∧ ρ' 111 9 = rnum B (run1 (pD B n) m i - i) i a := by
  intro m
  induction m with
  | zero =>
    intro i f ρ a h1 h2 h3 h4 h5 h6 h7
    obtain ⟨f, rfl⟩ : ∃ x, f = x + 1 := ⟨f - 1, by omega⟩
    have hnp : ¬ pD B n i = true := fun c => by have := pD_lt c; omega
    have hl := m_isDigit h3 (i := i) (by omega)
    rw [if_neg hnp] at hl
    refine ⟨ρ, ?_, fun _ _ => rfl, fun _ _ _ => rfl, h4, ?_⟩
    · show X11_step_B201 _ _ = _
      unfold X11_step_B201
      rw [h4, bdk hl, if_pos (by decide)]
    · show ρ 111 9 = rnum B (i - i) i a
      rw [Nat.sub_self]; exact h5
  | succ m ih =>
    intro i f ρ a h1 h2 h3 h4 h5 h6 h7
    obtain ⟨f, rfl⟩ : ∃ x, f = x + 1 := ⟨f - 1, by omega⟩
    have hn := h3.2.1
    have hl := m_isDigit h3 (i := i) (by omega)
    by_cases hp : pD B n i = true
    · rw [if_pos hp] at hl
      have hb := h3.2.2 i (by omega)
      have hbi := pD_iff hp
      have hrg := run1_in (pD B n) m (i + 1)
      rw [run1_ge _ _ hp]
      obtain ⟨a', ha'⟩ : ∃ a', a' = if a ≤ 9999 then 10 * a + B i - 48 else a := ⟨_, rfl⟩
      have hr : rnum B (run1 (pD B n) m (i + 1) - i) i a = rnum B (run1 (pD B n) m (i + 1) - (i + 1)) (i + 1) a' := by
        rw [show run1 (pD B n) m (i + 1) - i = run1 (pD B n) m (i + 1) - (i + 1) + 1 by omega, ha']
        rfl
      have hin : 0 ≤ a' ∧ a' ≤ 100000 := by rw [ha']; split <;> omega
      have e111 : st (st ρ 111 9 a') 111 7 ((i : Int) + 1) 111 = up (up (ρ 111) 9 a') 7 ((i : Int) + 1) := by rw [st_self, st_self]
      obtain ⟨ρ', t1, t2, t3, t4, t5⟩ := ih (i + 1) f (st (st ρ 111 9 a') 111 7 ((i : Int) + 1)) a' (by omega) (by omega) (h3.frame (by rw [e111, up_ne (by omega), up_ne (by omega)]) (by rw [st_ne (by omega), st_ne (by omega)])) (by rw [e111, up_at]; rfl) (by rw [e111, up_ne (by omega), up_at]) hin.1 hin.2
      refine ⟨ρ', ?_, fun q hq => by rw [t2 q hq, st_ne hq, st_ne hq], fun j j1 j2 => by rw [t3 j j1 j2, e111, up_ne j1, up_ne j2], t4, by rw [hr]; exact t5⟩
      have e7 : st ρ 111 9 a' 111 7 = i := by rw [st_self, up_ne (by omega)]; exact h4
      show X11_step_B201 _ _ = _
      unfold X11_step_B201 X11_step_B250
      rw [h4, bdk hl, if_neg (by decide), h5]
      by_cases c : a ≤ 9999
      · rw [if_pos c] at ha'
        rw [if_pos (by first | omega | (unfold w32; omega)), ag_nat (by omega) (by decide), hb.1, ← ha', lt_v, e7, lt_v]
        exact t1
      · rw [if_neg c] at ha'
        rw [if_neg (by first | omega | (unfold w32; omega)), ← ha', lt_v, e7, lt_v]
        exact t1
    · rw [if_neg hp] at hl
      rw [run1_stop _ _ hp]
      refine ⟨ρ, ?_, fun _ _ => rfl, fun _ _ _ => rfl, h4, ?_⟩
      · show X11_step_B201 _ _ = _
        unfold X11_step_B201
        rw [h4, bdk hl, if_pos (by decide)]
      · rw [Nat.sub_self]; exact h5
