/-! both readers at one token -/
def RT (B : Nat → Int) (n : Nat) (ρ : Mem) (k : Nat) : Prop := ρ 111 6 = ((tS B n k : Nat) : Int) ∧ ρ 111 7 = ((tE B n (tS B n k) : Nat) : Int) ∧ ρ 111 8 = kdP B n (tS B n k) ∧ (kdP B n (tS B n k) = 1 → WM B (tS B n k) (tE B n (tS B n k) - tS B n k) (ρ 111 9)) ∧ (kdP B n (tS B n k) = 2 → ρ 111 9 = rnum B (tE B n (tS B n k) - tS B n k) (tS B n k) 0)
theorem m_next {B : Nat → Int} {n k : Nat} {ρ : Mem} (h : rbR ρ B n) (ht : RT B n ρ k) : ∃ ρ', X11_step ρ = some ρ' ∧ (∀ q, q ≠ 111 → ρ' q = ρ q) ∧ (∀ j, j < 6 ∨ 9 < j → ρ' 111 j = ρ 111 j) ∧ rbR ρ' B n ∧ RT B n ρ' (k + 1) := by
  have hle := tS_le (B := B) (n := n) k
  have hte : tE B n (tS B n k) ≤ n := by
    by_cases c : tS B n k < n
    · exact (tE_in c).2
    · rw [tE_end (by omega)]; exact hle
  obtain ⟨ρ', t1, t2, t3, t4, t5, t6, t7, t8⟩ := m_step h hte ht.2.1
  exact ⟨ρ', t1, t2, t3, h.frame (t3 5 (by omega)) (t2 115 (by omega)), t4, t5, t6, t7, t8⟩
theorem kd_digits {B : Nat → Int} {n s : Nat} (h : kdP B n s = 2) : s < n ∧ ∀ j, s ≤ j → j < s + (tE B n s - s) → 48 ≤ B j ∧ B j ≤ 57 := by
  unfold kdP at h
  by_cases c : n ≤ s
  · rw [if_pos c] at h; omega
  · rw [if_neg c] at h
    by_cases cl : pL B n s = true
    · rw [if_pos cl] at h; omega
    · rw [if_neg cl] at h
      by_cases cd : pD B n s = true
      · have hE : tE B n s = run1 (pD B n) (n - s) s := by unfold tE; rw [if_neg cl, if_pos cd]
        exact ⟨by omega, fun j j1 j2 => pD_iff (run1_all (n - s) s j j1 (by rw [← hE]; omega))⟩
      · rw [if_neg cd] at h
        exfalso
        split at h
        · omega
        · split at h <;> omega
theorem num_at {B : Nat → Int} {n T k : Nat} {τ ρ : Mem} (hk : TK B n T τ) (hkT : k ≤ T) (ha : τ 41 1 = k) (ht : RT B n ρ k) (hbad : ρ 111 11 = 0) {lo hi : Int} (hlo : 0 ≤ lo ∧ lo ≤ 100) (hhi : 0 ≤ hi ∧ hi ≤ 100) : ∃ b, X9_isNumber τ lo hi = some b ∧ X11_isNumber ρ lo hi = some b ∧ ((b = 0 ∧ True) ∨ (b = 1 ∧ kdP B n (tS B n k) = 2 ∧ ∃ x, lo ≤ x ∧ x ≤ hi ∧ X8_valueOf τ k = some x ∧ ρ 111 9 = x)) := by
  obtain ⟨g1, g2, c, g3, g4, g5, g6⟩ := hk.at hkT
  obtain ⟨r1, r2, r3, r4, r5⟩ := ht
  have hkr : 0 ≤ kdP B n (tS B n k) ∧ kdP B n (tS B n k) ≤ 5 := by
    unfold kdP
    repeat' split
    all_goals omega
  by_cases c2 : kdP B n (tS B n k) = 2
  · have hd := kd_digits c2
    have hc := g4.2 c2
    have hv := r5 c2
    have nr := num_rel (B := B) (tE B n (tS B n k) - tS B n k) (tS B n k) 0 0 hd.2 (Or.inl ⟨rfl, by omega, by omega⟩)
    rw [← hc, ← hv] at nr
    have hvi : -2147483648 ≤ ρ 111 9 ∧ ρ 111 9 < 2147483648 := by
      rcases nr with x | x <;> omega
    by_cases q : lo ≤ c ∧ c ≤ hi
    · have q' : lo ≤ ρ 111 9 ∧ ρ 111 9 ≤ hi ∧ ρ 111 9 = c := by
        rcases nr with x | x <;> omega
      refine ⟨1, ?_, ?_, Or.inr ⟨rfl, c2, c, q.1, q.2, g3, q'.2.2⟩⟩
      · unfold X9_isNumber
        rw [ha, bdk g1, if_neg (by rw [c2]; decide), bdk g3, bdk (within_t q.1 q.2 (by omega) (by omega)), if_neg (by decide)]
      · unfold X11_isNumber
        rw [hbad, if_neg (by decide), r3, if_neg (by rw [c2]; decide), w32_id hvi.1 hvi.2, w32_id (x := lo) (by omega) (by omega), w32_id (x := hi) (by omega) (by omega), bdk (in_t q'.1 q'.2.1 (by omega) (by omega)), if_neg (by decide)]
    · have q' : ¬ (lo ≤ ρ 111 9 ∧ ρ 111 9 ≤ hi) := by
        rcases nr with x | x <;> omega
      refine ⟨0, ?_, ?_, Or.inl ⟨rfl, trivial⟩⟩
      · unfold X9_isNumber
        rw [ha, bdk g1, if_neg (by rw [c2]; decide), bdk g3, bdk (within_f q (iR0 (by omega) (by omega)) (iR0 (by omega) (by omega)) (iR0 (by omega) (by omega))), if_pos (by decide)]
      · unfold X11_isNumber
        rw [hbad, if_neg (by decide), r3, if_neg (by rw [c2]; decide), w32_id hvi.1 hvi.2, w32_id (x := lo) (by omega) (by omega), w32_id (x := hi) (by omega) (by omega), bdk (in_f q' (iR0 hvi.1 hvi.2) (iR0 (by omega) (by omega)) (iR0 (by omega) (by omega))), if_pos (by decide)]
  · refine ⟨0, ?_, ?_, Or.inl ⟨rfl, trivial⟩⟩
    · unfold X9_isNumber
      rw [ha, bdk g1, if_pos (by rw [w32_id (by omega) (by omega)]; exact c2)]
    · unfold X11_isNumber
      rw [hbad, if_neg (by decide), r3, if_pos (by rw [w32_id (by omega) (by omega)]; exact c2)]
/-- the word's number on both sides -/
theorem wrd_at {B : Nat → Int} {n T k : Nat} {τ ρ : Mem} (hk : TK B n T τ) (hkT : k ≤ T) (ht : RT B n ρ k) (h1 : kdP B n (tS B n k) = 1) : ∃ c, X8_valueOf τ k = some c ∧ 0 ≤ c ∧ c ≤ 7 ∧ ((c < 7 ∧ ρ 111 9 = c) ∨ (c = 7 ∧ ρ 111 9 = -1)) := by
  obtain ⟨g1, g2, c, g3, g4, g5, g6⟩ := hk.at hkT
  obtain ⟨r1, r2, r3, r4, r5⟩ := ht
  obtain ⟨c', w1, w2⟩ := r4 h1
  have e := WC_eq (g4.1 h1) w1
  have ci := WC_in w1
  exact ⟨c, g3, by omega, by omega, by rw [e]; exact w2⟩
theorem kdP_in {B : Nat → Int} {n s : Nat} : 0 ≤ kdP B n s ∧ kdP B n s ≤ 5 := by
  unfold kdP
  repeat' split
  all_goals omega
theorem c_isWord {B : Nat → Int} {n T k : Nat} {τ : Mem} (hk : TK B n T τ) (hkT : k ≤ T) (ha : τ 41 1 = k) {w : Int} (hw : 0 ≤ w ∧ w ≤ 6) : (kdP B n (tS B n k) ≠ 1 → X9_isWord τ w = some 0) ∧ ∀ c, X8_valueOf τ k = some c → 0 ≤ c → c ≤ 10000 → kdP B n (tS B n k) = 1 → X9_isWord τ w = some (if c = w then 1 else 0) := by
  obtain ⟨g1, g2, _⟩ := hk.at hkT
  have hi := kdP_in (B := B) (n := n) (s := tS B n k)
  unfold X9_isWord
  rw [ha, bdk g1]
  constructor
  · intro h
    rw [if_pos (by rw [w32_id (by omega) (by omega)]; exact h)]
  · intro c hc c1 c2 h
    rw [if_neg (by rw [h]; decide), bdk hc]
    by_cases x : c = w
    · rw [if_neg (by rw [x]; simp), if_pos x]
    · rw [if_pos (by rw [w32_id (by omega) (by omega), w32_id (by omega) (by omega)]; exact x), if_neg x]
theorem m_isWord {B : Nat → Int} {n k : Nat} {ρ : Mem} (ht : RT B n ρ k) (hbad : ρ 111 11 = 0) {lo hi : Int} (hlo : 0 ≤ lo ∧ lo ≤ 6) (hhi : 0 ≤ hi ∧ hi ≤ 6) : (kdP B n (tS B n k) ≠ 1 → X11_isWord ρ lo hi = some 0) ∧ (-1 ≤ ρ 111 9 → ρ 111 9 ≤ 7 → kdP B n (tS B n k) = 1 → X11_isWord ρ lo hi = some (if lo ≤ ρ 111 9 ∧ ρ 111 9 ≤ hi then 1 else 0)) := by
  obtain ⟨r1, r2, r3, r4, r5⟩ := ht
  have hi' := kdP_in (B := B) (n := n) (s := tS B n k)
  unfold X11_isWord
  rw [hbad, if_neg (by decide), r3]
  constructor
  · intro h
    rw [if_pos (by rw [w32_id (by omega) (by omega)]; exact h)]
  · intro v1 v2 h
    rw [if_neg (by rw [h]; decide), w32_id (x := ρ 111 9) (by omega) (by omega), w32_id (x := lo) (by omega) (by omega), w32_id (x := hi) (by omega) (by omega)]
    by_cases q : lo ≤ ρ 111 9 ∧ ρ 111 9 ≤ hi
    · rw [bdk (in_t q.1 q.2 (by omega) (by omega)), if_neg (by decide), if_pos q]
    · rw [bdk (in_f q (iR0 (by omega) (by omega)) (iR0 (by omega) (by omega)) (iR0 (by omega) (by omega))), if_pos (by decide), if_neg q]
/-- a bad reference stays where it is -/
theorem m_bad {ρ : Mem} (h : ρ 111 11 = 1) : (∀ lo hi, X11_isWord ρ lo hi = some 0) ∧ (∀ lo hi, X11_isNumber ρ lo hi = some 0) ∧ X11_need ρ 1 = some ρ := by
  refine ⟨fun lo hi => ?_, fun lo hi => ?_, ?_⟩
  · unfold X11_isWord
    rw [h, if_pos (by decide)]
  · unfold X11_isNumber
    rw [h, if_pos (by decide)]
  · unfold X11_need X11_need_B9
    rw [if_pos (by decide), h, if_pos (by decide)]
theorem m_need0 (ρ : Mem) : X11_need ρ 0 = some (st ρ 111 11 1) := by
  unfold X11_need X11_need_B9
  rw [if_neg (by decide), lt_v, st_at, if_pos (by decide)]
theorem m_need1 {B : Nat → Int} {n k : Nat} {ρ : Mem} (h : rbR ρ B n) (ht : RT B n ρ k) (hb : ρ 111 11 = 0) : ∃ ρ', X11_need ρ 1 = some ρ' ∧ (∀ q, q ≠ 111 → ρ' q = ρ q) ∧ (∀ j, j < 6 ∨ 9 < j → ρ' 111 j = ρ 111 j) ∧ rbR ρ' B n ∧ RT B n ρ' (k + 1) := by
  obtain ⟨ρ', t1, t2⟩ := m_next h ht
  refine ⟨ρ', ?_, t2⟩
  unfold X11_need X11_need_B9
  rw [if_pos (by decide), hb, if_neg (by decide), bdk t1]
