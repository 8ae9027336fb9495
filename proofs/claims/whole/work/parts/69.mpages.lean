/-! the reference's pages -/
def PMs (r : Nat → Int) (p s : Nat) (ρ : Mem) : Prop := ∀ b k : Nat, b ≤ k → (k : Int) < r (9 + 165 * p) → ρ 118 (cel s b k) = eM (pgc r p s b k)
theorem m_pgB {p s e N L : Nat} (hs : s < 3) {r : Nat → Int} (hL : r 1 = L) (hL6 : L ≤ 6) (he : e < N) (hN : N ≤ 40) (rec8 : Mem → Int → Int → Int → Option Mem) (rec22 : Mem → Int → Int → Int → Int → Option Mem) : ∀ (n b f : Nat) (ρ : Mem), b + n = e + 1 → n < f → ρ 112 = r → TM r p s e ρ L → (∀ j, j < b → ρ 118 (cel s j e) = eM (pgc r p s j e)) → ∃ ρ', X11_findPages_L38 rec8 rec22 f ρ p N s e b = rec22 ρ' p N s ((e : Int) + 1) ∧ (∀ q, q ≠ 118 → ρ' q = ρ q) ∧ (∀ s' b' k', b' < 40 → k' < 40 → s' ≠ s ∨ k' ≠ e → ρ' 118 (cel s' b' k') = ρ 118 (cel s' b' k')) ∧ ∀ j, j ≤ e → ρ' 118 (cel s j e) = eM (pgc r p s j e) := by
  intro n
  induction n with
  | zero =>
    intro b f ρ h1 h2 h3 h4 h5
    obtain ⟨f, rfl⟩ : ∃ x, f = x + 1 := ⟨f - 1, by omega⟩
    refine ⟨ρ, ?_, fun _ _ => rfl, fun _ _ _ _ _ _ => rfl, fun j hj => h5 j (by omega)⟩
    show X11_findPages_B38 _ _ _ _ _ _ _ _ _ = _
    unfold X11_findPages_B38
    rw [if_pos (by first | omega | (unfold w32; omega)), lt_v]
  | succ n ih =>
    intro b f ρ h1 h2 h3 h4 h5
    obtain ⟨f, rfl⟩ : ∃ x, f = x + 1 := ⟨f - 1, by omega⟩
    have hcl := m_cell ρ s b e
    have hcl2 : cel s b e < 4800 := by unfold cel; omega
    have eL : ρ 112 (1 : Int).toNat = L := by rw [h3]; exact hL
    have et : ρ 119 (41 * (L : Int) + b).toNat = eM (pgc r p s b e) := by
      rw [show (41 * (L : Int) + b).toNat = 41 * L + b by omega, h4 b (by omega)]
      unfold pgc
      rw [hL, Int.toNat_natCast]
    have e118 : st ρ 118 (cel s b e) (eM (pgc r p s b e)) 118 = up (ρ 118) (cel s b e) (eM (pgc r p s b e)) := st_self _ _ _ _
    obtain ⟨ρ', t1, t2, t3, t4⟩ := ih (b + 1) f (st ρ 118 (cel s b e) (eM (pgc r p s b e))) (by omega) (by omega) (by rw [st_ne (by omega)]; exact h3) (fun j hj => by rw [st_ne (by omega)]; exact h4 j hj) (fun j hj => by
      rw [e118]
      by_cases hjb : j = b
      · rw [hjb, up_at]
      · rw [up_ne (by unfold cel; omega)]; exact h5 j (by omega))
    refine ⟨ρ', ?_, fun q hq => by rw [t2 q hq, st_ne hq], fun s' b' k' b1 k1 hh => by rw [t3 s' b' k' b1 k1 hh, e118, up_ne (by unfold cel; omega)], t4⟩
    show X11_findPages_B38 _ _ _ _ _ _ _ _ _ = _
    unfold X11_findPages_B38
    rw [if_neg (by first | omega | (unfold w32; omega)), bdk hcl, ag_ok (by omega) (by omega) (by decide), eL, ag_ok (by omega) (by omega) (by decide), et, ag_nat hcl2 (by decide), lt_v, lt_v]
    exact t1
theorem m_pgE {p s : Nat} (hp : p < 4) (hs : s < 3) {r : Nat → Int} (hw : WF r) {N L : Nat} (hN : r (9 + 165 * p) = N) (hL : r 1 = L) (rec8 : Mem → Int → Int → Int → Option Mem) : ∀ (n e f : Nat) (ρ : Mem), e + n = N → n < f → ρ 112 = r → LM r p s ρ → (∀ b k, b ≤ k → k < e → ρ 118 (cel s b k) = eM (pgc r p s b k)) → ∃ ρ', X11_findPages_L22 rec8 f ρ p N s e = rec8 ρ' p N ((s : Int) + 1) ∧ (∀ q, q ≠ 118 → q ≠ 119 → ρ' q = ρ q) ∧ (∀ s' b' k', b' < 40 → k' < 40 → s' ≠ s → ρ' 118 (cel s' b' k') = ρ 118 (cel s' b' k')) ∧ PMs r p s ρ' := by
  have h40 := hw.bars hp
  have h6 := hw.lines
  intro n
  induction n with
  | zero =>
    intro e f ρ h1 h2 h3 h4 h5
    obtain ⟨f, rfl⟩ : ∃ x, f = x + 1 := ⟨f - 1, by omega⟩
    refine ⟨ρ, ?_, fun _ _ _ => rfl, fun _ _ _ _ _ _ => rfl, fun b k k1 k2 => h5 b k k1 (by omega)⟩
    show X11_findPages_B22 _ _ _ _ _ _ _ = _
    unfold X11_findPages_B22
    rw [if_pos (by first | omega | (unfold w32; omega)), lt_v]
  | succ n ih =>
    intro e f ρ h1 h2 h3 h4 h5
    obtain ⟨f, rfl⟩ : ∃ x, f = x + 1 := ⟨f - 1, by omega⟩
    obtain ⟨ρ1, t1, t2, t3⟩ := m_findTails (p := p) (s := s) (e := e) (ρ := ρ) hp hs (by rw [h3]; exact hw) (by rw [h3]; omega) (by rw [h3]; exact h4)
    rw [h3] at t3
    obtain ⟨ρ2, u1, u2, u3, u4⟩ := m_pgB (p := p) (e := e) (N := N) hs hL (by omega) (by omega) (by omega) rec8 (X11_findPages_L22 rec8 f) (e + 1) 0 5000 ρ1 (by omega) (by omega) (by rw [t2 112 (by omega)]; exact h3) (t3 L (by omega)) (fun j hj => by omega)
    obtain ⟨ρ3, w1, w2, w3, w4⟩ := ih (e + 1) f ρ2 (by omega) (by omega) (by rw [u2 112 (by omega), t2 112 (by omega)]; exact h3) (fun a ha => (h4 a ha).frame (fun k _ => by rw [u2 117 (by omega), t2 117 (by omega)]) (by omega)) (fun b k k1 k2 => by
      by_cases hke : k = e
      · rw [hke] at k1 ⊢; exact u4 b k1
      · rw [u3 s b k (by omega) (by omega) (Or.inr hke), t2 118 (by omega)]; exact h5 b k k1 (by omega))
    refine ⟨ρ3, ?_, fun q q1 q2 => by rw [w2 q q1 q2, u2 q q1, t2 q q2], fun s' b' k' b1 k1 hh => by rw [w3 s' b' k' b1 k1 hh, u3 s' b' k' b1 k1 (Or.inl hh), t2 118 (by omega)], w4⟩
    show X11_findPages_B22 _ _ _ _ _ _ _ = _
    unfold X11_findPages_B22
    rw [if_neg (by first | omega | (unfold w32; omega)), bdk t1]
    exact u1.trans w1
def PM (r : Nat → Int) (p : Nat) (ρ : Mem) : Prop := ∀ s, s < 3 → LM r p s ρ ∧ PMs r p s ρ
theorem m_findPages {p : Nat} (hp : p < 4) {ρ : Mem} (hw : WF (ρ 112)) : ∃ ρ', X11_findPages ρ p = some ρ' ∧ (∀ q, q ≠ 117 → q ≠ 118 → q ≠ 119 → ρ' q = ρ q) ∧ PM (ρ 112) p ρ' := by
  have h40 := hw.bars hp
  have h6 := hw.lines
  obtain ⟨N, hN⟩ : ∃ N : Nat, ρ 112 (9 + 165 * p) = N := ⟨(ρ 112 (9 + 165 * p)).toNat, by omega⟩
  obtain ⟨L, hL⟩ : ∃ L : Nat, ρ 112 1 = L := ⟨(ρ 112 1).toNat, by omega⟩
  have key : ∀ (n s f : Nat) (υ : Mem), s + n = 3 → n < f → (∀ q, q ≠ 117 → q ≠ 118 → q ≠ 119 → υ q = ρ q) → (∀ s', s' < s → LM (ρ 112) p s' υ ∧ PMs (ρ 112) p s' υ) → ∃ ρ', X11_findPages_L8 f υ p N s = some ρ' ∧ (∀ q, q ≠ 117 → q ≠ 118 → q ≠ 119 → ρ' q = ρ q) ∧ PM (ρ 112) p ρ' := by
    intro n
    induction n with
    | zero =>
      intro s f υ h1 h2 h3 h4
      obtain ⟨f, rfl⟩ : ∃ x, f = x + 1 := ⟨f - 1, by omega⟩
      refine ⟨υ, ?_, h3, fun s' hs' => h4 s' (by omega)⟩
      show X11_findPages_B8 _ _ _ _ _ = _
      unfold X11_findPages_B8
      rw [if_pos (by first | omega | (unfold w32; omega))]
    | succ n ih =>
      intro s f υ h1 h2 h3 h4
      obtain ⟨f, rfl⟩ : ∃ x, f = x + 1 := ⟨f - 1, by omega⟩
      have e112 : υ 112 = ρ 112 := h3 112 (by omega) (by omega) (by omega)
      obtain ⟨ρ1, t1, t2, t3, t4⟩ := m_findLines (p := p) (s := s) (ρ := υ) hp (by omega) (by rw [e112]; exact hw)
      rw [e112] at t4
      obtain ⟨ρ2, u1, u2, u3, u4⟩ := m_pgE hp (s := s) (by omega) hw hN hL (X11_findPages_L8 f) N 0 5000 ρ1 (by omega) (by omega) (by rw [t2 112 (by omega)]; exact e112) t4 (fun b k _ hk => by omega)
      obtain ⟨ρ3, w1, w2, w3⟩ := ih (s + 1) f ρ2 (by omega) (by omega) (fun q q1 q2 q3 => by rw [u2 q q2 q3, t2 q q1, h3 q q1 q2 q3]) (fun s' hs' => by
        by_cases hss : s' = s
        · rw [hss]
          exact ⟨fun a ha => (t4 a ha).frame (fun k _ => by rw [u2 117 (by omega) (by omega)]) (by omega), u4⟩
        · have := h4 s' (by omega)
          refine ⟨fun a ha => (this.1 a ha).frame (fun k hk => ?_) (by omega), fun b k k1 k2 => ?_⟩
          · rw [u2 117 (by omega) (by omega), t3 _ (by unfold cel; omega)]
          · rw [u3 s' b k (by omega) (by omega) hss, t2 118 (by omega)]
            exact this.2 b k k1 k2)
      refine ⟨ρ3, ?_, w2, w3⟩
      show X11_findPages_B8 _ _ _ _ _ = _
      unfold X11_findPages_B8
      rw [if_neg (by first | omega | (unfold w32; omega)), bdk t1]
      exact u1.trans w1
  obtain ⟨ρ', t1, t2⟩ := key 3 0 5000 ρ (by omega) (by omega) (fun _ _ _ _ => rfl) (fun s' h => by omega)
  refine ⟨ρ', ?_, t2⟩
  unfold X11_findPages
  rw [bdk (mbarsN hp), hN]
  exact t1
