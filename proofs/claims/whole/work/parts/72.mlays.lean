/-! the reference lays: all pages -/
theorem m_findFrom {r r0 : Nat → Int} (hw : WF r) (hw0 : WF r0) {p N g b : Nat} (hp : p < 4) (hN : r (9 + 165 * p) = N) (hN0 : r0 (9 + 165 * p) = N) (hg : g ≤ b) (hb : b < N) {sp : Nat → Bool} {ρ : Mem} (he : envR r r0 p N sp ρ) (h5 : ∀ c, b < c → c < N → EB N (pkn r0 p 3) (r 4) (tnB (r (8 + 165 * p)).toNat) sp ρ (g + 1) c) : ∃ ρ', X11_findFrom ρ p g b = some ρ' ∧ (∀ q, q < 121 ∨ 125 < q → ρ' q = ρ q) ∧ (∀ q j, j ≠ 41 * g + b → ρ' q j = ρ q j) ∧ EB N (pkn r0 p 3) (r 4) (tnB (r (8 + 165 * p)).toNat) sp ρ' g b := by
  have h40 := hw.bars hp
  have g1 : ∀ q j, j ≠ 41 * g + b → st ρ 124 (41 * g + b) (-1) q j = ρ q j := fun q j hj => by
    unfold st
    rw [if_neg (fun c => hj c.2)]
  obtain ⟨ρ', t1, t2, t3, t4⟩ := m_fromK hw hw0 hp hN hN0 hg hb (N - b) b 5000 (st ρ 124 (41 * g + b) (-1)) none 0 (by omega) (by omega) (by omega) (he.frame (fun q hq => st_ne (by omega))) (fun c c1 c2 => (h5 c c1 c2).frame (fun q => g1 q _ (by omega))) (by show st ρ 124 (41 * g + b) (-1) 124 (41 * g + b) = -1; exact st_at _ _ _ _) (by rw [Nat.sub_self]; rfl) (fun w v h => by cases h)
  refine ⟨ρ', ?_, fun q hq => by rw [t2 q hq, st_ne (by omega)], fun q j hj => by rw [t3 q j hj, g1 q j hj], t4⟩
  unfold X11_findFrom
  rw [bdk (mbarsN hp), he.1, hN, lt_v, show 41 * (g : Int) + b = ((41 * g + b : Nat) : Int) by omega, ag_nat (by omega) (by decide), lt_v]
  exact t1
theorem m_layB {r r0 : Nat → Int} (hw : WF r) (hw0 : WF r0) {p N g : Nat} (hp : p < 4) (hN : r (9 + 165 * p) = N) (hN0 : r0 (9 + 165 * p) = N) (hg : g < N) {sp : Nat → Bool} (rec : Mem → Int → Int → Int → Option (Int × Mem)) : ∀ (n f : Nat) (ρ : Mem), g + n ≤ N → n < f → envR r r0 p N sp ρ → (∀ a c, g < a → a ≤ c → c < N → EB N (pkn r0 p 3) (r 4) (tnB (r (8 + 165 * p)).toNat) sp ρ a c) → (∀ c, g + n ≤ c → c < N → EB N (pkn r0 p 3) (r 4) (tnB (r (8 + 165 * p)).toNat) sp ρ g c) → ∃ ρ', X11_lays_L30 rec f ρ p N g ((g : Int) + n - 1) = rec ρ' p N ((g : Int) + -1) ∧ (∀ q, q < 121 ∨ 125 < q → ρ' q = ρ q) ∧ ∀ a c, g ≤ a → a ≤ c → c < N → EB N (pkn r0 p 3) (r 4) (tnB (r (8 + 165 * p)).toNat) sp ρ' a c := by
  have h40 := hw.bars hp
  intro n
  induction n with
  | zero =>
    intro f ρ h1 h2 h3 h4 h5
    obtain ⟨f, rfl⟩ : ∃ x, f = x + 1 := ⟨f - 1, by omega⟩
    refine ⟨ρ, ?_, fun _ _ => rfl, fun a c a1 a2 a3 => ?_⟩
    · show X11_lays_B30 _ _ _ _ _ _ _ = _
      unfold X11_lays_B30
      rw [if_pos (by first | omega | (unfold w32; omega)), lt_v]
    · by_cases hag : a = g
      · rw [hag]; exact h5 c (by omega) a3
      · exact h4 a c (by omega) a2 a3
  | succ n ih =>
    intro f ρ h1 h2 h3 h4 h5
    obtain ⟨f, rfl⟩ : ∃ x, f = x + 1 := ⟨f - 1, by omega⟩
    obtain ⟨ρ1, t1, t2, t3, t4⟩ := m_findFrom hw hw0 (g := g) (b := g + n) hp hN hN0 (by omega) (by omega) h3 (fun c c1 c2 => h4 (g + 1) c (by omega) (by omega) c2)
    obtain ⟨ρ2, u1, u2, u3⟩ := ih f ρ1 (by omega) (by omega) (h3.frame (fun q hq => t2 q (by omega))) (fun a c a1 a2 a3 => (h4 a c a1 a2 a3).frame (fun q => t3 q _ (by omega))) (fun c c1 c2 => by
      by_cases hc : c = g + n
      · rw [hc]; exact t4
      · exact (h5 c (by omega) c2).frame (fun q => t3 q _ (by omega)))
    refine ⟨ρ2, ?_, fun q hq => by rw [u2 q hq, t2 q hq], u3⟩
    show X11_lays_B30 _ _ _ _ _ _ _ = _
    unfold X11_lays_B30
    rw [show (g : Int) + ((n + 1 : Nat) : Int) - 1 = ((g + n : Nat) : Int) by omega, if_neg (by first | omega | (unfold w32; omega)), bdk t1, lt_v, show ((g + n : Nat) : Int) + -1 = (g : Int) + n - 1 by omega]
    exact u1
theorem m_layG {r r0 : Nat → Int} (hw : WF r) (hw0 : WF r0) {p N : Nat} (hp : p < 4) (hN : r (9 + 165 * p) = N) (hN0 : r0 (9 + 165 * p) = N) (hNp : 0 < N) {sp : Nat → Bool} : ∀ (n f : Nat) (ρ : Mem), n ≤ N → n < f → envR r r0 p N sp ρ → (∀ a c, n ≤ a → a ≤ c → c < N → EB N (pkn r0 p 3) (r 4) (tnB (r (8 + 165 * p)).toNat) sp ρ a c) → ∃ ρ', X11_lays_L21 f ρ p N ((n : Int) - 1) = some (if bW N (pkn r0 p 3) (r 4) (tnB (r (8 + 165 * p)).toNat) sp 0 0 = none then 0 else 1, ρ') ∧ (∀ q, q < 121 ∨ 125 < q → ρ' q = ρ q) ∧ ∀ a c, a ≤ c → c < N → EB N (pkn r0 p 3) (r 4) (tnB (r (8 + 165 * p)).toNat) sp ρ' a c := by
  have h40 := hw.bars hp
  intro n
  induction n with
  | zero =>
    intro f ρ h1 h2 h3 h4
    obtain ⟨f, rfl⟩ : ∃ x, f = x + 1 := ⟨f - 1, by omega⟩
    refine ⟨ρ, ?_, fun _ _ => rfl, fun a c a1 a2 => h4 a c (by omega) a1 a2⟩
    show X11_lays_B21 _ _ _ _ _ = _
    unfold X11_lays_B21
    rw [if_pos (by first | omega | (unfold w32; omega)), ag_ok (by omega) (by omega) (by decide), show (0 : Int).toNat = 41 * 0 + 0 from rfl]
    obtain ⟨z, e1, e2⟩ := h4 0 0 (by omega) (by omega) hNp
    have i0 := okN_bW (pk := pkn r0 p 3) (pp := r 4) (tn := tnB (r (8 + 165 * p)).toNat) (sp := sp) (fun b k _ h => bnd_pkn hw0 hp (by omega) 3 (by omega)) hw.page (by omega) 0 0 hNp
    cases hu : bW N (pkn r0 p 3) (r 4) (tnB (r (8 + 165 * p)).toNat) sp 0 0 with
    | none =>
      rw [hu] at e1
      have e : ρ 124 (41 * 0 + 0) = -1 := e1
      rw [e, if_pos (by decide), if_pos rfl]
    | some u =>
      rw [hu] at e1
      have i1 := i0 u hu
      rw [e1.2.2.2.1, if_neg (by first | omega | (unfold w32; omega)), if_neg (by simp)]
  | succ n ih =>
    intro f ρ h1 h2 h3 h4
    obtain ⟨f, rfl⟩ : ∃ x, f = x + 1 := ⟨f - 1, by omega⟩
    obtain ⟨ρ1, t1, t2, t3⟩ := m_layB hw hw0 (g := n) hp hN hN0 (by omega) (X11_lays_L21 f) (N - n) 5000 ρ (by omega) (by omega) h3 (fun a c a1 a2 a3 => h4 a c (by omega) a2 a3) (fun c c1 c2 => by omega)
    obtain ⟨ρ2, u1, u2, u3⟩ := ih f ρ1 (by omega) (by omega) (h3.frame (fun q hq => t2 q (by omega))) t3
    refine ⟨ρ2, ?_, fun q hq => by rw [u2 q hq, t2 q hq], u3⟩
    show X11_lays_B21 _ _ _ _ _ = _
    unfold X11_lays_B21
    rw [show ((n + 1 : Nat) : Int) - 1 = (n : Int) by omega, if_neg (by first | omega | (unfold w32; omega)), lt_v]
    rw [show (n : Int) + ((N - n : Nat) : Int) - 1 = (N : Int) - 1 by omega] at t1
    exact t1.trans u1
/-- where a stop is: by the row -/
def spB (r : Nat → Int) (p : Nat) (k : Nat) : Bool := decide (esS r p (r (6 + 165 * p)) k < r 2)
/-- the best laying by the row; pages may come from another row -/
def bL (r r0 : Nat → Int) (p : Nat) (g b : Nat) : Option T4 := bW (r (9 + 165 * p)).toNat (pkn r0 p 3) (r 4) (tnB (r (8 + 165 * p)).toNat) (spB r p) g b
theorem m_lays {r0 : Nat → Int} {p : Nat} (hp : p < 4) {ρ : Mem} (hw : WF (ρ 112)) (hw0 : WF r0) (hN0 : r0 (9 + 165 * p) = ρ 112 (9 + 165 * p)) (hpm : ∀ s, s < 3 → PMs r0 p s ρ) : ∃ ρ', X11_lays ρ p = some (if ρ 112 (9 + 165 * p) = 0 ∨ bL (ρ 112) r0 p 0 0 = none then 0 else 1, ρ') ∧ (∀ q, q < 120 ∨ 125 < q → ρ' q = ρ q) ∧ (∀ k : Nat, (k : Int) < ρ 112 (9 + 165 * p) → ρ' 120 k = if spB (ρ 112) p k = true then 1 else 0) ∧ ∀ a c : Nat, a ≤ c → (c : Int) < ρ 112 (9 + 165 * p) → EB (ρ 112 (9 + 165 * p)).toNat (pkn r0 p 3) (ρ 112 4) (tnB (ρ 112 (8 + 165 * p)).toNat) (spB (ρ 112) p) ρ' a c := by
  have h40 := hw.bars hp
  obtain ⟨N, hN⟩ : ∃ N : Nat, ρ 112 (9 + 165 * p) = N := ⟨(ρ 112 (9 + 165 * p)).toNat, by omega⟩
  unfold X11_lays bL
  rw [bdk (mbarsN hp), hN, Int.toNat_natCast]
  by_cases h0 : N = 0
  · refine ⟨ρ, ?_, fun _ _ => rfl, fun k hk => by omega, fun a c _ hc => by omega⟩
    rw [if_neg (by first | omega | (unfold w32; omega)), if_pos (Or.inl (by omega))]
  · obtain ⟨ρ1, t1, t2, t3⟩ := m_findStops hp hw
    have sp1 : ∀ k, k < N → ρ1 120 k = if spB (ρ 112) p k = true then 1 else 0 := fun k hk => by
      rw [t3 k (by omega)]
      unfold spB
      simp
    obtain ⟨ρ2, u1, u2, u3⟩ := m_layG hw hw0 hp hN (by rw [hN0]; exact hN) (by omega) (sp := spB (ρ 112) p) N 5000 ρ1 (by omega) (by omega) ⟨t2 112 (by omega), fun s b k s1 b1 k1 => by rw [t2 118 (by omega)]; exact hpm s s1 b k b1 (by omega), sp1⟩ (fun a c a1 a2 a3 => by omega)
    refine ⟨ρ2, ?_, fun q hq => by rw [u2 q (by omega), t2 q (by omega)], fun k hk => by rw [u2 120 (by omega)]; exact sp1 k (by omega), fun a c a1 a2 => u3 a c a1 (by omega)⟩
    rw [if_pos (by first | omega | (unfold w32; omega)), bdk t1, lt_v, u1]
    by_cases hb : bW N (pkn r0 p 3) (ρ 112 4) (tnB (ρ 112 (8 + 165 * p)).toNat) (spB (ρ 112) p) 0 0 = none
    · rw [if_pos hb, if_pos (Or.inr hb)]
    · rw [if_neg hb, if_neg (by rintro (c | c); · omega
                                · exact hb c)]
