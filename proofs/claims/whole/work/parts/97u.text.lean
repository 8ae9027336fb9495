/-! whole texts -/
theorem it_cases {B : Nat → Int} {n T : Nat} {τ ρ : Mem} {k d : Nat} (h : PR B n T τ ρ k d) : (kdP B n (tS B n k) = 1 ∧ (∃ c, 0 ≤ c ∧ c ≤ 2 ∧ X8_valueOf τ k = some c ∧ ρ 111 9 = c) ∧ X11_isWord ρ 0 2 = some 1) ∨ (kdP B n (tS B n k) = 2 ∧ X11_isWord ρ 0 2 = some 0) ∨ (noIt B n τ k ∧ X11_isWord ρ 0 2 = some 0 ∧ kdP B n (tS B n k) ≠ 2) := by
  obtain ⟨p1, p2, p3, p4, p5, p6, p7, p8, p9⟩ := id h
  have mw := m_isWord p8 p5 (lo := 0) (hi := 2) (by omega) (by omega)
  by_cases c1 : kdP B n (tS B n k) = 1
  · obtain ⟨c, a1, a2, a3, a4⟩ := wrd_at p6 p2 p8 c1
    have z := mw.2 (by omega) (by omega) c1
    by_cases c2 : c ≤ 2
    · rw [if_pos (by omega)] at z
      exact Or.inl ⟨c1, ⟨c, a2, c2, a1, by omega⟩, z⟩
    · rw [if_neg (by omega)] at z
      exact Or.inr (Or.inr ⟨⟨by omega, fun _ => ⟨c, a1, by omega, a3⟩⟩, z, by omega⟩)
  · by_cases c2 : kdP B n (tS B n k) = 2
    · exact Or.inr (Or.inl ⟨c2, mw.1 c1⟩)
    · exact Or.inr (Or.inr ⟨⟨c2, fun x => absurd x c1⟩, mw.1 c1, c2⟩)
theorem bad_L12 {recT : Mem → Option Mem} {ρ : Mem} {f : Nat} (h : ρ 111 11 = 1) : X11_readText_L12 recT (f + 1) ρ = some ρ := by
  show X11_readText_B12 _ _ _ = _
  unfold X11_readText_B12
  rw [bdk ((m_bad h).1 0 2), if_neg (by decide), h, if_pos (by decide)]
theorem OUT.thenT {B : Nat → Int} {n T d : Nat} {τ ρ τ1 ρ1 ρ2 : Mem} {bare : Int} {step k k1 step1 : Nat} (h1 : X9_findFault_L31 (5000 - step) τ bare step = X9_findFault_L31 (5000 - step1) τ1 0 step1) (hk : k ≤ k1) (f1 : FR τ τ1 ρ ρ1) (s1 : ∀ i, i < d → τ1 48 i = τ 48 i ∧ τ1 49 i = τ 49 i) (o1 : τ 41 4 = 1 → τ1 41 4 = 1) (r1 : ρ 111 13 ≤ ρ1 111 13) (h2 : OUTT B n T d τ1 ρ1 0 step1 k1 ρ2) : OUTT B n T d τ ρ bare step k ρ2 := by
  rcases h2 with ⟨τ', k', a1, a2, a3, a4, a5⟩ | ⟨τ', k', step', a1, a2, a3, a4, a5, a6, a7, a8, a9⟩
  · exact Or.inl ⟨τ', k', h1.trans a1, a2, a3, a4, f1.trans a5⟩
  · exact Or.inr ⟨τ', k', step', h1.trans a1, a2, by omega, a4, a5, f1.trans a6, fun i hi => ⟨by rw [(a7 i hi).1, (s1 i hi).1], by rw [(a7 i hi).2, (s1 i hi).2]⟩, fun x => a8 (o1 x), by omega⟩
theorem text_main {B : Nat → Int} {n T : Nat} (D d : Nat) (hd : d ≤ 4) (ih : ∀ (τ ρ : Mem) (k step : Nat), d < 4 → PR B n T τ ρ k (d + 1) → step ≤ k → ∃ ρ', X11_readTextD (D + 1) ρ = some ρ' ∧ OUTT B n T (d + 1) τ ρ 1 step k ρ') (hD : 6 ≤ d + (D + 2)) : ∀ (τ ρ : Mem) (k step : Nat), PR B n T τ ρ k d → step ≤ k → ∃ ρ', X11_readTextD (D + 2) ρ = some ρ' ∧ OUTT B n T d τ ρ 1 step k ρ' := by
  have loop : ∀ (j k f : Nat) (τ ρ : Mem) (step : Nat), T - k ≤ j → j < f → PR B n T τ ρ k d → step ≤ k → ∃ ρ', X11_readText_L12 (X11_readTextD (D + 1)) f ρ = some ρ' ∧ OUTT B n T d τ ρ 0 step k ρ' := by
    intro j
    induction j using Nat.strongRecOn with
    | ind j ihj =>
      intro k f τ ρ step h1 h2 hP hs
      obtain ⟨f, rfl⟩ : ∃ x, f = x + 1 := ⟨f - 1, by omega⟩
      have p5 := hP.2.2.2.2.1
      have p8 := hP.2.2.2.2.2.2.2.1
      have p2 := hP.2.1
      have cont : ∀ ρ1, X11_readItem (X11_readTextD (D + 1)) ρ = some ρ1 → OUT B n T d τ ρ 0 step k ρ1 → X11_readText_L12 (X11_readTextD (D + 1)) (f + 1) ρ = X11_readText_L12 (X11_readTextD (D + 1)) f ρ1 → k < T → ∃ ρ', X11_readText_L12 (X11_readTextD (D + 1)) (f + 1) ρ = some ρ' ∧ OUTT B n T d τ ρ 0 step k ρ' := by
        intro ρ1 hi ho he hkT
        obtain ⟨f, rfl⟩ : ∃ x, f = x + 1 := ⟨f - 1, by omega⟩
        rcases ho with ⟨τ', k', a1, a2, a3, a4, a5⟩ | ⟨τ', k', step', a1, a2, a3, a4, a5, a6, a7, a8⟩
        · exact ⟨ρ1, he.trans (bad_L12 a3), Or.inl ⟨τ', k', a1, a2, a3, a4, a5⟩⟩
        · obtain ⟨ρ', b1, b2⟩ := ihj (T - k') (by have := a4.2.1; omega) k' (f + 1) τ' ρ1 step' (Nat.le_refl _) (by omega) a4 a2
          exact ⟨ρ', he.trans b1, OUT.thenT a1 (by omega) a5 a6 a7 a8 b2⟩
      rcases it_cases hP with ⟨k1, ⟨c, c1, c2, c3, c4⟩, w⟩ | ⟨k2, w⟩ | ⟨hno, w, k2⟩
      · obtain ⟨ρ1, i1, i2⟩ := item_bar (bare := 0) hP hs k1 ⟨c1, c2⟩ c3 c4 (X11_readTextD (D + 1))
        refine cont ρ1 i1 i2 ?_ (hP.2.2.2.2.2.1.lt p2 (by omega))
        show X11_readText_B12 _ _ _ = _
        unfold X11_readText_B12 X11_readText_B36
        rw [bdk w, if_pos (by decide), bdk i1]
      · obtain ⟨ρ1, i1, i2⟩ := item_times (bare := 0) hP hd hD hs k2 ih
        refine cont ρ1 i1 i2 ?_ (hP.2.2.2.2.2.1.lt p2 (by omega))
        show X11_readText_B12 _ _ _ = _
        unfold X11_readText_B12 X11_readText_B36
        rw [bdk w, if_neg (by decide), p5, if_neg (by decide), p8.2.2.1, k2, if_neg (by decide), bdk i1]
      · have hki := kdP_in (B := B) (n := n) (s := tS B n k)
        refine ⟨ρ, ?_, Or.inr ⟨τ, k, step, rfl, hs, Nat.le_refl _, hP, hno, FR.refl _ _, fun _ _ => ⟨rfl, rfl⟩, fun x => x, Int.le_refl _⟩⟩
        show X11_readText_B12 _ _ _ = _
        unfold X11_readText_B12
        rw [bdk w, if_neg (by decide), p5, if_neg (by decide), p8.2.2.1, if_pos (by rw [w32_id (by omega) (by omega)]; exact k2)]
  intro τ ρ k step hP hs
  have p5 := hP.2.2.2.2.1
  have p8 := hP.2.2.2.2.2.2.2.1
  have p2 := hP.2.1
  have tk := hP.2.2.2.2.2.1
  have hn := tk.2.2.1
  have hTn := tk.2.1
  have etxt : ∀ ρ1, X11_readItem (X11_readTextD (D + 1)) ρ = some ρ1 → X11_readTextD (D + 2) ρ = X11_readText_L12 (X11_readTextD (D + 1)) 5000 ρ1 := fun ρ1 hi => by
    show X11_readText _ _ = _
    unfold X11_readText
    rw [p5, if_pos (by decide), bdk hi]
  have cont : ∀ ρ1, X11_readItem (X11_readTextD (D + 1)) ρ = some ρ1 → OUT B n T d τ ρ 1 step k ρ1 → ∃ ρ', X11_readTextD (D + 2) ρ = some ρ' ∧ OUTT B n T d τ ρ 1 step k ρ' := by
    intro ρ1 hi ho
    rcases ho with ⟨τ', k', a1, a2, a3, a4, a5⟩ | ⟨τ', k', step', a1, a2, a3, a4, a5, a6, a7, a8⟩
    · exact ⟨ρ1, (etxt ρ1 hi).trans (bad_L12 (f := 4999) a3), Or.inl ⟨τ', k', a1, a2, a3, a4, a5⟩⟩
    · obtain ⟨ρ', b1, b2⟩ := loop (T - k') k' 5000 τ' ρ1 step' (Nat.le_refl _) (by omega) a4 a2
      exact ⟨ρ', (etxt ρ1 hi).trans b1, OUT.thenT a1 (by omega) a5 a6 a7 a8 b2⟩
  rcases it_cases hP with ⟨k1, ⟨c, c1, c2, c3, c4⟩, w⟩ | ⟨k2, w⟩ | ⟨hno, w, k2⟩
  · obtain ⟨ρ1, i1, i2⟩ := item_bar (bare := 1) hP hs k1 ⟨c1, c2⟩ c3 c4 (X11_readTextD (D + 1))
    exact cont ρ1 i1 i2
  · obtain ⟨ρ1, i1, i2⟩ := item_times (bare := 1) hP hd hD hs k2 ih
    exact cont ρ1 i1 i2
  · have hki := kdP_in (B := B) (n := n) (s := tS B n k)
    have i1 : X11_readItem (X11_readTextD (D + 1)) ρ = some (st ρ 111 11 1) := by
      unfold X11_readItem
      rw [bdk w, if_pos (by decide), p5, if_neg (by decide), p8.2.2.1, if_pos (by rw [w32_id (by omega) (by omega)]; exact k2), lt_v]
    refine ⟨st ρ 111 11 1, (etxt _ i1).trans (bad_L12 (f := 4999) (st_at _ _ _ _)), Or.inl ⟨τ, k, c_fault tk p2 hP.1 hs hno (fun _ => by decide) (fun _ => Or.inr (by decide)), p2, st_at _ _ _ _, by rw [st_self, up_ne (by omega)]; exact p8.1, ⟨fun _ _ _ _ _ => rfl, fun q q1 _ => st_ne q1, fun j hj => by rw [st_self, up_ne (by omega)]⟩⟩⟩
theorem text_sim {B : Nat → Int} {n T : Nat} : ∀ (e d m : Nat), d + e = 4 → e + 2 ≤ m → ∀ (τ ρ : Mem) (k step : Nat), PR B n T τ ρ k d → step ≤ k → ∃ ρ', X11_readTextD m ρ = some ρ' ∧ OUTT B n T d τ ρ 1 step k ρ' := by
  intro e
  induction e with
  | zero =>
    intro d m hd hm
    obtain ⟨D, rfl⟩ : ∃ D, m = D + 2 := ⟨m - 2, by omega⟩
    exact text_main D d (by omega) (fun τ ρ k step hd4 => by omega) (by omega)
  | succ e ihe =>
    intro d m hd hm
    obtain ⟨D, rfl⟩ : ∃ D, m = D + 2 := ⟨m - 2, by omega⟩
    exact text_main D d (by omega) (fun τ ρ k step _ hP hs => ihe (d + 1) (D + 1) (by omega) (by omega) τ ρ k step hP hs) (by omega)
