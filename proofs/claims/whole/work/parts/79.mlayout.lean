/-! the reference lays out -/
theorem m_linesL {r : Nat → Int} (hw : WF r) {p s : Nat} (hp : p < 4) (hs : s < 3) {e i M : Nat} (he : (e : Int) < r (9 + 165 * p)) (hi : i < 40) (hM : M ≤ 6) : ∀ (L b f cnt c0 : Nat) (v : Int) (ρ : Mem), e + 1 - b < f → L ≤ M → b ≤ e + 1 → cnt ≤ b → (b ≤ e → tl r p s e L b = some v) → ρ 111 24 = cnt → ρ 129 i = c0 → LM r p s ρ → (∀ m, m ≤ M → TM r p s e ρ m) → ∃ ρ', X11_layLines_L66 f ρ i s e b L v = some ρ' ∧ (∀ q, q ≠ 111 → q ≠ 129 → q ≠ 132 → ρ' q = ρ q) ∧ (∀ j, j ≠ 24 → ρ' 111 j = ρ 111 j) ∧ (∀ j, j ≠ i → ρ' 129 j = ρ 129 j) ∧ ρ' 111 24 = ((cnt + (lns r p s e L b).length : Nat) : Int) ∧ ρ' 129 i = ((c0 + (lns r p s e L b).length : Nat) : Int) ∧ (∀ j, j < cnt → ρ' 132 j = ρ 132 j) ∧ ∀ j, j < (lns r p s e L b).length → ρ' 132 (cnt + j) = (((lns r p s e L b).getD j 0 : Nat) : Int) := by
  have h40 := hw.bars hp
  intro L
  induction L with
  | zero =>
    intro b f cnt c0 v ρ h1 h2 h3 h4 h5 h6 h7 h8 h9
    obtain ⟨f, rfl⟩ : ∃ x, f = x + 1 := ⟨f - 1, by omega⟩
    have hb : ¬ b ≤ e := fun hb => by
      have := h5 hb
      unfold tl at this
      rw [if_neg (by omega)] at this
      cases this
    refine ⟨ρ, ?_, fun _ _ _ _ => rfl, fun _ _ => rfl, fun _ _ => rfl, h6, h7, fun _ _ => rfl, fun j hj => absurd hj (Nat.not_lt_zero _)⟩
    show X11_layLines_B66 _ _ _ _ _ _ _ _ = _
    unfold X11_layLines_B66
    rw [if_pos (by first | omega | (unfold w32; omega))]
  | succ L ih =>
    intro b f cnt c0 v ρ h1 h2 h3 h4 h5 h6 h7 h8 h9
    obtain ⟨f, rfl⟩ : ∃ x, f = x + 1 := ⟨f - 1, by omega⟩
    by_cases hb : b ≤ e
    · have hv := h5 hb
      have hne : tl r p s e (L + 1) b ≠ none := by rw [hv]; simp
      have hk := fle_in (r := r) (p := p) (s := s) (L := L) hb
      have hq := fle_eq hb hne
      have hn1 : b + (e - b) = e := by omega
      have hn2 : e - b < 5000 := by omega
      obtain ⟨x, x1, x2⟩ := m_seek hw hp hs (b := b) (e := e) (l := L) (i := i) (cnt := cnt) (c0 := (c0 : Int)) (v := v) he (by omega) h8 (h9 L (by omega)) hv h6 (by omega) hi h7 (X11_layLines_L66 f) (e - b) b 5000 hn1 hn2 (Nat.le_refl b) (fle_ex hb hne)
      have hfl : fnd1 (fun k => decide (oad (lnc r p s b k) (tl r p s e L (k + 1)) = tl r p s e (L + 1) b)) (e - b) b = fle r p s e L b := rfl
      rw [hfl] at x1 x2
      rw [x1, hv] at hq
      obtain ⟨x', y, e1, e2, e3⟩ := oad_some hq
      have hxx : x' = x := (Option.some.inj e1).symm
      have g111 : st (st (st ρ 132 cnt ((fle r p s e L b : Nat) : Int)) 111 24 ((cnt : Int) + 1)) 129 i ((c0 : Int) + 1) 111 = up (ρ 111) 24 ((cnt : Int) + 1) := by rw [st_ne (by omega), st_self, st_ne (by omega)]
      have g129 : st (st (st ρ 132 cnt ((fle r p s e L b : Nat) : Int)) 111 24 ((cnt : Int) + 1)) 129 i ((c0 : Int) + 1) 129 = up (ρ 129) i ((c0 : Int) + 1) := by rw [st_self, st_ne (by omega), st_ne (by omega)]
      have g132 : st (st (st ρ 132 cnt ((fle r p s e L b : Nat) : Int)) 111 24 ((cnt : Int) + 1)) 129 i ((c0 : Int) + 1) 132 = up (ρ 132) cnt ((fle r p s e L b : Nat) : Int) := by rw [st_ne (by omega), st_ne (by omega), st_self]
      have gq : ∀ q, q ≠ 111 → q ≠ 129 → q ≠ 132 → st (st (st ρ 132 cnt ((fle r p s e L b : Nat) : Int)) 111 24 ((cnt : Int) + 1)) 129 i ((c0 : Int) + 1) q = ρ q := fun q q1 q2 q3 => by rw [st_ne q2, st_ne q1, st_ne q3]
      obtain ⟨ρ2, u1, u2, u3, u4, u5, u6, u7, u8⟩ := ih (fle r p s e L b + 1) f (cnt + 1) (c0 + 1) (v - x) (st (st (st ρ 132 cnt ((fle r p s e L b : Nat) : Int)) 111 24 ((cnt : Int) + 1)) 129 i ((c0 : Int) + 1)) (by omega) (by omega) (by omega) (by omega) (fun _ => by rw [e2, show y = v - x by omega]) (by rw [g111, up_at]; rfl) (by rw [g129, up_at]; rfl) (fun a ha => (h8 a ha).frame (fun k _ => by rw [gq 117 (by omega) (by omega) (by omega)]) (by omega)) (fun m hm j hj => by rw [gq 119 (by omega) (by omega) (by omega)]; exact h9 m hm j hj)
      have hl : lns r p s e (L + 1) b = fle r p s e L b :: lns r p s e L (fle r p s e L b + 1) := if_pos hb
      refine ⟨ρ2, ?_, fun q q1 q2 q3 => by rw [u2 q q1 q2 q3, gq q q1 q2 q3], fun j hj => by rw [u3 j hj, g111, up_ne hj], fun j hj => by rw [u4 j hj, g129, up_ne hj], ?_, ?_, fun j hj => by rw [u7 j (by omega), g132, up_ne (by omega)], fun j hj => ?_⟩
      · show X11_layLines_B66 _ _ _ _ _ _ _ _ = _
        unfold X11_layLines_B66
        rw [if_neg (by first | omega | (unfold w32; omega))]
        exact x2.trans u1
      · rw [u5, hl, List.length_cons]; omega
      · rw [u6, hl, List.length_cons]; omega
      · rw [hl] at hj ⊢
        rw [List.length_cons] at hj
        cases j with
        | zero =>
          rw [show cnt + 0 = cnt from rfl, u7 cnt (by omega), g132, up_at]
          rfl
        | succ j =>
          rw [show cnt + (j + 1) = cnt + 1 + j by omega, u8 j (by omega)]
          rfl
    · have hl : lns r p s e (L + 1) b = [] := if_neg hb
      refine ⟨ρ, ?_, fun _ _ _ _ => rfl, fun _ _ => rfl, fun _ _ => rfl, by rw [hl]; exact h6, by rw [hl]; exact h7, fun _ _ => rfl, fun j hj => by rw [hl] at hj; exact absurd hj (Nat.not_lt_zero _)⟩
      show X11_layLines_B66 _ _ _ _ _ _ _ _ = _
      unfold X11_layLines_B66
      rw [if_pos (by first | omega | (unfold w32; omega))]
def LYm (r : Nat → Int) (p : Nat) (ρ : Mem) (i : Nat) : Prop :=
  (ρ 111 23 = i ∧ ρ 111 24 = ((lle r p i).length : Int) ∧ ρ 111 25 = tro r p i) ∧
  (∀ j, j < i → ρ 126 j = ps r p j ∧ ρ 127 j = pz r p j ∧ ρ 128 j = pkv r p j % 4 ∧ ρ 129 j = ((pln r p j).length : Int) ∧ ρ 130 j = pkv r p j / 4 ∧ ρ 131 j = tk r p j) ∧
  ∀ j, j < (lle r p i).length → ρ 132 j = ((lle r p i).getD j 0 : Nat)
theorem m_layLines {r : Nat → Int} (hw : WF r) {p : Nat} (hp : p < 4) {i : Nat} (hi : i < nPg r p) {ρ : Mem} (h112 : ρ 112 = r) (hL : ∀ s, s < 3 → LM r p s ρ) (h126 : ρ 126 i = ps r p i) (h127 : ρ 127 i = pz r p i) (h128 : ρ 128 i = pkv r p i % 4) {cnt : Nat} (h24 : ρ 111 24 = cnt) (hcnt : cnt ≤ ps r p i) : ∃ ρ', X11_layLines ρ i = some ρ' ∧ (∀ q, q ≠ 111 → q ≠ 119 → q ≠ 129 → q ≠ 130 → q ≠ 132 → ρ' q = ρ q) ∧ (∀ j, j ≠ 24 → ρ' 111 j = ρ 111 j) ∧ (∀ j, j ≠ i → ρ' 129 j = ρ 129 j ∧ ρ' 130 j = ρ 130 j) ∧ ρ' 111 24 = ((cnt + (pln r p i).length : Nat) : Int) ∧ ρ' 129 i = ((pln r p i).length : Int) ∧ ρ' 130 i = pkv r p i / 4 ∧ (∀ j, j < cnt → ρ' 132 j = ρ 132 j) ∧ ∀ j, j < (pln r p i).length → ρ' 132 (cnt + j) = (((pln r p i).getD j 0 : Nat) : Int) := by
  have h40 := hw.bars hp
  have h6 := hw.lines
  obtain ⟨L, hL1⟩ : ∃ L : Nat, r 1 = L := ⟨(r 1).toNat, by omega⟩
  obtain ⟨f1, f2, f3, f4, ⟨w, f5, f5'⟩, f6, f7⟩ := pgf hw hp hi
  obtain ⟨s, hs⟩ : ∃ s : Nat, pkv r p i % 4 = s := ⟨(pkv r p i % 4).toNat, by omega⟩
  have hs3 : s < 3 := by omega
  have hgc : tl r p s (pz r p i) L (ps r p i) = some (pkv r p i / 4) := by
    have := f7
    unfold pgc at this
    rw [hL1, Int.toNat_natCast, hs, Int.toNat_natCast] at this
    exact this
  have hpl : pln r p i = lns r p s (pz r p i) L (ps r p i) := by unfold pln; rw [hL1, Int.toNat_natCast, hs]
  rw [hpl]
  obtain ⟨ρ1, t1, t2, t3⟩ := m_findTails (p := p) (s := s) (e := pz r p i) (ρ := ρ) hp hs3 (by rw [h112]; exact hw) (by rw [h112]; omega) (by rw [h112]; exact hL s hs3)
  rw [h112] at t3
  have eL : ρ1 112 (1 : Int).toNat = L := by rw [t2 112 (by omega), h112]; exact hL1
  have ew : ρ1 119 (41 * (L : Int) + ps r p i).toNat = pkv r p i / 4 := by
    rw [show (41 * (L : Int) + ps r p i).toNat = 41 * L + ps r p i by omega, t3 L (by omega) (ps r p i) (by omega), hgc]
    rfl
  have g0 : ∀ q, q ≠ 129 → q ≠ 130 → st (st ρ1 130 i (pkv r p i / 4)) 129 i 0 q = ρ1 q := fun q q1 q2 => by rw [st_ne q1, st_ne q2]
  have hn : pz r p i + 1 - ps r p i < 5000 := by omega
  obtain ⟨ρ2, u1, u2, u3, u4, u5, u6, u7, u8⟩ := m_linesL hw hp hs3 (e := pz r p i) (i := i) (M := L) (by omega) (by omega) (by omega) L (ps r p i) 5000 cnt 0 (pkv r p i / 4) (st (st ρ1 130 i (pkv r p i / 4)) 129 i 0) hn (by omega) (by omega) hcnt (fun _ => hgc) (by rw [g0 111 (by omega) (by omega), t2 111 (by omega)]; exact h24) (by rw [st_at]; rfl) (fun a ha => ((hL s hs3) a ha).frame (fun k _ => by rw [g0 117 (by omega) (by omega), t2 117 (by omega)]) (by omega)) (fun m hm j hj => by rw [g0 119 (by omega) (by omega)]; exact t3 m (by omega) j hj)
  refine ⟨ρ2, ?_, fun q q1 q2 q3 q4 q5 => by rw [u2 q q1 q3 q5, g0 q q3 q4, t2 q q2], fun j hj => by rw [u3 j hj, g0 111 (by omega) (by omega), t2 111 (by omega)], fun j hj => ⟨by rw [u4 j hj, st_self, up_ne hj, st_ne (by omega), t2 129 (by omega)], by rw [u2 130 (by omega) (by omega) (by omega), st_ne (by omega), st_self, up_ne hj, t2 130 (by omega)]⟩, u5, by rw [u6, Nat.zero_add], by rw [u2 130 (by omega) (by omega) (by omega), st_ne (by omega), st_at], fun j hj => by rw [u7 j hj, g0 132 (by omega) (by omega), t2 132 (by omega)], u8⟩
  unfold X11_layLines
  rw [ag_nat (by omega) (by decide), lt_v, h128, hs, ag_nat (by omega) (by decide), lt_v, h127, ag_nat (by omega) (by decide), lt_v, h126, bdk t1, ag_ok (by omega) (by omega) (by decide), lt_v, eL, ag_ok (by omega) (by omega) (by decide), lt_v, ew, ag_nat (by omega) (by decide), lt_v, ag_nat (by omega) (by decide), lt_v]
  exact u1
