/-! the reference lays -/
section
variable {N : Nat} {pk : Nat → Nat → Option Int} {pp : Int} {tn sp : Nat → Bool}
def EB (N : Nat) (pk : Nat → Nat → Option Int) (pp : Int) (tn sp : Nat → Bool) (ρ : Mem) (g b : Nat) : Prop := ∃ z, EN ρ (41 * g + b) (bW N pk pp tn sp g b) z ∧ ∀ w v, bW N pk pp tn sp g b = some w → pk b w.2.2.2 = some v → z = v % 4
theorem EN.frame {ρ ρ' : Mem} {x : Nat} {o : Option T4} {z : Int} (h : EN ρ x o z) (hf : ∀ q, ρ' q x = ρ q x) : EN ρ' x o z := by
  unfold EN at *
  cases o with
  | none => simp only at *; rw [hf]; exact h
  | some w => simp only at *; rw [hf, hf, hf, hf, hf]; exact h
theorem EB.frame {ρ ρ' : Mem} {g b : Nat} (h : EB N pk pp tn sp ρ g b) (hf : ∀ q, ρ' q (41 * g + b) = ρ q (41 * g + b)) : EB N pk pp tn sp ρ' g b := by
  obtain ⟨z, h1, h2⟩ := h
  exact ⟨z, h1.frame hf, h2⟩
theorem okN_bW (hpk : ∀ b k, b ≤ k → k < N → bnd (pk b k)) (hpp : 0 ≤ pp ∧ pp ≤ 999) (hN : N ≤ 40) (g b : Nat) (hb : b < N) : okN (bW N pk pp tn sp g b) := fun w hw => by
  have := bW_in hpk hpp g b 40 g b w (by omega) hw
  obtain ⟨v, u, k, k1, k2, h3, h4, rfl⟩ := bW_sel hb hw
  simp only at *
  omega
end
theorem okN_bfl {f : Nat → Option T4} {n k : Nat} (h : ∀ j, k ≤ j → j < k + n → okN (f j)) : okN (bfl f n k none) := fun w hw => by
  rcases bfl_mem _ _ _ _ hw with h1 | ⟨j, j1, j2, j3⟩
  · cases h1
  · exact h j j1 j2 w j3
theorem bfl_last {f : Nat → Option T4} {n k : Nat} {w : T4} (h : bfl f n k none = some w) (hf : ∀ j w, f j = some w → w.2.2.2 = j) : k ≤ w.2.2.2 ∧ w.2.2.2 < k + n := by
  rcases bfl_mem _ _ _ _ h with h1 | ⟨j, j1, j2, j3⟩
  · cases h1
  · rw [hf j w j3]; exact ⟨j1, j2⟩
def envR (r r0 : Nat → Int) (p N : Nat) (sp : Nat → Bool) (ρ : Mem) : Prop := ρ 112 = r ∧ (∀ s b k : Nat, s < 3 → b ≤ k → k < N → ρ 118 (cel s b k) = eM (pgc r0 p s b k)) ∧ ∀ k, k < N → ρ 120 k = if sp k = true then 1 else 0
theorem envR.frame {r r0 : Nat → Int} {p N : Nat} {sp : Nat → Bool} {ρ ρ' : Mem} (h : envR r r0 p N sp ρ) (hf : ∀ q, q < 121 → ρ' q = ρ q) : envR r r0 p N sp ρ' := ⟨by rw [hf 112 (by omega)]; exact h.1, fun s b k h1 h2 h3 => by rw [hf 118 (by omega)]; exact h.2.1 s b k h1 h2 h3, fun k hk => by rw [hf 120 (by omega)]; exact h.2.2 k hk⟩
theorem m_fromK {r r0 : Nat → Int} (hw : WF r) (hw0 : WF r0) {p N g b : Nat} (hp : p < 4) (hN : r (9 + 165 * p) = N) (hN0 : r0 (9 + 165 * p) = N) (hg : g ≤ b) (hb : b < N) {sp : Nat → Bool} : ∀ (n k f : Nat) (ρ : Mem) (o : Option T4) (z : Int), k + n = N → n < f → b ≤ k → envR r r0 p N sp ρ → (∀ c, b < c → c < N → EB N (pkn r0 p 3) (r 4) (tnB (r (8 + 165 * p)).toNat) sp ρ (g + 1) c) → EN ρ (41 * g + b) o z → o = bfl (fun k => cnd N (pkn r0 p 3) (r 4) (tnB (r (8 + 165 * p)).toNat) sp g b k (bW N (pkn r0 p 3) (r 4) (tnB (r (8 + 165 * p)).toNat) sp (g + 1) (k + 1))) (k - b) b none → (∀ w v, o = some w → pkn r0 p 3 b w.2.2.2 = some v → z = v % 4) → ∃ ρ', X11_findFrom_L26 f ρ p g b N ((41 * g + b : Nat) : Int) k = some ρ' ∧ (∀ q, q < 121 ∨ 125 < q → ρ' q = ρ q) ∧ (∀ q j, j ≠ 41 * g + b → ρ' q j = ρ q j) ∧ EB N (pkn r0 p 3) (r 4) (tnB (r (8 + 165 * p)).toNat) sp ρ' g b := by
  have h40 := hw.bars hp
  have hpp := hw.page
  have hpk : ∀ b k, b ≤ k → k < N → bnd (pkn r0 p 3 b k) := fun b k _ h => bnd_pkn hw0 hp (by omega) 3 (by omega)
  intro n
  induction n with
  | zero =>
    intro k f ρ o z h1 h2 h3 h4 h5 h6 h7 h8
    obtain ⟨f, rfl⟩ : ∃ x, f = x + 1 := ⟨f - 1, by omega⟩
    rw [show k - b = N - b by omega, ← bW_eq hb] at h7
    refine ⟨ρ, ?_, fun _ _ => rfl, fun _ _ _ => rfl, z, by rw [← h7]; exact h6, by rw [← h7]; exact h8⟩
    show X11_findFrom_B26 _ _ _ _ _ _ _ _ = _
    unfold X11_findFrom_B26
    rw [if_pos (by first | omega | (unfold w32; omega))]
  | succ n ih =>
    intro k f ρ o z h1 h2 h3 h4 h5 h6 h7 h8
    obtain ⟨f, rfl⟩ : ∃ x, f = x + 1 := ⟨f - 1, by omega⟩
    have sn : bfl (fun k => cnd N (pkn r0 p 3) (r 4) (tnB (r (8 + 165 * p)).toNat) sp g b k (bW N (pkn r0 p 3) (r 4) (tnB (r (8 + 165 * p)).toNat) sp (g + 1) (k + 1))) (k + 1 - b) b none = bst o (cnd N (pkn r0 p 3) (r 4) (tnB (r (8 + 165 * p)).toNat) sp g b k (bW N (pkn r0 p 3) (r 4) (tnB (r (8 + 165 * p)).toNat) sp (g + 1) (k + 1))) := by
      rw [show k + 1 - b = k - b + 1 by omega, bfl_snoc, show b + (k - b) = k by omega, h7]
    have oo : okN o := by
      rw [h7]
      refine okN_bfl (fun j j1 j2 w hw => ?_)
      obtain ⟨v, u, c1, c2, rfl⟩ := cnd_some hw
      have i1 := bW_in hpk hpp 0 0 40 (g + 1) (j + 1) u (by omega) c2
      have i2 := hpk b j j1 (by omega) v c1
      simp only
      split <;> omega
    have next : ∀ (ρ1 : Mem) (o1 : Option T4) (z1 : Int), (∀ q, q < 121 ∨ 125 < q → ρ1 q = ρ q) → (∀ q j, j ≠ 41 * g + b → ρ1 q j = ρ q j) → EN ρ1 (41 * g + b) o1 z1 → o1 = bst o (cnd N (pkn r0 p 3) (r 4) (tnB (r (8 + 165 * p)).toNat) sp g b k (bW N (pkn r0 p 3) (r 4) (tnB (r (8 + 165 * p)).toNat) sp (g + 1) (k + 1))) → (∀ w v, o1 = some w → pkn r0 p 3 b w.2.2.2 = some v → z1 = v % 4) → ∃ ρ', X11_findFrom_B351 (X11_findFrom_L26 f) ρ1 p g b N ((41 * g + b : Nat) : Int) k = some ρ' ∧ (∀ q, q < 121 ∨ 125 < q → ρ' q = ρ q) ∧ (∀ q j, j ≠ 41 * g + b → ρ' q j = ρ q j) ∧ EB N (pkn r0 p 3) (r 4) (tnB (r (8 + 165 * p)).toNat) sp ρ' g b := by
      intro ρ1 o1 z1 f1 f2 f3 f4 f5
      unfold X11_findFrom_B351
      rw [lt_v]
      obtain ⟨ρ', t1, t2, t3, t4⟩ := ih (k + 1) f ρ1 o1 z1 (by omega) (by omega) (by omega) (h4.frame (fun q hq => f1 q (by omega))) (fun c c1 c2 => (h5 c c1 c2).frame (fun q => f2 q _ (by omega))) f3 (by rw [sn]; exact f4) f5
      exact ⟨ρ', t1, fun q hq => by rw [t2 q hq, f1 q hq], fun q j hj => by rw [t3 q j hj, f2 q j hj], t4⟩
    -- the sizes
    have go : ∀ (u : T4) (l8 stt pg : Int) (y : Nat), bW N (pkn r0 p 3) (r 4) (tnB (r (8 + 165 * p)).toNat) sp (g + 1) (k + 1) = some u → (l8 = 0 ∨ l8 = 1) → (l8 = 0 → ρ 122 y = u.2.1) → (l8 = 1 → u.2.1 = 0) → y < 1681 → y ≠ 41 * g + b → stt = u.1 + (if k + 1 < N ∧ tnB (r (8 + 165 * p)).toNat g = true ∧ sp k = true then 1 else 0) → pg = 1 + u.2.2.1 → ∃ ρ', X11_findFrom_L155 (X11_findFrom_L26 f) 5000 ρ p g b N ((41 * g + b : Nat) : Int) k y l8 stt pg 0 = some ρ' ∧ (∀ q, q < 121 ∨ 125 < q → ρ' q = ρ q) ∧ (∀ q j, j ≠ 41 * g + b → ρ' q j = ρ q j) ∧ EB N (pkn r0 p 3) (r 4) (tnB (r (8 + 165 * p)).toNat) sp ρ' g b := by
      intro u l8 stt pg y hu hl8 h122 hu0 hy hyx hst hpg
      have i1 := bW_in hpk hpp 0 0 40 (g + 1) (k + 1) u (by omega) hu
      obtain ⟨ρ1, o1, z1, t1, t2, t3, t4, t5⟩ := m_sizes hw0 (b := b) (k := k) (x := 41 * g + b) (A := o) (zA := z) (stt := stt) (K := r 4 + u.2.1) (pg := pg) (pp := r 4) hp h3 (by omega) (by omega) hpp oo (by rw [hst]; split <;> omega) (by omega) (X11_findFrom_L26 f) p g N l8 hy (u2 := u.2.1) (by
        rcases hl8 with c | c
        · rw [if_pos c]
        · rw [if_neg (by omega), hu0 c]) hl8 (by omega) hyx 3 0 5000 ρ o z (by omega) (by omega) (by rw [h4.1]) (fun s hs => h4.2.1 s b k hs h3 (by omega)) h122 h6 ⟨rfl, rfl⟩
      have t1' : X11_findFrom_L155 (X11_findFrom_L26 f) 5000 ρ p g b N ((41 * g + b : Nat) : Int) k y l8 stt pg 0 = X11_findFrom_B351 (X11_findFrom_L26 f) ρ1 p g b N ((41 * g + b : Nat) : Int) k := t1
      rw [t1']
      refine next ρ1 o1 z1 t2 t3 t4 ?_ ?_
      · rw [hu]
        cases hv : pkn r0 p 3 b k with
        | none =>
          rw [hv] at t5
          rw [show cnd N (pkn r0 p 3) (r 4) (tnB (r (8 + 165 * p)).toNat) sp g b k (some u) = none by unfold cnd; rw [hv], bst_none]
          exact t5.1
        | some v =>
          rw [hv] at t5
          have ec : cnd N (pkn r0 p 3) (r 4) (tnB (r (8 + 165 * p)).toNat) sp g b k (some u) = some (stt, v / 4 + (r 4 + u.2.1), pg, k) := by
            unfold cnd
            rw [hv, hst, hpg]
            simp only
            rw [Int.add_assoc (v / 4)]
          rw [ec]
          rcases t5 with ⟨d1, d2, d3⟩ | ⟨d1, d2, d3⟩
          · rw [bst_t d1]; exact d2
          · rw [bst_f d1]; exact d2
      · intro w v e1 e2
        cases hv : pkn r0 p 3 b k with
        | none =>
          rw [hv] at t5
          obtain ⟨d1, d2⟩ := t5
          rw [d2]
          exact h8 w v (by rw [← d1]; exact e1) e2
        | some v' =>
          rw [hv] at t5
          rcases t5 with ⟨d1, d2, d3⟩ | ⟨d1, d2, d3⟩
          · rw [d2] at e1
            rw [← Option.some.inj e1] at e2
            simp only at e2
            rw [hv] at e2
            rw [d3, Option.some.inj e2]
          · rw [d3]
            exact h8 w v (by rw [← d2]; exact e1) e2
    show ∃ ρ', X11_findFrom_B26 _ _ _ _ _ _ _ _ = _ ∧ _
    unfold X11_findFrom_B26
    rw [if_neg (by first | omega | (unfold w32; omega)), lt_v]
    have ey : 41 * ((g : Int) + 1) + k + 1 = ((41 * (g + 1) + (k + 1) : Nat) : Int) := by omega
    rw [ey]
    by_cases hk : k + 1 = N
    · rw [if_neg (by first | omega | (unfold w32; omega))]
      unfold X11_findFrom_B60 X11_findFrom_B80 X11_findFrom_B108 X11_findFrom_B109 X11_findFrom_B130 X11_findFrom_B150
      rw [if_pos (by decide), if_pos (by decide), if_neg (by decide), if_neg (by decide)]
      exact go (0, 0, 0, 0) 1 0 1 (41 * (g + 1) + (k + 1)) (bW_end (by omega)) (Or.inr rfl) (fun h => by omega) (fun _ => rfl) (by omega) (by omega) (by rw [if_neg (by omega)]; rfl) rfl
    · rw [if_pos (by first | omega | (unfold w32; omega))]
      obtain ⟨zy, y1, y2⟩ := h5 (k + 1) (by omega) (by omega)
      have i0 := okN_bW (tn := tnB (r (8 + 165 * p)).toNat) (sp := sp) hpk hpp (by omega) (g + 1) (k + 1) (by omega)
      unfold X11_findFrom_B60
      rw [if_neg (by decide), ag_nat (by omega) (by decide)]
      cases hu : bW N (pkn r0 p 3) (r 4) (tnB (r (8 + 165 * p)).toNat) sp (g + 1) (k + 1) with
      | none =>
        rw [hu] at y1
        have e124 : ρ 124 (41 * (g + 1) + (k + 1)) = -1 := y1
        rw [e124, if_neg (by decide)]
        refine next ρ o z (fun _ _ => rfl) (fun _ _ _ => rfl) h6 ?_ h8
        rw [hu, show cnd N (pkn r0 p 3) (r 4) (tnB (r (8 + 165 * p)).toNat) sp g b k none = none by unfold cnd; split <;> first | rfl | (rename_i h; cases h), bst_none]
      | some u =>
        rw [hu] at y1
        obtain ⟨e1, e2, e3, e4, e5⟩ := y1
        have i1 := bW_in hpk hpp 0 0 40 (g + 1) (k + 1) u (by omega) hu
        have i2 := i0 u hu
        rw [e4, if_pos (by first | omega | (unfold w32; omega))]
        have fin : ∀ ov : Int, ov = (if k + 1 < N ∧ tnB (r (8 + 165 * p)).toNat g = true ∧ sp k = true then 1 else 0) → ∃ ρ', X11_findFrom_B109 (X11_findFrom_L26 f) ρ p g b N ((41 * g + b : Nat) : Int) k ((41 * (g + 1) + (k + 1) : Nat) : Int) 0 ov = some ρ' ∧ (∀ q, q < 121 ∨ 125 < q → ρ' q = ρ q) ∧ (∀ q j, j ≠ 41 * g + b → ρ' q j = ρ q j) ∧ EB N (pkn r0 p 3) (r 4) (tnB (r (8 + 165 * p)).toNat) sp ρ' g b := by
          intro ov hov
          unfold X11_findFrom_B109 X11_findFrom_B130 X11_findFrom_B150
          rw [if_pos (by decide), ag_nat (by omega) (by decide), if_pos (by decide), ag_nat (by omega) (by decide), e1, e3]
          exact go u 0 (ov + u.1) (1 + u.2.2.1) (41 * (g + 1) + (k + 1)) hu (Or.inl rfl) (fun _ => e2) (fun h => by omega) (by omega) (by omega) (by rw [hov]; omega) rfl
        have hwr : WF (ρ 112) := by rw [h4.1]; exact hw
        have hit := m_isTurn hwr hp (g := g) (by omega)
        rw [h4.1] at hit
        unfold X11_findFrom_B80 X11_findFrom_B108
        rw [if_neg (by decide), bdk hit]
        by_cases ht : tnB (r (8 + 165 * p)).toNat g = true
        · rw [if_pos ht, if_neg (by decide), ag_nat (by omega) (by decide), h4.2.2 k (by omega)]
          by_cases hs : sp k = true
          · rw [if_pos hs, if_neg (by decide)]
            exact fin 1 (by rw [if_pos ⟨by omega, ht, hs⟩])
          · rw [if_neg hs, if_pos (by decide)]
            exact fin 0 (by rw [if_neg (fun c => hs c.2.2)])
        · rw [if_neg ht, if_pos (by decide)]
          exact fin 0 (by rw [if_neg (fun c => ht c.2.1)])
