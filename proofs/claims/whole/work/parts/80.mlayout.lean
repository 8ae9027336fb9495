/-! the reference lays out: all pages -/
theorem m_layStep {r : Nat → Int} (hw : WF r) {p : Nat} (hp : p < 4) {N i : Nat} (hN : r (9 + 165 * p) = N) (hi : i < nPg r p) {ρ : Mem} (h112 : ρ 112 = r) (hL : ∀ s, s < 3 → LM r p s ρ) (h120 : ∀ k, k < N → ρ 120 k = if spB r p k = true then 1 else 0) (hE : ∀ a c, a ≤ c → c < N → EB N (pkn r p 3) (r 4) (tnB (r (8 + 165 * p)).toNat) (spB r p) ρ a c) (hl : LYm r p ρ i) (rec : Mem → Int → Int → Option (Int × Mem)) : ∃ ρ', X11_laysOut_B32 rec ρ p (ps r p i) = rec ρ' p ((ps r p (i + 1) : Nat) : Int) ∧ (∀ q, q ≠ 111 → q ≠ 119 → q < 126 ∨ 132 < q → ρ' q = ρ q) ∧ (∀ j, j < 23 ∨ 25 < j → ρ' 111 j = ρ 111 j) ∧ LYm r p ρ' (i + 1) := by
  have h40 := hw.bars hp
  obtain ⟨f1, f2, f3, f4, ⟨w, f5, f5'⟩, f6, f7⟩ := pgf hw hp hi
  have hlen := lle_len hw hp i (by omega)
  obtain ⟨⟨l1, l2, l3⟩, l4, l5⟩ := hl
  obtain ⟨z, z1, z2⟩ := hE i (ps r p i) f1 (by omega)
  have hbw : bW N (pkn r p 3) (r 4) (tnB (r (8 + 165 * p)).toNat) (spB r p) i (ps r p i) = some w := by
    have := f5
    unfold bL at this
    rw [hN, Int.toNat_natCast] at this
    exact this
  rw [hbw] at z1
  have e124 : ρ 124 (41 * i + ps r p i) = pz r p i := by rw [z1.2.2.2.1, f5']
  have e125 : ρ 125 (41 * i + ps r p i) = pkv r p i % 4 := by rw [z1.2.2.2.2]; exact z2 w (pkv r p i) hbw (by rw [f5']; exact f4)
  -- behind the turn
  have tail : ∀ (ρ7 : Mem) (t l5v : Int), (∀ q, q ≠ 126 → q ≠ 127 → q ≠ 128 → ρ7 q = ρ q) → ρ7 126 = up (ρ 126) i (ps r p i) → ρ7 127 = up (ρ 127) i (pz r p i) → ρ7 128 = up (ρ 128) i (pkv r p i % 4) → t = tk r p i → (t = 0 ∧ l5v = 0) ∨ (t ≠ 0 ∧ l5v = 1) → ∃ ρ', X11_laysOut_B158 rec ρ7 p (pz r p i) l5v 131 (ρ7 111 23) t = rec ρ' p ((ps r p (i + 1) : Nat) : Int) ∧ (∀ q, q ≠ 111 → q ≠ 119 → q < 126 ∨ 132 < q → ρ' q = ρ q) ∧ (∀ j, j < 23 ∨ 25 < j → ρ' 111 j = ρ 111 j) ∧ LYm r p ρ' (i + 1) := by
    intro ρ7 t l5v a1 a2 a3 a4 a5 a6
    have b23 : ρ7 111 23 = i := by rw [a1 111 (by omega) (by omega) (by omega)]; exact l1
    have fin : ∀ k2 : Int, k2 = (if tk r p i = 0 then 0 else 1) → ∃ ρ', X11_laysOut_B174 rec (st ρ7 131 i t) p (pz r p i) (st ρ7 131 i t 111 25) k2 = rec ρ' p ((ps r p (i + 1) : Nat) : Int) ∧ (∀ q, q ≠ 111 → q ≠ 119 → q < 126 ∨ 132 < q → ρ' q = ρ q) ∧ (∀ j, j < 23 ∨ 25 < j → ρ' 111 j = ρ 111 j) ∧ LYm r p ρ' (i + 1) := by
      intro k2 hk2
      have c25 : st ρ7 131 i t 111 25 = tro r p i := by rw [st_ne (by omega), a1 111 (by omega) (by omega) (by omega)]; exact l3
      have gq : ∀ q, q ≠ 111 → q ≠ 126 → q ≠ 127 → q ≠ 128 → q ≠ 131 → st (st ρ7 131 i t) 111 25 (tro r p i + k2) q = ρ q := fun q q1 q2 q3 q4 q5 => by rw [st_ne q1, st_ne q5, a1 q q2 q3 q4]
      have g111 : st (st ρ7 131 i t) 111 25 (tro r p i + k2) 111 = up (ρ 111) 25 (tro r p i + k2) := by rw [st_self, st_ne (by omega), a1 111 (by omega) (by omega) (by omega)]
      have g126 : st (st ρ7 131 i t) 111 25 (tro r p i + k2) 126 = up (ρ 126) i (ps r p i) := by rw [st_ne (by omega), st_ne (by omega), a2]
      have g127 : st (st ρ7 131 i t) 111 25 (tro r p i + k2) 127 = up (ρ 127) i (pz r p i) := by rw [st_ne (by omega), st_ne (by omega), a3]
      have g128 : st (st ρ7 131 i t) 111 25 (tro r p i + k2) 128 = up (ρ 128) i (pkv r p i % 4) := by rw [st_ne (by omega), st_ne (by omega), a4]
      have g131 : st (st ρ7 131 i t) 111 25 (tro r p i + k2) 131 = up (ρ 131) i t := by rw [st_ne (by omega), st_self, a1 131 (by omega) (by omega) (by omega)]
      obtain ⟨ρ2, u1, u2, u3, u4, u5, u6, u7, u8, u9⟩ := m_layLines hw hp hi (ρ := st (st ρ7 131 i t) 111 25 (tro r p i + k2)) (cnt := (lle r p i).length) (by rw [gq 112 (by omega) (by omega) (by omega) (by omega) (by omega)]; exact h112) (fun s hs a ha => (hL s hs a ha).frame (fun k _ => by rw [gq 117 (by omega) (by omega) (by omega) (by omega) (by omega)]) (by omega)) (by rw [g126, up_at]) (by rw [g127, up_at]) (by rw [g128, up_at]) (by rw [g111, up_ne (by omega)]; exact l2) hlen
      have c23 : st (st ρ7 131 i t) 111 25 (tro r p i + k2) 111 23 = i := by rw [g111, up_ne (by omega)]; exact l1
      have d23 : ρ2 111 23 = i := by rw [u3 23 (by omega)]; exact c23
      have w111 : st ρ2 111 23 ((i : Int) + 1) 111 = up (ρ2 111) 23 ((i : Int) + 1) := st_self _ _ _ _
      have wq : ∀ q, q ≠ 111 → st ρ2 111 23 ((i : Int) + 1) q = ρ2 q := fun q hq => st_ne hq
      refine ⟨st ρ2 111 23 ((i : Int) + 1), ?_, fun q q1 q2 q3 => by rw [wq q q1, u2 q q1 q2 (by omega) (by omega) (by omega), gq q q1 (by omega) (by omega) (by omega) (by omega)], fun j hj => by rw [w111, up_ne (by omega), u3 j (by omega), g111, up_ne (by omega)], ⟨?_, ?_, ?_⟩, fun j hj => ?_, fun j hj => ?_⟩
      · unfold X11_laysOut_B174
        rw [lt_v, c25, c23, bdk u1, d23, lt_v, lt_v, ps_s]
        rfl
      · rw [w111, up_at]; rfl
      · rw [w111, up_ne (by omega), u5]
        show _ = ((lle r p i ++ pln r p i).length : Int)
        rw [List.length_append]
      · rw [w111, up_ne (by omega), u3 25 (by omega), g111, up_at, hk2]; rfl
      · rw [wq 126 (by omega), wq 127 (by omega), wq 128 (by omega), wq 129 (by omega), wq 130 (by omega), wq 131 (by omega)]
        rw [u2 126 (by omega) (by omega) (by omega) (by omega) (by omega), u2 127 (by omega) (by omega) (by omega) (by omega) (by omega), u2 128 (by omega) (by omega) (by omega) (by omega) (by omega), u2 131 (by omega) (by omega) (by omega) (by omega) (by omega), g126, g127, g128, g131]
        by_cases hji : j = i
        · rw [hji, up_at, up_at, up_at, up_at, u6, u7]
          exact ⟨rfl, rfl, rfl, rfl, rfl, a5⟩
        · rw [up_ne hji, up_ne hji, up_ne hji, up_ne hji, (u4 j hji).1, (u4 j hji).2, gq 129 (by omega) (by omega) (by omega) (by omega) (by omega), gq 130 (by omega) (by omega) (by omega) (by omega) (by omega)]
          exact l4 j (by omega)
      · rw [wq 132 (by omega)]
        show _ = (((lle r p i ++ pln r p i).getD j 0 : Nat) : Int)
        have hj2 : j < (lle r p i).length + (pln r p i).length := by
          have : (lle r p (i + 1)).length = (lle r p i).length + (pln r p i).length := List.length_append
          omega
        by_cases hjl : j < (lle r p i).length
        · rw [u8 j hjl, getD_app_l hjl, gq 132 (by omega) (by omega) (by omega) (by omega) (by omega)]
          exact l5 j hjl
        · obtain ⟨d, rfl⟩ : ∃ d, j = (lle r p i).length + d := ⟨j - (lle r p i).length, by omega⟩
          rw [u9 d (by omega), getD_app_r]
    unfold X11_laysOut_B158
    rw [b23, ag_nat (by omega) (by decide), lt_v]
    rcases a6 with ⟨c1, c2⟩ | ⟨c1, c2⟩
    · rw [c2, if_pos (by decide)]
      exact fin 0 (by rw [← a5, if_pos c1])
    · rw [c2, if_neg (by decide)]
      exact fin 1 (by rw [← a5, if_neg c1])
  have b88 : ∀ k0 : Int, (k0 = 0 ∧ ¬ (pz r p i + 1 < N ∧ tnB (r (8 + 165 * p)).toNat i = true)) ∨ (k0 = 1 ∧ pz r p i + 1 < N ∧ tnB (r (8 + 165 * p)).toNat i = true) → ∃ ρ', X11_laysOut_B88 rec ρ p (ps r p i) ((41 * i + ps r p i : Nat) : Int) (pz r p i) k0 = rec ρ' p ((ps r p (i + 1) : Nat) : Int) ∧ (∀ q, q ≠ 111 → q ≠ 119 → q < 126 ∨ 132 < q → ρ' q = ρ q) ∧ (∀ j, j < 23 ∨ 25 < j → ρ' 111 j = ρ 111 j) ∧ LYm r p ρ' (i + 1) := by
    intro k0 hk0
    have g7 : ∀ q, q ≠ 126 → q ≠ 127 → q ≠ 128 → st (st (st ρ 126 i (ps r p i)) 127 i (pz r p i)) 128 i (pkv r p i % 4) q = ρ q := fun q q1 q2 q3 => by rw [st_ne q3, st_ne q2, st_ne q1]
    have x126 : st (st (st ρ 126 i (ps r p i)) 127 i (pz r p i)) 128 i (pkv r p i % 4) 126 = up (ρ 126) i (ps r p i) := by rw [st_ne (by omega), st_ne (by omega), st_self]
    have x127 : st (st (st ρ 126 i (ps r p i)) 127 i (pz r p i)) 128 i (pkv r p i % 4) 127 = up (ρ 127) i (pz r p i) := by rw [st_ne (by omega), st_self, st_ne (by omega)]
    have x128 : st (st (st ρ 126 i (ps r p i)) 127 i (pz r p i)) 128 i (pkv r p i % 4) 128 = up (ρ 128) i (pkv r p i % 4) := by rw [st_self, st_ne (by omega), st_ne (by omega)]
    unfold X11_laysOut_B88
    rw [l1, ag_nat (by omega) (by decide), lt_v]
    rw [show st ρ 126 i (ps r p i : Int) 111 23 = i by rw [st_ne (by omega)]; exact l1, ag_nat (by omega) (by decide), lt_v, ag_nat (by omega) (by decide)]
    rw [show st (st ρ 126 i (ps r p i : Int)) 127 i (pz r p i : Int) 111 23 = i by rw [st_ne (by omega), st_ne (by omega)]; exact l1, ag_nat (by omega) (by decide)]
    rw [show st (st ρ 126 i (ps r p i : Int)) 127 i (pz r p i : Int) 125 (41 * i + ps r p i) = pkv r p i % 4 by rw [st_ne (by omega), st_ne (by omega)]; exact e125, lt_v]
    rcases hk0 with ⟨c1, c2⟩ | ⟨c1, c2, c3⟩
    · rw [c1, if_neg (by decide)]
      exact tail _ 0 0 g7 x126 x127 x128 (by unfold tk; rw [hN, Int.toNat_natCast, if_neg c2]) (Or.inl ⟨rfl, rfl⟩)
    · rw [c1, if_pos (by decide), ag_nat (by omega) (by decide), g7 120 (by omega) (by omega) (by omega), h120 (pz r p i) (by omega)]
      by_cases hs : spB r p (pz r p i) = true
      · rw [if_pos hs, if_neg (by decide)]
        exact tail _ 2 1 g7 x126 x127 x128 (by unfold tk; rw [hN, Int.toNat_natCast, if_pos ⟨c2, c3⟩, if_pos hs]) (Or.inr ⟨by decide, rfl⟩)
      · rw [if_neg hs, if_pos (by decide)]
        exact tail _ 1 1 g7 x126 x127 x128 (by unfold tk; rw [hN, Int.toNat_natCast, if_pos ⟨c2, c3⟩, if_neg hs]) (Or.inr ⟨by decide, rfl⟩)
  have hbars : X11_bars ρ p = some (N : Int) := by rw [mbarsN hp, h112, hN]
  have hit := m_isTurn (ρ := ρ) (by rw [h112]; exact hw) hp (g := i) (by omega)
  rw [h112] at hit
  unfold X11_laysOut_B32 X11_laysOut_B87
  rw [bdk hbars, if_neg (by first | omega | (unfold w32; omega)), lt_v, l1, show 41 * (i : Int) + (ps r p i : Int) = ((41 * i + ps r p i : Nat) : Int) by omega, ag_nat (by omega) (by decide), lt_v, e124, bdk hbars]
  by_cases c1 : pz r p i + 1 < N
  · rw [if_neg (by first | omega | (unfold w32; omega)), bdk hit]
    by_cases c2 : tnB (r (8 + 165 * p)).toNat i = true
    · rw [if_pos c2, if_neg (by decide)]
      exact b88 1 (Or.inr ⟨rfl, c1, c2⟩)
    · rw [if_neg c2, if_pos (by decide)]
      exact b88 0 (Or.inl ⟨rfl, fun c => c2 c.2⟩)
  · rw [if_pos (by first | omega | (unfold w32; omega))]
    exact b88 0 (Or.inl ⟨rfl, fun c => c1 c.1⟩)
theorem m_laysOutL {r : Nat → Int} (hw : WF r) {p : Nat} (hp : p < 4) {N : Nat} (hN : r (9 + 165 * p) = N) {w0 : T4} (h0 : bL r r p 0 0 = some w0) : ∀ (n i f : Nat) (ρ : Mem), i + n = nPg r p → n < f → ρ 112 = r → (∀ s, s < 3 → LM r p s ρ) → (∀ k, k < N → ρ 120 k = if spB r p k = true then 1 else 0) → (∀ a c, a ≤ c → c < N → EB N (pkn r p 3) (r 4) (tnB (r (8 + 165 * p)).toNat) (spB r p) ρ a c) → LYm r p ρ i → ∃ ρ', X11_laysOut_L32 f ρ p (ps r p i) = some (1, ρ') ∧ (∀ q, q ≠ 111 → q ≠ 119 → q < 126 ∨ 132 < q → ρ' q = ρ q) ∧ (∀ j, j < 23 ∨ 25 < j → ρ' 111 j = ρ 111 j) ∧ LYm r p ρ' (nPg r p) := by
  have h40 := hw.bars hp
  have hend := nPg_end hw hp h0
  intro n
  induction n with
  | zero =>
    intro i f ρ h1 h2 h3 h4 h5 h6 h7
    obtain ⟨f, rfl⟩ : ∃ x, f = x + 1 := ⟨f - 1, by omega⟩
    have hi : i = nPg r p := by omega
    rw [hi] at h7 ⊢
    refine ⟨ρ, ?_, fun _ _ _ _ => rfl, fun _ _ => rfl, h7⟩
    show X11_laysOut_B32 _ _ _ _ = _
    unfold X11_laysOut_B32
    rw [bdk (mbarsN hp), h3, if_pos (by first | omega | (unfold w32; omega))]
  | succ n ih =>
    intro i f ρ h1 h2 h3 h4 h5 h6 h7
    obtain ⟨f, rfl⟩ : ∃ x, f = x + 1 := ⟨f - 1, by omega⟩
    obtain ⟨ρ1, t1, t2, t3, t4⟩ := m_layStep hw hp hN (show i < nPg r p by omega) h3 h4 h5 h6 h7 (X11_laysOut_L32 f)
    obtain ⟨ρ2, u1, u2, u3, u4⟩ := ih (i + 1) f ρ1 (by omega) (by omega) (by rw [t2 112 (by omega) (by omega) (by omega)]; exact h3) (fun s hs a ha => (h4 s hs a ha).frame (fun k _ => by rw [t2 117 (by omega) (by omega) (by omega)]) (by omega)) (fun k hk => by rw [t2 120 (by omega) (by omega) (by omega)]; exact h5 k hk) (fun a c a1 a2 => by
      obtain ⟨z, z1, z2⟩ := h6 a c a1 a2
      refine ⟨z, ?_, z2⟩
      unfold EN at z1 ⊢
      rw [t2 121 (by omega) (by omega) (by omega), t2 122 (by omega) (by omega) (by omega), t2 123 (by omega) (by omega) (by omega), t2 124 (by omega) (by omega) (by omega), t2 125 (by omega) (by omega) (by omega)]
      exact z1) t4
    exact ⟨ρ2, t1.trans u1, fun q q1 q2 q3 => by rw [u2 q q1 q2 q3, t2 q q1 q2 q3], fun j hj => by rw [u3 j hj, t3 j hj], u4⟩
theorem nPg_0 {r : Nat → Int} (hw : WF r) {p : Nat} (hp : p < 4) : (r (9 + 165 * p) = 0 ∨ bL r r p 0 0 = none) ↔ nPg r p = 0 := by
  have h40 := hw.bars hp
  constructor
  · rintro (h | h)
    · unfold nPg bL
      rw [h, bW_end (by omega)]
      rfl
    · unfold nPg
      rw [h]
      rfl
  · intro h
    cases h0 : bL r r p 0 0 with
    | none => exact Or.inr rfl
    | some w0 =>
      refine Or.inl ?_
      have := nPg_end hw hp h0
      rw [h] at this
      have hps : ps r p 0 = 0 := rfl
      rw [hps] at this
      omega
theorem m_laysOut {p : Nat} (hp : p < 4) {ρ : Mem} (hw : WF (ρ 112)) : ∃ ρ', X11_laysOut ρ p = some (if nPg (ρ 112) p = 0 then 0 else 1, ρ') ∧ (∀ q, q < 111 ∨ (111 < q ∧ q < 117) ∨ 132 < q → ρ' q = ρ q) ∧ (∀ j, j < 23 ∨ 25 < j → ρ' 111 j = ρ 111 j) ∧ (nPg (ρ 112) p ≠ 0 → LYm (ρ 112) p ρ' (nPg (ρ 112) p) ∧ ρ' 121 0 = sto (ρ 112) p (nPg (ρ 112) p) ∧ ρ' 122 0 = csS (ρ 112) p (nPg (ρ 112) p)) := by
  have h40 := hw.bars hp
  obtain ⟨N, hN⟩ : ∃ N : Nat, ρ 112 (9 + 165 * p) = N := ⟨(ρ 112 (9 + 165 * p)).toNat, by omega⟩
  obtain ⟨ρ1, t1, t2, t3⟩ := m_findPages hp hw
  have e1 : ρ1 112 = ρ 112 := t2 112 (by omega) (by omega) (by omega)
  obtain ⟨ρ2, u1, u2, u3, u4⟩ := m_lays (r0 := ρ 112) hp (ρ := ρ1) (by rw [e1]; exact hw) hw (by rw [e1]) (fun s hs => (t3 s hs).2)
  rw [e1] at u1 u3 u4
  have hb := nPg_0 hw hp
  unfold X11_laysOut
  rw [bdk t1, bd2k u1]
  by_cases h0 : nPg (ρ 112) p = 0
  · rw [if_pos (hb.mpr h0), if_neg (by decide), if_pos h0]
    exact ⟨ρ2, rfl, fun q hq => by rw [u2 q (by omega), t2 q (by omega) (by omega) (by omega)], fun j hj => by rw [u2 111 (by omega), t2 111 (by omega) (by omega) (by omega)], fun h => absurd h0 h⟩
  · rw [if_neg (fun c => h0 (hb.mp c)), if_pos (by decide), lt_v, lt_v, lt_v, if_neg h0]
    cases hs0 : bL (ρ 112) (ρ 112) p 0 0 with
    | none => exact absurd (hb.mp (Or.inr hs0)) h0
    | some w0 =>
      have hend := nPg_end hw hp hs0
      have hNp : 0 < N := by
        by_cases c : N = 0
        · exact absurd (hb.mp (Or.inl (by omega))) h0
        · omega
      have gq : ∀ q, q ≠ 111 → st (st (st ρ2 111 23 0) 111 24 0) 111 25 0 q = ρ2 q := fun q hq => by rw [st_ne hq, st_ne hq, st_ne hq]
      have g1 : st (st (st ρ2 111 23 0) 111 24 0) 111 25 0 111 = up (up (up (ρ2 111) 23 0) 24 0) 25 0 := by rw [st_self, st_self, st_self]
      rw [hN, Int.toNat_natCast] at u4
      rw [hN] at u3
      obtain ⟨ρ3, v1, v2, v3, v4⟩ := m_laysOutL hw hp hN hs0 (nPg (ρ 112) p) 0 5000 (st (st (st ρ2 111 23 0) 111 24 0) 111 25 0) (by omega) (by omega) (by rw [gq 112 (by omega), u2 112 (by omega)]; exact e1) (fun s hs a ha => ((t3 s hs).1 a ha).frame (fun k _ => by rw [gq 117 (by omega), u2 117 (by omega)]) (by omega)) (fun k hk => by rw [gq 120 (by omega)]; exact u3 k (by omega)) (fun a c a1 a2 => by
        obtain ⟨z, z1, z2⟩ := u4 a c a1 (by omega)
        refine ⟨z, ?_, z2⟩
        unfold EN at z1 ⊢
        rw [gq 121 (by omega), gq 122 (by omega), gq 123 (by omega), gq 124 (by omega), gq 125 (by omega)]
        exact z1) ⟨⟨by rw [g1, up_ne (by omega), up_ne (by omega), up_at]; rfl, by rw [g1, up_ne (by omega), up_at]; rfl, by rw [g1, up_at]; rfl⟩, fun j hj => absurd hj (Nat.not_lt_zero _), fun j hj => absurd hj (Nat.not_lt_zero _)⟩
      obtain ⟨z, z1, z2⟩ := u4 0 0 (by omega) (by omega)
      have hb0 : bW N (pkn (ρ 112) p 3) (ρ 112 4) (tnB (ρ 112 (8 + 165 * p)).toNat) (spB (ρ 112) p) 0 0 = some w0 := by
        have := hs0
        unfold bL at this
        rw [hN, Int.toNat_natCast] at this
        exact this
      rw [hb0] at z1
      refine ⟨ρ3, v1, fun q hq => by rw [v2 q (by omega) (by omega) (by omega), gq q (by omega), u2 q (by omega), t2 q (by omega) (by omega) (by omega)], fun j hj => by rw [v3 j hj, g1, up_ne (by omega), up_ne (by omega), up_ne (by omega), u2 111 (by omega), t2 111 (by omega) (by omega) (by omega)], fun _ => ⟨v4, ?_, ?_⟩⟩
      · rw [v2 121 (by omega) (by omega) (by omega), gq 121 (by omega), hend.2.2.2.1]; exact z1.1
      · rw [v2 122 (by omega) (by omega) (by omega), gq 122 (by omega), hend.2.2.2.2]; exact z1.2.1
