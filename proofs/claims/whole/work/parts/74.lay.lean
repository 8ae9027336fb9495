/-! the class lays out one page -/
theorem c_addLine {τ : Mem} {l0 cnt i k : Nat} {c0 : Int} (h1 : τ l0 1 = cnt) (h2 : cnt < 40) (h3 : τ l0 0 = (i : Int) + 1) (h4 : i < 40) (h5 : τ (l0 + 4) i = c0) : ∃ τ', X2_addLine τ l0 k = some τ' ∧ (∀ q, q ≠ l0 → q ≠ l0 + 4 → q ≠ l0 + 6 → τ' q = τ q) ∧ τ' l0 = up (τ l0) 1 ((cnt : Int) + 1) ∧ τ' (l0 + 4) = up (τ (l0 + 4)) i (c0 + 1) ∧ τ' (l0 + 6) = up (τ (l0 + 6)) cnt k := by
  refine ⟨st (st (st τ (l0 + 6) cnt k) l0 1 ((cnt : Int) + 1)) (l0 + 4) i (c0 + 1), ?_, fun q q1 q2 q3 => by rw [st_ne q2, st_ne q1, st_ne q3], by rw [st_ne (by omega), st_self, st_ne (by omega)], by rw [st_self, st_ne (by omega), st_ne (by omega)], by rw [st_ne (by omega), st_ne (by omega), st_self]⟩
  unfold X2_addLine
  rw [h1, h3, if_neg (by first | omega | (unfold w32; omega)), if_neg (by first | omega | (unfold w32; omega)), ag_nat (by omega) (by decide), lt_v]
  rw [show st τ (l0 + 6) cnt k l0 1 = cnt by rw [st_ne (by omega)]; exact h1, lt_v]
  rw [show st (st τ (l0 + 6) cnt k) l0 1 ((cnt : Int) + 1) l0 0 = (i : Int) + 1 by rw [st_self, up_ne (by omega), st_ne (by omega)]; exact h3, lt_v]
  rw [show (i : Int) + 1 - 1 = i by omega, ag_nat (by omega) (by decide), ag_nat (by omega) (by decide)]
  rw [show st (st τ (l0 + 6) cnt k) l0 1 ((cnt : Int) + 1) (l0 + 4) i = c0 by rw [st_ne (by omega), st_ne (by omega)]; exact h5, lt_v]
theorem c_addLines {r : Nat → Int} (hw : WF r) {p : Nat} (hp : p < 4) {s : Int} (hs : 0 ≤ s ∧ s ≤ 2) {a e l0 i : Nat} (he : (e : Int) < r (9 + 165 * p)) (hl0 : 60 ≤ l0) (hi : i < 40) : ∀ (L b f cnt c0 : Nat) (τ : Mem), L < f → L ≤ 6 → a ≤ b → b ≤ e + 1 → cnt ≤ b → (b ≤ e → tl r p s e L b ≠ none) → τ l0 1 = cnt → τ l0 0 = (i : Int) + 1 → τ (l0 + 4) i = c0 → (∀ c, b ≤ c → c ≤ e → LTb r p s τ c e) → (∀ m, m ≤ L → TLs r p s e τ a m) → ∃ τ', X1_addLines_L6 f τ e l0 b L = some τ' ∧ (∀ q, q ≠ l0 → q ≠ l0 + 4 → q ≠ l0 + 6 → τ' q = τ q) ∧ (∀ j, j ≠ 1 → τ' l0 j = τ l0 j) ∧ (∀ j, j ≠ i → τ' (l0 + 4) j = τ (l0 + 4) j) ∧ τ' l0 1 = ((cnt + (lns r p s e L b).length : Nat) : Int) ∧ τ' (l0 + 4) i = ((c0 + (lns r p s e L b).length : Nat) : Int) ∧ (∀ j, j < cnt → τ' (l0 + 6) j = τ (l0 + 6) j) ∧ ∀ j, j < (lns r p s e L b).length → τ' (l0 + 6) (cnt + j) = (((lns r p s e L b).getD j 0 : Nat) : Int) := by
  have h40 := hw.bars hp
  intro L
  induction L with
  | zero =>
    intro b f cnt c0 τ h1 h2 h3 h4 h5 h6 h7 h8 h9 h10 h11
    obtain ⟨f, rfl⟩ : ∃ x, f = x + 1 := ⟨f - 1, by omega⟩
    refine ⟨τ, ?_, fun _ _ _ _ => rfl, fun _ _ => rfl, fun _ _ => rfl, h7, h9, fun _ _ => rfl, fun j hj => absurd hj (Nat.not_lt_zero _)⟩
    show X1_addLines_B6 _ _ _ _ _ _ = _
    unfold X1_addLines_B6
    rw [if_pos (by decide)]
  | succ L ih =>
    intro b f cnt c0 τ h1 h2 h3 h4 h5 h6 h7 h8 h9 h10 h11
    obtain ⟨f, rfl⟩ : ∃ x, f = x + 1 := ⟨f - 1, by omega⟩
    by_cases hb : b ≤ e
    · have hk := fle_in (r := r) (p := p) (s := s) (L := L) hb
      have hq := fle_eq hb (h6 hb)
      have hfl := c_fle hw hp hs (τ := τ) (b := b) (e := e) (L := L) he hb (by omega) (h10 b (by omega) hb) (fun k k1 k2 => h11 L (by omega) (k + 1) (by omega) (by omega)) (h11 (L + 1) (by omega) b h3 h4) (h6 hb)
      obtain ⟨τ1, t1, t2, t3, t4, t5⟩ := c_addLine (τ := τ) (l0 := l0) (cnt := cnt) (i := i) (k := fle r p s e L b) h7 (by omega) h8 hi h9
      have hne : tl r p s e L (fle r p s e L b + 1) ≠ none := fun h => by
        rw [h, oad_none] at hq
        exact h6 hb hq.symm
      obtain ⟨τ2, u1, u2, u3, u4, u5, u6, u7, u8⟩ := ih (fle r p s e L b + 1) f (cnt + 1) (c0 + 1) τ1 (by omega) (by omega) (by omega) (by omega) (by omega) (fun _ => hne) (by rw [t3, up_at]; omega) (by rw [t3, up_ne (by omega)]; exact h8) (by rw [t4, up_at]; omega) (fun c c1 c2 => (h10 c (by omega) c2).frame (by omega) (by rw [t2 56 (by omega) (by omega) (by omega)]) (fun j _ _ => by rw [t2 55 (by omega) (by omega) (by omega)])) (fun m hm x x1 x2 => by rw [t2 57 (by omega) (by omega) (by omega)]; exact h11 m (by omega) x x1 x2)
      have hl : lns r p s e (L + 1) b = fle r p s e L b :: lns r p s e L (fle r p s e L b + 1) := if_pos hb
      refine ⟨τ2, ?_, fun q q1 q2 q3 => by rw [u2 q q1 q2 q3, t2 q q1 q2 q3], fun j hj => by rw [u3 j hj, t3, up_ne hj], fun j hj => by rw [u4 j hj, t4, up_ne hj], ?_, ?_, fun j hj => by rw [u7 j (by omega), t5, up_ne (by omega)], fun j hj => ?_⟩
      · show X1_addLines_B6 _ _ _ _ _ _ = _
        unfold X1_addLines_B6
        rw [if_neg (by first | omega | (unfold w32; omega)), if_neg (by first | omega | (unfold w32; omega)), bdk hfl, bdk t1, lt_v, lt_v, show ((L + 1 : Nat) : Int) + -1 = L by omega]
        exact u1
      · rw [u5, hl, List.length_cons]; omega
      · rw [u6, hl, List.length_cons]; omega
      · rw [hl] at hj ⊢
        rw [List.length_cons] at hj
        cases j with
        | zero =>
          rw [show cnt + 0 = cnt from rfl, u7 cnt (by omega), t5, up_at]
          rfl
        | succ j =>
          rw [show cnt + (j + 1) = cnt + 1 + j by omega, u8 j (by omega)]
          rfl
    · have hl : lns r p s e (L + 1) b = [] := if_neg hb
      refine ⟨τ, ?_, fun _ _ _ _ => rfl, fun _ _ => rfl, fun _ _ => rfl, by rw [hl]; exact h7, by rw [hl]; exact h9, fun _ _ => rfl, fun j hj => by rw [hl] at hj; exact absurd hj (Nat.not_lt_zero _)⟩
      show X1_addLines_B6 _ _ _ _ _ _ = _
      unfold X1_addLines_B6
      rw [if_neg (by first | omega | (unfold w32; omega)), if_pos (by first | omega | (unfold w32; omega))]
theorem c_addPage {τ : Mem} {l0 i : Nat} {a e s pc pp : Int} (h1 : τ l0 0 = i) (h2 : i < 40) : ∃ τ', X2_addPage τ l0 a e s pc pp = some τ' ∧ (∀ q, q < l0 ∨ l0 + 5 < q → τ' q = τ q) ∧ τ' l0 = up (up (τ l0) 4 (τ l0 4 + (pc + pp))) 0 ((i : Int) + 1) ∧ τ' (l0 + 1) = up (τ (l0 + 1)) i a ∧ τ' (l0 + 2) = up (τ (l0 + 2)) i e ∧ τ' (l0 + 3) = up (τ (l0 + 3)) i s ∧ τ' (l0 + 4) = up (τ (l0 + 4)) i 0 ∧ τ' (l0 + 5) = up (τ (l0 + 5)) i pc := by
  refine ⟨st (st (st (st (st (st (st τ l0 4 (τ l0 4 + (pc + pp))) (l0 + 1) i a) (l0 + 2) i e) (l0 + 3) i s) (l0 + 5) i pc) (l0 + 4) i 0) l0 0 ((i : Int) + 1), ?_, fun q hq => ?_, ?_, ?_, ?_, ?_, ?_, ?_⟩
  · have k1 : st τ l0 4 (τ l0 4 + (pc + pp)) l0 0 = i := by rw [st_self, up_ne (by omega)]; exact h1
    have k2 : ∀ (υ : Mem) (q : Nat) (v : Int), q ≠ l0 → υ l0 0 = i → st υ q i v l0 0 = i := fun υ q v hq hu => by rw [st_ne (fun h => hq h.symm)]; exact hu
    have k3 := k2 _ (l0 + 1) a (by omega) k1
    have k4 := k2 _ (l0 + 2) e (by omega) k3
    have k5 := k2 _ (l0 + 3) s (by omega) k4
    have k6 := k2 _ (l0 + 5) pc (by omega) k5
    have k7 := k2 _ (l0 + 4) 0 (by omega) k6
    unfold X2_addPage
    rw [h1, if_neg (by first | omega | (unfold w32; omega)), lt_v, k1, ag_nat (by omega) (by decide), lt_v, k3, ag_nat (by omega) (by decide), lt_v, k4, ag_nat (by omega) (by decide), lt_v, k5, ag_nat (by omega) (by decide), lt_v, k6, ag_nat (by omega) (by decide), lt_v, k7, lt_v]
  · rw [st_ne (by omega), st_ne (by omega), st_ne (by omega), st_ne (by omega), st_ne (by omega), st_ne (by omega), st_ne (by omega)]
  · rw [st_self, st_ne (by omega), st_ne (by omega), st_ne (by omega), st_ne (by omega), st_ne (by omega), st_self]
  · rw [st_ne (by omega), st_ne (by omega), st_ne (by omega), st_ne (by omega), st_ne (by omega), st_self, st_ne (by omega)]
  · rw [st_ne (by omega), st_ne (by omega), st_ne (by omega), st_ne (by omega), st_self, st_ne (by omega), st_ne (by omega)]
  · rw [st_ne (by omega), st_ne (by omega), st_ne (by omega), st_self, st_ne (by omega), st_ne (by omega), st_ne (by omega)]
  · rw [st_ne (by omega), st_self, st_ne (by omega), st_ne (by omega), st_ne (by omega), st_ne (by omega), st_ne (by omega)]
  · rw [st_ne (by omega), st_ne (by omega), st_self, st_ne (by omega), st_ne (by omega), st_ne (by omega), st_ne (by omega)]
theorem c_addTurn {τ : Mem} {l0 e : Nat} {t : Int} (he : e < 40) (ht : t = 0 ∨ t = 1 ∨ t = 2) : ∃ τ', X2_addTurn τ l0 e t = some τ' ∧ (∀ q, q ≠ l0 → q ≠ l0 + 7 → τ' q = τ q) ∧ τ' (l0 + 7) = up (τ (l0 + 7)) e t ∧ (∀ j, j ≠ 2 → j ≠ 3 → τ' l0 j = τ l0 j) ∧ τ' l0 3 = τ l0 3 + (if t = 0 then 0 else 1) ∧ τ' l0 2 = τ l0 2 + (if t = 2 then 1 else 0) := by
  have a0 : st τ (l0 + 7) e t l0 = τ l0 := st_ne (by omega)
  unfold X2_addTurn X2_addTurn_B21
  rw [ag_nat he (by decide), lt_v]
  rcases ht with rfl | rfl | rfl
  · rw [if_pos (by decide), if_pos (by decide)]
    refine ⟨_, rfl, fun q q1 q2 => st_ne q2, st_self _ _ _ _, fun j _ _ => by rw [a0], ?_, ?_⟩
    · rw [a0, if_pos rfl, Int.add_zero]
    · rw [a0, if_neg (by decide), Int.add_zero]
  · rw [if_neg (by decide), lt_v, if_pos (by decide)]
    refine ⟨_, rfl, fun q q1 q2 => by rw [st_ne q1, st_ne q2], by rw [st_ne (by omega), st_self], fun j j1 j2 => by rw [st_self, up_ne j2, a0], ?_, ?_⟩
    · rw [st_self, up_at, a0, if_neg (by decide)]
    · rw [st_self, up_ne (by omega), a0, if_neg (by decide), Int.add_zero]
  · rw [if_neg (by decide), lt_v, if_neg (by decide), lt_v]
    refine ⟨_, rfl, fun q q1 q2 => by rw [st_ne q1, st_ne q1, st_ne q2], by rw [st_ne (by omega), st_ne (by omega), st_self], fun j j1 j2 => by rw [st_self, up_ne j1, st_self, up_ne j2, a0], ?_, ?_⟩
    · rw [st_self, up_ne (by omega), st_self, up_at, a0, if_neg (by decide)]
    · rw [st_self, up_at, st_self, up_ne (by omega), a0, if_pos rfl]
