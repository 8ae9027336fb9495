/-! the class weighs -/
theorem rng_ok {σ : Mem} {n a b : Int} (h1 : 0 ≤ a) (h2 : a ≤ b) (h3 : b ≤ n) (h4 : n < 2147483648) : ∃ u, J7_rangeCheck_23922 σ n a b = some u := by
  unfold J7_rangeCheck_23922
  refine ⟨(), ?_⟩
  ((repeat (first | with_reducible refine (ag_ok (by omega) (by omega) (by decide)).trans ?_ | rewrite [lt_v] | rewrite [bd_some] | rewrite [bd2_some] | with_reducible refine (if_pos (by first | omega | (unfold w32; omega))).trans ?_ | with_reducible refine (if_neg (by first | omega | (unfold w32; omega))).trans ?_)); (repeat (first | with_reducible refine Eq.trans ?_ (if_pos (by first | omega | (unfold w32; omega))).symm | with_reducible refine Eq.trans ?_ (if_neg (by first | omega | (unfold w32; omega))).symm)); try rfl)
theorem fil12_loop {k N : Nat} {v : Int} (hN : ln k = N) (hN2 : N < 2147483648) (σ : Mem) {d m : Nat} (hm : d + m ≤ N) : ∀ (n i f : Nat), i + n = m → n < f → J7_fill_bad5a_L10 f (fir σ k d i v) k ((d + m : Nat) : Int) v ((d + i : Nat) : Int) = some (fir σ k d m v) := by
  intro n
  induction n with
  | zero =>
    intro i f h1 h2
    obtain ⟨f, rfl⟩ : ∃ x, f = x + 1 := ⟨f - 1, by omega⟩
    show J7_fill_bad5a_B10 _ _ _ _ _ _ = _
    unfold J7_fill_bad5a_B10
    rw [if_pos (by first | omega | (unfold w32; omega)), show i = m by omega]
  | succ n ih =>
    intro i f h1 h2
    obtain ⟨f, rfl⟩ : ∃ x, f = x + 1 := ⟨f - 1, by omega⟩
    show J7_fill_bad5a_B10 _ _ _ _ _ _ = _
    unfold J7_fill_bad5a_B10
    rw [if_neg (by first | omega | (unfold w32; omega)), hN, ag_nat (by omega) (by omega), lt_v, lt_v, fir_succ]
    exact ih (i + 1) f (by omega) (by omega)
theorem fil12 {σ : Mem} {b : Nat} (hb : b ≤ 40) (v : Int) : J7_fill_bad5a σ 60 ((b : Int) * 12) (((b : Int) + 1) * 12) v = some (fir σ 60 (12 * b) 12 v) := by
  have hl : ln 60 = 492 := rfl
  obtain ⟨u, hu⟩ := rng_ok (σ := σ) (n := ((ln 60 : Nat) : Int)) (a := (b : Int) * 12) (b := ((b : Int) + 1) * 12) (by omega) (by omega) (by rw [hl]; omega) (by rw [hl]; omega)
  unfold J7_fill_bad5a
  rw [bdk hu]
  have := fil12_loop hl (by omega) σ (d := 12 * b) (m := 12) (v := v) (by omega) 12 0 5000 (by omega) (by omega)
  rw [fir_0] at this
  rw [show (b : Int) * 12 = ((12 * b + 0 : Nat) : Int) by omega, show ((b : Int) + 1) * 12 = ((12 * b + 12 : Nat) : Int) by omega]
  exact this
theorem fir_in {σ : Mem} {k d n j : Nat} {v : Int} (h1 : d ≤ j) (h2 : j < d + n) : fir σ k d n v k j = v := by simp [fir, h1, h2]
theorem fir_out {σ : Mem} {k d n j : Nat} {v : Int} (h : j < d ∨ d + n ≤ j) : fir σ k d n v k j = σ k j := by
  simp only [fir]
  rw [if_neg (by omega)]
theorem ib8_id {k : Nat} (h : k < 128) : ib8 (ib8 (k : Int)) = k := by
  rw [ib8_ib8, ib8_eq]; omega
section
variable {N : Nat} {pk : Nat → Nat → Option Int} {pp : Int} {tn sp : Nat → Bool}
theorem c_tbL {x b k : Nat} {v l4 sf : Int} {A R : Nat → Option T4} (hx : x < 1024) (htn : ∀ q, q < 12 → tn q = (trn x).testBit q) (hv : pk b k = some v) (hb : b ≤ k) (hk : k < 40) (hl4 : l4 = (v / 4 + pp) * 64 + 1) (hsf : (sf = 1 ∧ ¬ (k + 1 < N ∧ sp k = true)) ∨ (sf = 0 ∧ k + 1 < N ∧ sp k = true)) (oA : ∀ q, q < 12 → okW (A q)) (oR : ∀ q, q < 12 → okW (R q)) (oC : ∀ q, q < 12 → okW (cnd N pk pp tn sp q b k (R (qst (q + 1))))) : ∀ (n q f : Nat) (τ : Mem), q + n = 12 → n < f → τ 53 5 = ((trn x : Nat) : Int) → (∀ j, j < 12 → τ 60 (12 * (k + 1) + j) = eW (R j)) → (∀ j, j < q → τ 60 (12 * b + j) = eW (bst (A j) (cnd N pk pp tn sp j b k (R (qst (j + 1))))) ∧ ∀ w, bst (A j) (cnd N pk pp tn sp j b k (R (qst (j + 1)))) = some w → τ 61 (12 * b + j) = w.2.2.2) → (∀ j, q ≤ j → j < 12 → τ 60 (12 * b + j) = eW (A j) ∧ ∀ w, A j = some w → τ 61 (12 * b + j) = w.2.2.2) → ∃ τ', X1_takeBetter_L53 f τ b k l4 sf q = some τ' ∧ (∀ c, c ≠ 60 → c ≠ 61 → τ' c = τ c) ∧ (∀ j, j < 12 * b ∨ 12 * b + 12 ≤ j → τ' 60 j = τ 60 j ∧ τ' 61 j = τ 61 j) ∧ ∀ j, j < 12 → τ' 60 (12 * b + j) = eW (bst (A j) (cnd N pk pp tn sp j b k (R (qst (j + 1))))) ∧ ∀ w, bst (A j) (cnd N pk pp tn sp j b k (R (qst (j + 1)))) = some w → τ' 61 (12 * b + j) = w.2.2.2 := by
  intro n
  induction n with
  | zero =>
    intro q f τ h1 h2 h3 h4 h5 h6
    obtain ⟨f, rfl⟩ : ∃ x, f = x + 1 := ⟨f - 1, by omega⟩
    refine ⟨τ, ?_, fun _ _ _ => rfl, fun _ _ => ⟨rfl, rfl⟩, fun j hj => h5 j (by omega)⟩
    show X1_takeBetter_B53 _ _ _ _ _ _ _ = _
    unfold X1_takeBetter_B53
    rw [if_pos (by first | omega | (unfold w32; omega))]
  | succ n ih =>
    intro q f τ h1 h2 h3 h4 h5 h6
    obtain ⟨f, rfl⟩ : ∃ x, f = x + 1 := ⟨f - 1, by omega⟩
    have hfo := c_following (σ := τ) (q := q) (by omega)
    have hq12 := qst_lt (q + 1)
    have hR := h4 (qst (q + 1)) hq12
    have iR := eW_in (oR (qst (q + 1)) hq12)
    have hA := h6 q (by omega) (by omega)
    have hbit := bit_nat (x := trn x) (k := q) (by have := trn_lt x; omega) (by omega)
    -- keep what stands
    have keep : bst (A q) (cnd N pk pp tn sp q b k (R (qst (q + 1)))) = A q → ∃ τ', X1_takeBetter_B169 (X1_takeBetter_L53 f) τ b k l4 sf q = some τ' ∧ (∀ c, c ≠ 60 → c ≠ 61 → τ' c = τ c) ∧ (∀ j, j < 12 * b ∨ 12 * b + 12 ≤ j → τ' 60 j = τ 60 j ∧ τ' 61 j = τ 61 j) ∧ ∀ j, j < 12 → τ' 60 (12 * b + j) = eW (bst (A j) (cnd N pk pp tn sp j b k (R (qst (j + 1))))) ∧ ∀ w, bst (A j) (cnd N pk pp tn sp j b k (R (qst (j + 1)))) = some w → τ' 61 (12 * b + j) = w.2.2.2 := by
      intro he
      unfold X1_takeBetter_B169
      rw [lt_v]
      exact ih (q + 1) f τ (by omega) (by omega) h3 h4 (fun j hj => by
        by_cases hjq : j = q
        · rw [hjq, he]; exact hA
        · exact h5 j (by omega)) (fun j j1 j2 => h6 j (by omega) j2)
    show ∃ τ', X1_takeBetter_B53 _ _ _ _ _ _ _ = _ ∧ _
    unfold X1_takeBetter_B53 X1_takeBetter_B108
    rw [if_neg (by first | omega | (unfold w32; omega)), bdk hfo, ag_ok (by omega) (by omega) (by decide), lt_v]
    rw [show (((k : Int) + 1) * 12 + ((qst (q + 1) : Nat) : Int)).toNat = 12 * (k + 1) + qst (q + 1) by omega, hR]
    cases hu : R (qst (q + 1)) with
    | none =>
      rw [if_neg (by decide)]
      exact keep (by rw [hu, show cnd N pk pp tn sp q b k none = none by unfold cnd; rw [hv]]; exact bst_none _)
    | some u =>
      have hc : cnd N pk pp tn sp q b k (R (qst (q + 1))) = some (u.1 + (if k + 1 < N ∧ tn q = true ∧ sp k = true then 1 else 0), v / 4 + pp + u.2.1, 1 + u.2.2.1, k) := by
        rw [hu]; unfold cnd; rw [hv]
      have oC1 := oC q (by omega)
      rw [hc] at oC1
      rw [hu] at iR
      have iR2 : eW (some u) ≠ 9223372036854775807 := fun h => by cases iR.2.2.mp h
      have cont : ∀ z : Int, z = (if k + 1 < N ∧ tn q = true ∧ sp k = true then 1 else 0) * 1099511627776 → ∃ τ', X1_takeBetter_B115 (X1_takeBetter_L53 f) τ b k l4 sf q (eW (some u)) z = some τ' ∧ (∀ c, c ≠ 60 → c ≠ 61 → τ' c = τ c) ∧ (∀ j, j < 12 * b ∨ 12 * b + 12 ≤ j → τ' 60 j = τ 60 j ∧ τ' 61 j = τ 61 j) ∧ ∀ j, j < 12 → τ' 60 (12 * b + j) = eW (bst (A j) (cnd N pk pp tn sp j b k (R (qst (j + 1))))) ∧ ∀ w, bst (A j) (cnd N pk pp tn sp j b k (R (qst (j + 1)))) = some w → τ' 61 (12 * b + j) = w.2.2.2 := by
        intro z hz
        have hsum : eW (some u) + l4 + z = eW (some (u.1 + (if k + 1 < N ∧ tn q = true ∧ sp k = true then 1 else 0), v / 4 + pp + u.2.1, 1 + u.2.2.1, k)) := by
          show u.1 * 1099511627776 + u.2.1 * 64 + u.2.2.1 + l4 + z = (u.1 + (if k + 1 < N ∧ tn q = true ∧ sp k = true then 1 else 0)) * 1099511627776 + (v / 4 + pp + u.2.1) * 64 + (1 + u.2.2.1)
          omega
        unfold X1_takeBetter_B115
        rw [lt_v, ag_ok (by omega) (by omega) (by decide), show ((b : Int) * 12 + q).toNat = 12 * b + q by omega, hA.1, hsum]
        rcases eW_le (oA q (by omega)) oC1 with ⟨c1, c2⟩ | ⟨c1, c2⟩
        · rw [if_pos c1]
          exact keep (by rw [hc]; exact c2)
        · rw [if_neg c1, ag_ok (by omega) (by omega) (by decide), lt_v, ag_ok (by omega) (by omega) (by decide), lt_v, show ((b : Int) * 12 + q).toNat = 12 * b + q by omega, ib8_id (by omega)]
          unfold X1_takeBetter_B169
          rw [lt_v]
          generalize hy : (u.1 + (if k + 1 < N ∧ tn q = true ∧ sp k = true then 1 else 0), v / 4 + pp + u.2.1, 1 + u.2.2.1, k) = y at *
          have e60 : st (st τ 60 (12 * b + q) (eW (some y))) 61 (12 * b + q) k 60 = up (τ 60) (12 * b + q) (eW (some y)) := by rw [st_ne (by omega), st_self]
          have e61 : st (st τ 60 (12 * b + q) (eW (some y))) 61 (12 * b + q) k 61 = up (τ 61) (12 * b + q) k := by rw [st_self, st_ne (by omega)]
          obtain ⟨τ', t1, t2, t3, t4⟩ := ih (q + 1) f (st (st τ 60 (12 * b + q) (eW (some y))) 61 (12 * b + q) k) (by omega) (by omega) (by rw [st_ne (by omega), st_ne (by omega)]; exact h3) (fun j hj => by rw [e60, up_ne (by omega)]; exact h4 j hj) (fun j hj => by
            rw [e60, e61]
            by_cases hjq : j = q
            · rw [hjq, up_at, up_at, hc, c2]
              exact ⟨rfl, fun w hw => by rw [← Option.some.inj hw, ← hy]⟩
            · rw [up_ne (by omega), up_ne (by omega)]; exact h5 j (by omega)) (fun j j1 j2 => by
            rw [e60, e61, up_ne (by omega), up_ne (by omega)]; exact h6 j (by omega) j2)
          refine ⟨τ', t1, fun c c1 c2 => by rw [t2 c c1 c2, st_ne c2, st_ne c1], fun j hj => ?_, t4⟩
          have := t3 j hj
          rw [e60, e61, up_ne (by omega), up_ne (by omega)] at this
          exact this
      rw [if_pos (by rw [w64_id (by omega) (by omega)]; exact iR2)]
      rcases hsf with ⟨s1, s2⟩ | ⟨s1, s2, s3⟩
      · rw [if_pos (by first | omega | (unfold w32; omega))]
        exact cont 0 (by rw [if_neg (fun c => s2 ⟨c.1, c.2.2⟩)]; rfl)
      · rw [if_neg (by first | omega | (unfold w32; omega)), h3, hbit]
        by_cases ht : (trn x).testBit q = true
        · rw [if_pos ht, if_pos (by decide)]
          exact cont _ (by rw [if_pos ⟨s2, by rw [htn q (by omega)]; exact ht, s3⟩]; rfl)
        · rw [if_neg ht, if_neg (by decide)]
          exact cont 0 (by rw [if_neg (fun c => ht (by rw [← htn q (by omega)]; exact c.2.1))]; rfl)
end
