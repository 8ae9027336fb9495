/-! the class: does the part flow -/
section
variable {N : Nat} {pk : Nat → Nat → Option Int} {pp : Int} {tn sp : Nat → Bool}
def R1 (N : Nat) (pk : Nat → Nat → Option Int) (pp : Int) (tn sp : Nat → Bool) (S : Nat → Nat) (lo : Nat) : Prop := ∃ c, lo ≤ c ∧ c < N ∧ ∃ q, q < 12 ∧ (S c).testBit q = true ∧ nf N pk pp tn sp q c
def R2 (N : Nat) (pk : Nat → Nat → Option Int) (pp : Int) (tn sp : Nat → Bool) (S : Nat → Nat) (b k : Nat) : Prop := ∃ q, q < 12 ∧ (S b).testBit q = true ∧ ∃ j, k ≤ j ∧ j < N ∧ pk b j ≠ none ∧ ¬ (j + 1 < N ∧ tn q = true ∧ sp j = true) ∧ nf N pk pp tn sp (q + 1) (j + 1)
def STS (τ : Mem) (S : Nat → Nat) (lo : Nat) : Prop := ∀ c, lo ≤ c → c ≤ 40 → τ 59 c = ((S c : Nat) : Int) ∧ S c < 4096
def envF (N : Nat) (pk : Nat → Nat → Option Int) (sp : Nat → Bool) (p : Nat) (nd : Int) (τ : Mem) : Prop := τ (71 + 10 * p) 1 = N ∧ (∀ b k, b ≤ k → k < N → τ (72 + 10 * p) (40 * b + k) = eC (pk b k)) ∧ ∀ k, k < N → -1 ≤ τ 58 k ∧ τ 58 k ≤ 200000 ∧ sp k = decide (τ 58 k < nd)
theorem envF.frame {p : Nat} {nd : Int} {τ τ' : Mem} (h : envF N pk sp p nd τ) (hf : ∀ c, c ≠ 59 → τ' c = τ c) : envF N pk sp p nd τ' := by
  obtain ⟨h1, h2, h3⟩ := h
  exact ⟨by rw [hf _ (by omega)]; exact h1, fun b k k1 k2 => by rw [hf _ (by omega)]; exact h2 b k k1 k2, fun k hk => by rw [hf 58 (by omega)]; exact h3 k hk⟩
theorem has_bit {x : Nat} (h : x ≠ 0) (hx : x < 4096) : ∃ q, q < 12 ∧ x.testBit q = true := by
  obtain ⟨q, hq⟩ := Nat.exists_testBit_of_ne_zero h
  refine ⟨q, ?_, hq⟩
  by_cases c : q < 12
  · exact c
  · have : x.testBit q = false := Nat.testBit_lt_two_pow (Nat.lt_of_lt_of_le hx (by
      show 2 ^ 12 ≤ 2 ^ q
      exact Nat.pow_le_pow_right (by omega) (by omega)))
    rw [this] at hq
    cases hq
theorem c_flowsK (hpk : ∀ b k, b ≤ k → k < N → bnd (pk b k)) (hpp : 0 ≤ pp ∧ pp ≤ 999) (hN : N ≤ 40) {p t : Nat} {nd : Int} (ht : t ≤ 1365) (htn : ∀ q, q < 12 → tn q = t.testBit q) (htq : ∀ g, tn (qst g) = tn g) (hnd : 0 ≤ nd ∧ nd ≤ 2000) (G : Prop) (rec : Mem → Nat → Int → Int → Int → Int → Option (Int × Mem)) {b : Nat} (hb : b < N) : ∀ (n k f : Nat) (τ : Mem) (S : Nat → Nat), k + n = N → n < f → b ≤ k → S b ≠ 0 → envF N pk sp p nd τ → STS τ S b → (G ↔ R1 N pk pp tn sp S (b + 1) ∨ R2 N pk pp tn sp S b k) → (G ∧ ∃ τ', X1_flows_L57 rec f τ (71 + 10 * p) nd N t b k = some (1, τ') ∧ ∀ c, c ≠ 59 → τ' c = τ c) ∨ (∃ τ' S', X1_flows_L57 rec f τ (71 + 10 * p) nd N t b k = rec τ' (71 + 10 * p) nd N t ((b : Int) + 1) ∧ (∀ c, c ≠ 59 → τ' c = τ c) ∧ STS τ' S' (b + 1) ∧ (G ↔ R1 N pk pp tn sp S' (b + 1))) := by
  intro n
  induction n with
  | zero =>
    intro k f τ S h1 h2 h3 h4 h5 h6 h7
    obtain ⟨f, rfl⟩ : ∃ x, f = x + 1 := ⟨f - 1, by omega⟩
    refine Or.inr ⟨τ, S, ?_, fun _ _ => rfl, fun c c1 c2 => h6 c (by omega) c2, ?_⟩
    · show X1_flows_B57 _ _ _ _ _ _ _ _ _ = _
      unfold X1_flows_B57 X1_flows_B147
      rw [if_pos (by first | omega | (unfold w32; omega)), lt_v]
    · rw [h7]
      constructor
      · rintro (c | ⟨q, _, _, j, j1, j2, _⟩)
        · exact c
        · omega
      · exact Or.inl
  | succ n ih =>
    intro k f τ S h1 h2 h3 h4 h5 h6 h7
    obtain ⟨f, rfl⟩ : ∃ x, f = x + 1 := ⟨f - 1, by omega⟩
    have hhp := c_hasPage (τ := τ) (p := p) (b := b) (k := k) (hpk b k h3 (by omega)) (by omega) (by omega) (h5.2.1 b k h3 (by omega))
    have es := h5.2.2 k (by omega)
    have hSb := h6 b (by omega) (by omega)
    cases hv : pk b k with
    | none =>
      have e : X1_flows_L57 rec (f + 1) τ (71 + 10 * p) nd N t b k = X1_flows_L57 rec f τ (71 + 10 * p) nd N t b ((k + 1 : Nat) : Int) := by
        show X1_flows_B57 _ _ _ _ _ _ _ _ _ = _
        unfold X1_flows_B57 X1_flows_B141
        rw [if_neg (by first | omega | (unfold w32; omega)), bdk hhp, hv, if_pos (show (none : Option Int) = none from rfl), if_neg (by decide), lt_v]
        rfl
      rw [e]
      refine ih (k + 1) f τ S (by omega) (by omega) (by omega) h4 h5 h6 ?_
      rw [h7]
      constructor
      · rintro (c | ⟨q, q1, q2, j, j1, j2, j3, j4⟩)
        · exact Or.inl c
        · exact Or.inr ⟨q, q1, q2, j, by
            by_cases hj : j = k
            · rw [hj] at j3; exact absurd hv j3
            · omega, j2, j3, j4⟩
      · rintro (c | ⟨q, q1, q2, j, j1, j2, j3, j4⟩)
        · exact Or.inl c
        · exact Or.inr ⟨q, q1, q2, j, by omega, j2, j3, j4⟩
    | some v =>
      by_cases hk : k + 1 = N
      · refine Or.inl ⟨h7.mpr (Or.inr ?_), τ, ?_, fun _ _ => rfl⟩
        · obtain ⟨q, q1, q2⟩ := has_bit h4 hSb.2
          exact ⟨q, q1, q2, k, by omega, by omega, by rw [hv]; simp, fun c => by omega, nf_end (by omega)⟩
        · show X1_flows_B57 _ _ _ _ _ _ _ _ _ = _
          unfold X1_flows_B57
          rw [if_neg (by first | omega | (unfold w32; omega)), bdk hhp, hv, if_neg (show ¬ (some v = none) by simp), if_pos (by decide), if_neg (by first | omega | (unfold w32; omega))]
      · have hS1 := h6 (k + 1) (by omega) (by omega)
        have go : ∀ g : Nat, g < 4096 → (∀ j, j < 12 → (g.testBit j = true ↔ (S b).testBit j = true ∧ ¬ (tn j = true ∧ sp k = true))) → (G ∧ ∃ τ', X1_flows_B122 rec (X1_flows_L57 rec f) τ (71 + 10 * p) nd N t b k g = some (1, τ') ∧ ∀ c, c ≠ 59 → τ' c = τ c) ∨ (∃ τ' S', X1_flows_B122 rec (X1_flows_L57 rec f) τ (71 + 10 * p) nd N t b k g = rec τ' (71 + 10 * p) nd N t ((b : Int) + 1) ∧ (∀ c, c ≠ 59 → τ' c = τ c) ∧ STS τ' S' (b + 1) ∧ (G ↔ R1 N pk pp tn sp S' (b + 1))) := by
          intro g hg hgb
          have hlt : S (k + 1) ||| fst12 g < 2 ^ 12 := Nat.or_lt_two_pow hS1.2 fst12_lt
          have e : X1_flows_B122 rec (X1_flows_L57 rec f) τ (71 + 10 * p) nd N t b k g = X1_flows_L57 rec f (st τ 59 (k + 1) ((S (k + 1) ||| fst12 g : Nat) : Int)) (71 + 10 * p) nd N t b ((k + 1 : Nat) : Int) := by
            unfold X1_flows_B122 X1_flows_B141
            rw [lt_v, show (k : Int) + 1 = ((k + 1 : Nat) : Int) by omega, ag_nat (by omega) (by decide), bdk (c_followingSet hg), ag_nat (by omega) (by decide), lt_v, lt_v, hS1.1, iro_nn (by omega) (by have := @fst12_lt g; omega)]
          have e59 : st τ 59 (k + 1) ((S (k + 1) ||| fst12 g : Nat) : Int) 59 = up (τ 59) (k + 1) ((S (k + 1) ||| fst12 g : Nat) : Int) := st_self _ _ _ _
          have hfr : ∀ c, c ≠ 59 → st τ 59 (k + 1) ((S (k + 1) ||| fst12 g : Nat) : Int) c = τ c := fun c hc => st_ne hc
          rw [e]
          have key := ih (k + 1) f (st τ 59 (k + 1) ((S (k + 1) ||| fst12 g : Nat) : Int)) (fun c => if c = k + 1 then S (k + 1) ||| fst12 g else S c) (by omega) (by omega) (by omega) (by show (if b = k + 1 then S (k + 1) ||| fst12 g else S b) ≠ 0; rw [if_neg (by omega)]; exact h4) (h5.frame hfr) (fun c c1 c2 => by
            rw [e59]
            by_cases hc : c = k + 1
            · rw [hc, up_at]
              show _ = (((if k + 1 = k + 1 then S (k + 1) ||| fst12 g else S (k + 1) : Nat)) : Int) ∧ (if k + 1 = k + 1 then S (k + 1) ||| fst12 g else S (k + 1)) < 4096
              rw [if_pos rfl]
              exact ⟨rfl, by omega⟩
            · rw [up_ne hc]
              show _ = (((if c = k + 1 then S (k + 1) ||| fst12 g else S c : Nat)) : Int) ∧ (if c = k + 1 then S (k + 1) ||| fst12 g else S c) < 4096
              rw [if_neg hc]
              exact h6 c c1 c2) (by
            rw [h7]
            constructor
            · rintro (⟨c, c1, c2, q, q1, q2, q3⟩ | ⟨q, q1, q2, j, j1, j2, j3, j4, j5⟩)
              · refine Or.inl ⟨c, c1, c2, q, q1, ?_, q3⟩
                show (if c = k + 1 then S (k + 1) ||| fst12 g else S c).testBit q = true
                split
                · rename_i hc
                  rw [Nat.testBit_or, ← hc, q2]; rfl
                · exact q2
              · by_cases hj : j = k
                · refine Or.inl ⟨k + 1, by omega, by omega, qst (q + 1), qst_lt _, ?_, ?_⟩
                  · show (if k + 1 = k + 1 then S (k + 1) ||| fst12 g else S (k + 1)).testBit (qst (q + 1)) = true
                    rw [if_pos rfl, Nat.testBit_or, (fst12_bit hg).mpr ⟨q, q1, (hgb q q1).mpr ⟨q2, fun c => j4 ⟨by omega, c.1, by rw [hj]; exact c.2⟩⟩, rfl⟩, Bool.or_true]
                  · rw [nf_q htq, ← hj]; exact j5
                · exact Or.inr ⟨q, q1, by show (if b = k + 1 then S (k + 1) ||| fst12 g else S b).testBit q = true; rw [if_neg (by omega)]; exact q2, j, by omega, j2, j3, j4, j5⟩
            · rintro (⟨c, c1, c2, q, q1, q2, q3⟩ | ⟨q, q1, q2, j, j1, j2, j3, j4, j5⟩)
              · have q2' : (if c = k + 1 then S (k + 1) ||| fst12 g else S c).testBit q = true := q2
                split at q2'
                · rename_i hc
                  rw [Nat.testBit_or, Bool.or_eq_true] at q2'
                  rcases q2' with d | d
                  · exact Or.inl ⟨c, c1, c2, q, q1, by rw [hc]; exact d, q3⟩
                  · obtain ⟨j, j1, j2, j3⟩ := (fst12_bit hg).mp d
                    obtain ⟨j4, j5⟩ := (hgb j j1).mp j2
                    refine Or.inr ⟨j, j1, j4, k, by omega, by omega, by rw [hv]; simp, fun x => j5 ⟨x.2.1, x.2.2⟩, ?_⟩
                    rw [← nf_q htq, j3, ← hc]
                    exact q3
                · exact Or.inl ⟨c, c1, c2, q, q1, q2', q3⟩
              · have q2' : (if b = k + 1 then S (k + 1) ||| fst12 g else S b).testBit q = true := q2
                rw [if_neg (by omega)] at q2'
                exact Or.inr ⟨q, q1, q2', j, by omega, j2, j3, j4, j5⟩)
          rcases key with ⟨g1, τ', g2, g3⟩ | ⟨τ', S', g1, g2, g3, g4⟩
          · exact Or.inl ⟨g1, τ', g2, fun c hc => by rw [g3 c hc, hfr c hc]⟩
          · exact Or.inr ⟨τ', S', g1, fun c hc => by rw [g2 c hc, hfr c hc], g3, g4⟩
        have e : X1_flows_L57 rec (f + 1) τ (71 + 10 * p) nd N t b k = if τ 58 k < nd then X1_flows_B122 rec (X1_flows_L57 rec f) τ (71 + 10 * p) nd N t b k ((S b &&& (4294967295 ^^^ t) : Nat) : Int) else X1_flows_B122 rec (X1_flows_L57 rec f) τ (71 + 10 * p) nd N t b k (S b : Nat) := by
          show X1_flows_B57 _ _ _ _ _ _ _ _ _ = _
          unfold X1_flows_B57
          rw [if_neg (by first | omega | (unfold w32; omega)), bdk hhp, hv, if_neg (show ¬ (some v = none) by simp), if_pos (by decide), if_pos (by first | omega | (unfold w32; omega)), ag_nat (by omega) (by decide)]
          by_cases c : τ 58 k < nd
          · rw [if_pos (by first | omega | (unfold w32; omega)), ag_nat (by omega) (by decide), hSb.1, ian_not (by omega) (by omega), if_pos c]
          · rw [if_neg (by first | omega | (unfold w32; omega)), ag_nat (by omega) (by decide), hSb.1, if_neg c]
        rw [e]
        by_cases c : τ 58 k < nd
        · rw [if_pos c]
          refine go _ (Nat.lt_of_le_of_lt Nat.and_le_left hSb.2) (fun j hj => ?_)
          rw [not_bit hj, Bool.and_eq_true, Bool.not_eq_true', ← htn j hj]
          have hsp : sp k = true := by rw [es.2.2]; exact decide_eq_true c
          constructor
          · rintro ⟨d1, d2⟩
            exact ⟨d1, fun x => by rw [d2] at x; cases x.1⟩
          · rintro ⟨d1, d2⟩
            refine ⟨d1, ?_⟩
            cases htj : tn j with
            | false => rfl
            | true => exact absurd ⟨htj, hsp⟩ d2
        · rw [if_neg c]
          refine go _ hSb.2 (fun j hj => ?_)
          have hsp : sp k ≠ true := by rw [es.2.2]; simp [c]
          exact ⟨fun d => ⟨d, fun x => hsp x.2⟩, fun d => d.1⟩
theorem c_flowsB (hpk : ∀ b k, b ≤ k → k < N → bnd (pk b k)) (hpp : 0 ≤ pp ∧ pp ≤ 999) (hN : N ≤ 40) {p t : Nat} {nd : Int} (ht : t ≤ 1365) (htn : ∀ q, q < 12 → tn q = t.testBit q) (htq : ∀ g, tn (qst g) = tn g) (hnd : 0 ≤ nd ∧ nd ≤ 2000) (G : Prop) : ∀ (n b f : Nat) (τ : Mem) (S : Nat → Nat), b + n = N → n < f → envF N pk sp p nd τ → STS τ S b → (G ↔ R1 N pk pp tn sp S b) → ∃ v τ', X1_flows_L33 f τ (71 + 10 * p) nd N t b = some (v, τ') ∧ (∀ c, c ≠ 59 → τ' c = τ c) ∧ ((G ∧ v = 1) ∨ (¬ G ∧ v = 0)) := by
  intro n
  induction n with
  | zero =>
    intro b f τ S h1 h2 h3 h4 h5
    obtain ⟨f, rfl⟩ : ∃ x, f = x + 1 := ⟨f - 1, by omega⟩
    refine ⟨0, τ, ?_, fun _ _ => rfl, Or.inr ⟨?_, rfl⟩⟩
    · show X1_flows_B33 _ _ _ _ _ _ _ = _
      unfold X1_flows_B33
      rw [if_pos (by first | omega | (unfold w32; omega))]
    · rw [h5]
      rintro ⟨c, c1, c2, _⟩
      omega
  | succ n ih =>
    intro b f τ S h1 h2 h3 h4 h5
    obtain ⟨f, rfl⟩ : ∃ x, f = x + 1 := ⟨f - 1, by omega⟩
    have hSb := h4 b (by omega) (by omega)
    have hb : b < N := by omega
    show ∃ v τ', X1_flows_B33 _ _ _ _ _ _ _ = _ ∧ _
    unfold X1_flows_B33 X1_flows_B147
    rw [if_neg (by first | omega | (unfold w32; omega)), ag_nat (by omega) (by decide), hSb.1]
    by_cases h0 : S b = 0
    · rw [if_neg (by first | omega | (unfold w32; omega)), lt_v]
      exact ih (b + 1) f τ S (by omega) (by omega) h3 (fun c c1 c2 => h4 c (by omega) c2) (by
        rw [h5]
        constructor
        · rintro ⟨c, c1, c2, q, q1, q2, q3⟩
          by_cases hc : c = b
          · rw [hc, h0, Nat.zero_testBit] at q2; cases q2
          · exact ⟨c, by omega, c2, q, q1, q2, q3⟩
        · rintro ⟨c, c1, c2, q, q1, q2, q3⟩
          exact ⟨c, by omega, c2, q, q1, q2, q3⟩)
    · rw [if_pos (by first | omega | (unfold w32; omega))]
      have key := c_flowsK (tn := tn) hpk hpp hN ht htn htq hnd G (X1_flows_L33 f) hb (N - b) b 5000 τ S (by omega) (by omega) (by omega) h0 h3 h4 (by
        rw [h5]
        constructor
        · rintro ⟨c, c1, c2, q, q1, q2, q3⟩
          by_cases hc : c = b
          · rw [hc] at q2 q3
            exact Or.inr ⟨q, q1, q2, (nf_step hpk hpp hb).mp q3⟩
          · exact Or.inl ⟨c, by omega, c2, q, q1, q2, q3⟩
        · rintro (⟨c, c1, c2, q, q1, q2, q3⟩ | ⟨q, q1, q2, q3⟩)
          · exact ⟨c, by omega, c2, q, q1, q2, q3⟩
          · exact ⟨b, by omega, hb, q, q1, q2, (nf_step hpk hpp hb).mpr q3⟩)
      rcases key with ⟨g1, τ', g2, g3⟩ | ⟨τ', S', g1, g2, g3, g4⟩
      · exact ⟨1, τ', g2, g3, Or.inl ⟨g1, rfl⟩⟩
      · obtain ⟨v, τ2, u1, u2, u3⟩ := ih (b + 1) f τ' S' (by omega) (by omega) (h3.frame g2) g3 g4
        exact ⟨v, τ2, g1.trans u1, fun c hc => by rw [u2 c hc, g2 c hc], u3⟩
theorem c_flows (hpk : ∀ b k, b ≤ k → k < N → bnd (pk b k)) (hpp : 0 ≤ pp ∧ pp ≤ 999) (hN : N ≤ 40) {p x : Nat} {nd : Int} (hx : x < 1024) (hnd : 0 ≤ nd ∧ nd ≤ 2000) {τ : Mem} (he : envF N pk sp p nd τ) : ∃ v τ', X1_flows τ (71 + 10 * p) x nd = some (v, τ') ∧ (∀ c, c ≠ 59 → τ' c = τ c) ∧ (((0 < N ∧ nf N pk pp (tnB x) sp 0 0) ∧ v = 1) ∨ (¬ (0 < N ∧ nf N pk pp (tnB x) sp 0 0) ∧ v = 0)) := by
  have hl : ln 59 = 41 := rfl
  have hfe := fill_eq τ 59 0 (by rw [hl]; omega)
  rw [hl] at hfe
  have g1 : ∀ c, c ≠ 59 → st (fil τ 59 41 0) 59 0 1 c = τ c := fun c hc => by rw [st_ne hc, fil_ne hc]
  obtain ⟨v, τ', t1, t2, t3⟩ := c_flowsB (tn := tnB x) hpk hpp hN (trn_lt x) (fun q hq => tnB_t hx hq) (fun g => tnB_q hx) hnd (0 < N ∧ nf N pk pp (tnB x) sp 0 0) N 0 5000 (st (fil τ 59 41 0) 59 0 1) (fun c => if c = 0 then 1 else 0) (by omega) (by omega) (he.frame g1) (fun c c1 c2 => by
    rw [st_self]
    by_cases hc : c = 0
    · rw [hc, up_at]; exact ⟨rfl, by decide⟩
    · rw [up_ne hc, fil_in (by omega)]
      simp only [if_neg hc]
      exact ⟨rfl, by omega⟩) (by
    constructor
    · rintro ⟨h1, h2⟩
      exact ⟨0, by omega, h1, 0, by omega, rfl, h2⟩
    · rintro ⟨c, c1, c2, q, q1, q2, q3⟩
      by_cases hc : c = 0
      · rw [hc] at q2 q3 c2
        have : (1 : Nat).testBit q = decide (0 = q) := Nat.testBit_two_pow (n := 0) (m := q)
        simp only [if_true] at q2
        rw [this] at q2
        have hq := of_decide_eq_true q2
        rw [← hq] at q3
        exact ⟨c2, q3⟩
      · simp only [if_neg hc] at q2
        rw [Nat.zero_testBit] at q2
        cases q2)
  refine ⟨v, τ', ?_, fun c hc => by rw [t2 c hc, g1 c hc], t3⟩
  unfold X1_flows
  rw [lt_v, he.1, trn_eq hx, lt_v, bdk hfe, ag_ok (by omega) (by omega) (by decide), lt_v]
  exact t1
end
