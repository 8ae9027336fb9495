/-! the class's tokens -/
/-- the steps inside a token pass by -/
theorem c_splitSkip {B : Nat → Int} {n : Nat} {τ : Mem} (hb : byR τ B n) {p : Nat} (hp : p ≤ n) : ∀ (d i f : Nat), i + d = p → X8_split_L9 (f + d) τ p i = X8_split_L9 f τ p p := by
  have hn := hb.2.1
  intro d
  induction d with
  | zero =>
    intro i f h
    have e : i = p := by omega
    rw [e]
    rfl
  | succ d ih =>
    intro i f h
    have e := ih (i + 1) f (by omega)
    show X8_split_B9 _ _ _ _ = _
    unfold X8_split_B9 X8_split_B45
    rw [hb.1, if_neg (by first | omega | (unfold w32; omega)), if_pos (by first | omega | (unfold w32; omega)), lt_v]
    exact e
theorem c_splitL {B : Nat → Int} {n : Nat} {τ1 : Mem} (h1 : byR τ1 B n) : ∀ (m i p f k : Nat) (τ : Mem), p ≤ i → i + m = n → m < f → (∀ q, q ≠ 42 → q ≠ 44 → q ≠ 45 → q ≠ 46 → τ q = τ1 q) → (∀ j, j ≠ 5 → τ 42 j = τ1 42 j) → τ 42 5 = k → nsp B n i = tS B n k → k ≤ i → (∀ j, j < k → tS B n j < n ∧ tokC B n τ j) → ∃ (τ' : Mem) (T : Nat), X8_split_L9 f τ p i = some τ' ∧ (∀ q, q ≠ 42 → q ≠ 44 → q ≠ 45 → q ≠ 46 → τ' q = τ1 q) ∧ (∀ j, j ≠ 5 → τ' 42 j = τ1 42 j) ∧ τ' 42 5 = T ∧ T ≤ n ∧ tS B n T = n ∧ (∀ j, j < T → tS B n j < n) ∧ ∀ j, j ≤ T → tokC B n τ' j := by
  intro m
  induction m using Nat.strongRecOn with
  | ind m ih =>
    intro i p f k τ a0 a1 a2 a3 a4 a5 a6 a7 a8
    obtain ⟨f, rfl⟩ : ∃ x, f = x + 1 := ⟨f - 1, by omega⟩
    have hb : byR τ B n := ⟨by rw [a4 1 (by omega)]; exact h1.1, h1.2.1, fun j hj => by rw [a3 43 (by omega) (by omega) (by omega) (by omega)]; exact h1.2.2 j hj⟩
    have hn := h1.2.1
    by_cases hin : n ≤ i
    · have hi : i = n := by omega
      have hTn : tS B n k = n := by rw [← a6, hi, nsp_end]
      have hK : kdP B n (tS B n k) = 0 := if_pos (by omega)
      have e2 : st τ 44 k 0 42 = τ 42 := st_ne (by omega)
      have e4 : st (st τ 44 k 0) 45 k (n : Int) 42 = τ 42 := by rw [st_ne (by omega), st_ne (by omega)]
      have g44 : st (st (st τ 44 k 0) 45 k (n : Int)) 46 k 0 44 = up (τ 44) k 0 := by rw [st_ne (by omega), st_ne (by omega), st_self]
      have g45 : st (st (st τ 44 k 0) 45 k (n : Int)) 46 k 0 45 = up (τ 45) k n := by rw [st_ne (by omega), st_self, st_ne (by omega)]
      have g46 : st (st (st τ 44 k 0) 45 k (n : Int)) 46 k 0 46 = up (τ 46) k 0 := by rw [st_self, st_ne (by omega), st_ne (by omega)]
      have g42 : st (st (st τ 44 k 0) 45 k (n : Int)) 46 k 0 42 = τ 42 := by rw [st_ne (by omega)]; exact e4
      refine ⟨st (st (st τ 44 k 0) 45 k (n : Int)) 46 k 0, k, ?_, fun q q1 q2 q3 q4 => by rw [st_ne q4, st_ne q3, st_ne q2, a3 q q1 q2 q3 q4], fun j hj => by rw [g42, a4 j hj], by rw [g42]; exact a5, by omega, hTn, fun j hj => (a8 j hj).1, fun j hj => ?_⟩
      · show X8_split_B9 _ _ _ _ = _
        unfold X8_split_B9
        rw [hb.1, if_pos (by first | omega | (unfold w32; omega)), a5, ag_nat (by omega) (by decide), lt_v, e2, a5, ag_nat (by omega) (by decide), lt_v]
        rw [show τ 42 1 = n from hb.1, e4, a5, ag_nat (by omega) (by decide), lt_v]
      · unfold tokC
        rw [g44, g45, g46]
        by_cases hjk : j = k
        · rw [hjk, up_at, up_at, up_at, hTn]
          refine ⟨by rw [hTn] at hK; exact hK.symm, rfl, ⟨fun x => ?_, fun x => ?_⟩, by omega⟩
          · rw [hTn] at hK; omega
          · rw [hTn] at hK; omega
        · rw [up_ne hjk, up_ne hjk, up_ne hjk]
          exact (a8 j (by omega)).2
    · have hlt : i < n := by omega
      have hby := hb.2.2 i hlt
      by_cases hsp : pS B n i = true
      · have hb32 : B i = 32 := by
          unfold pS at hsp
          rw [Bool.and_eq_true, decide_eq_true_eq, decide_eq_true_eq] at hsp
          exact hsp.2
        obtain ⟨τ', T, t1, t2⟩ := ih (m - 1) (by omega) (i + 1) p f k τ (by omega) (by omega) (by omega) a3 a4 a5 (by rw [← nsp_step hsp]; exact a6) (by omega) a8
        refine ⟨τ', T, ?_, t2⟩
        show X8_split_B9 _ _ _ _ = _
        unfold X8_split_B9 X8_split_B45
        rw [hb.1, if_neg (by first | omega | (unfold w32; omega)), if_neg (by first | omega | (unfold w32; omega)), ag_nat (by omega) (by decide), show τ 43 i = 32 by omega, if_pos rfl, lt_v]
        exact t1
      · have hs : tS B n k = i := by rw [← a6, nsp_stop hsp]
        have hb32 : B i ≠ 32 := fun c => hsp (by
          unfold pS
          rw [Bool.and_eq_true, decide_eq_true_eq, decide_eq_true_eq]
          exact ⟨hlt, c⟩)
        have hte := tE_in (B := B) hlt
        obtain ⟨τ2, u1, u2, u3, u4, u5, u6, u7, u8, u9⟩ := c_addToken hb hlt a5 (by omega)
        have hb2 : byR τ2 B n := ⟨by rw [u3 1 (by omega)]; exact hb.1, hn, fun j hj => by rw [u2 43 (by omega) (by omega) (by omega) (by omega)]; exact hb.2.2 j hj⟩
        obtain ⟨g, rfl⟩ : ∃ x, f = x + (tE B n i - (i + 1)) := ⟨f - (tE B n i - (i + 1)), by omega⟩
        have sk := c_splitSkip hb2 hte.2 (tE B n i - (i + 1)) (i + 1) g (by omega)
        obtain ⟨τ', T, t1, t2⟩ := ih (n - tE B n i) (by omega) (tE B n i) (tE B n i) g (k + 1) τ2 (by omega) (by omega) (by omega) (fun q q1 q2 q3 q4 => by rw [u2 q q1 q2 q3 q4, a3 q q1 q2 q3 q4]) (fun j hj => by rw [u3 j hj, a4 j hj]) (by rw [u4]; rfl) (by show _ = nsp B n (tE B n (tS B n k)); rw [hs]) (by omega) (fun j hj => by
          by_cases hjk : j = k
          · rw [hjk]
            refine ⟨by omega, ?_⟩
            unfold tokC
            rw [hs]
            exact ⟨u6, u7, u8, u9⟩
          · have := a8 j (by omega)
            refine ⟨this.1, ?_⟩
            have e := u5 j hjk
            unfold tokC
            rw [e.1, e.2.1, e.2.2]
            exact this.2)
        refine ⟨τ', T, ?_, t2⟩
        show X8_split_B9 _ _ _ _ = _
        unfold X8_split_B9 X8_split_B45
        rw [hb.1, if_neg (by first | omega | (unfold w32; omega)), if_neg (by first | omega | (unfold w32; omega)), ag_nat (by omega) (by decide), if_neg (by rw [w32_id (by omega) (by omega), show w32 32 = 32 from rfl]; omega), bdk (c_behind hb hlt), bdk u1, lt_v]
        exact sk.trans t1
theorem c_split {B : Nat → Int} {n : Nat} {τ : Mem} (h : byR τ B n) : ∃ (τ' : Mem) (T : Nat), X8_split τ = some τ' ∧ (∀ q, q ≠ 42 → q ≠ 44 → q ≠ 45 → q ≠ 46 → τ' q = τ q) ∧ (∀ j, j ≠ 5 → τ' 42 j = τ 42 j) ∧ τ' 42 5 = T ∧ T ≤ n ∧ tS B n T = n ∧ (∀ j, j < T → tS B n j < n) ∧ ∀ j, j ≤ T → tokC B n τ' j := by
  have hn := h.2.1
  have e42 : st τ 42 5 0 42 = up (τ 42) 5 0 := st_self _ _ _ _
  have hb : byR (st τ 42 5 0) B n := ⟨by rw [e42, up_ne (by omega)]; exact h.1, h.2.1, fun i hi => by rw [st_ne (by omega)]; exact h.2.2 i hi⟩
  obtain ⟨τ', T, t1, t2, t3, t4⟩ := c_splitL hb n 0 0 5000 0 (st τ 42 5 0) (by omega) (by omega) (by omega) (fun _ _ _ _ _ => rfl) (fun _ _ => rfl) (by rw [e42, up_at]; rfl) rfl (by omega) (fun j hj => by omega)
  refine ⟨τ', T, ?_, fun q q1 q2 q3 q4 => by rw [t2 q q1 q2 q3 q4, st_ne q1], fun j hj => by rw [t3 j hj, e42, up_ne hj], t4⟩
  unfold X8_split
  rw [lt_v]
  exact t1
/-- the class's view of its tokens -/
def TK (B : Nat → Int) (n T : Nat) (τ : Mem) : Prop := τ 42 5 = T ∧ T ≤ n ∧ n ≤ 120 ∧ tS B n T = n ∧ (∀ j, j < T → tS B n j < n) ∧ ∀ j, j ≤ T → tokC B n τ j
theorem TK.frame {B : Nat → Int} {n T : Nat} {τ τ' : Mem} (h : TK B n T τ) (h1 : τ' 42 = τ 42) (h2 : τ' 44 = τ 44) (h3 : τ' 45 = τ 45) (h4 : τ' 46 = τ 46) : TK B n T τ' := by
  obtain ⟨a, b, c, d, e, f⟩ := h
  refine ⟨by rw [h1]; exact a, b, c, d, e, fun j hj => ?_⟩
  unfold tokC
  rw [h2, h3, h4]
  exact f j hj
theorem TK.at {B : Nat → Int} {n T : Nat} {τ : Mem} (h : TK B n T τ) {k : Nat} (hk : k ≤ T) : X8_kindOf τ k = some (kdP B n (tS B n k)) ∧ X8_startOf τ k = some ((tS B n k : Nat) : Int) ∧ ∃ c, X8_valueOf τ k = some c ∧ tokV B n (tS B n k) c ∧ 0 ≤ c ∧ c ≤ 10000 := by
  obtain ⟨a, b, c, d, e, f⟩ := h
  obtain ⟨g1, g2, g3, g4⟩ := f k hk
  have hkn : X8_known τ k = some (k : Int) := by
    unfold X8_known
    rw [if_neg (by first | omega | (unfold w32; omega)), a]
    by_cases x : T ≤ k
    · rw [if_pos (by first | omega | (unfold w32; omega)), show T = k by omega]
    · rw [if_neg (by first | omega | (unfold w32; omega))]
  refine ⟨?_, ?_, τ 46 k, ?_, g3, g4⟩
  · unfold X8_kindOf
    rw [bdk hkn, ag_nat (by omega) (by decide), g1]
  · unfold X8_startOf
    rw [bdk hkn, ag_nat (by omega) (by decide), g2]
  · unfold X8_valueOf
    rw [bdk hkn, ag_nat (by omega) (by decide)]
