/-! write, copy -/
def cwv (b v : Int) : Int := if b = 8 then ian v 255 else if b = 16 then ian v 65535 else v
def mwv (b v : Int) : Int := if b = 8 then ib8 v else if b = 16 then is16 v else v
theorem nrel_w {b v : Int} (hv : inR v) : nrel (cwv b v) (mwv b v) := by
  unfold cwv mwv
  by_cases h8 : b = 8
  · rw [if_pos h8, if_pos h8]; exact nrel_8
  · rw [if_neg h8, if_neg h8]
    by_cases h16 : b = 16
    · rw [if_pos h16, if_pos h16]; exact nrel_16
    · rw [if_neg h16, if_neg h16]; exact nrel_32 hv
theorem okBits_w {b : Int} (h : okBits b) : w32 b = b := by rcases h with rfl | rfl | rfl | rfl <;> rfl
theorem okBits_le {b : Int} (h : okBits b) : 0 ≤ b ∧ b ≤ 32 := by rcases h with rfl | rfl | rfl | rfl <;> decide
theorem c_write {σ : Mem} {s i v : Int} (hs : inR s) (hi : inR i) (hb : ∀ s, s < 4 → okBits (σ (63 + 2 * s) 1)) (hl : ∀ s, s < 4 → 0 ≤ σ (63 + 2 * s) 2 ∧ σ (63 + 2 * s) 2 ≤ 40) : X10_write σ s i v = if 0 ≤ s ∧ s ≤ 3 then (if σ (63 + 2 * s.toNat) 1 = 0 then some (-1000006, tel σ 5) else if 0 ≤ i ∧ i < σ (63 + 2 * s.toNat) 2 then some (1, st σ (64 + 2 * s.toNat) i.toNat (cwv (σ (63 + 2 * s.toNat) 1) v)) else some (-1000001, tel σ 0)) else some (-1000001, tel σ 0) := by
  unfold X10_write X6_isMissing X6_put
  obtain ⟨s1, s2⟩ := hs
  obtain ⟨i1, i2⟩ := hi
  rw [isSheet_if ⟨s1, s2⟩, bd_some, wif1]
  by_cases h1 : 0 ≤ s ∧ s ≤ 3
  · have hl2 := hl s.toNat (by omega)
    have hb2 := hb s.toNat (by omega)
    have hb3 : 0 ≤ σ (63 + 2 * s.toNat) 1 ∧ σ (63 + 2 * s.toNat) 1 ≤ 32 := okBits_le hb2
    by_cases h2 : σ (63 + 2 * s.toNat) 1 = 0
    · simp (disch := omega) only [bd_some, bd2_some, ag_ok, w32_id, if_pos, if_neg, if_true, if_false, lt_v, tell_5]
    · by_cases h3 : 0 ≤ i ∧ i < σ (63 + 2 * s.toNat) 2
      · have e : 63 + 2 * s.toNat + 1 = 64 + 2 * s.toNat := by omega
        by_cases h8 : σ (63 + 2 * s.toNat) 1 = 8
        · simp (disch := omega) only [bd_some, bd2_some, ag_ok, w32_id, if_pos, if_neg, if_true, if_false, lt_v, cwv, e]
        · by_cases h16 : σ (63 + 2 * s.toNat) 1 = 16
          · simp (disch := omega) only [bd_some, bd2_some, ag_ok, w32_id, if_pos, if_neg, if_true, if_false, lt_v, cwv, e]
          · simp (disch := omega) only [bd_some, bd2_some, ag_ok, w32_id, if_pos, if_neg, if_true, if_false, lt_v, cwv, e]
      · by_cases h4 : i < 0
        · simp (disch := omega) only [bd_some, bd2_some, ag_ok, w32_id, if_pos, if_neg, if_true, if_false, lt_v, tell_0]
        · simp (disch := omega) only [bd_some, bd2_some, ag_ok, w32_id, if_pos, if_neg, if_true, if_false, lt_v, tell_0]
  · simp (disch := omega) only [bd_some, bd2_some, ag_ok, w32_id, if_pos, if_neg, if_true, if_false, lt_v, tell_0]
theorem m_write {σ : Mem} {s i v : Int} (hs : inR s) (hi : inR i) (hb : ∀ s, s < 4 → okBits (σ 134 s)) (hl : ∀ s, s < 4 → 0 ≤ σ 135 s ∧ σ 135 s ≤ 40) : X11_write σ s i v = if 0 ≤ s ∧ s ≤ 3 then (if σ 134 s.toNat = 0 then some (-1000006, fnd σ 5) else if 0 ≤ i ∧ i < σ 135 s.toNat then some (1, st σ 136 (40 * s.toNat + i.toNat) (mwv (σ 134 s.toNat) v)) else some (-1000001, fnd σ 0)) else some (-1000001, fnd σ 0) := by
  unfold X11_write
  obtain ⟨s1, s2⟩ := hs
  obtain ⟨i1, i2⟩ := hi
  rw [mSheet_if ⟨s1, s2⟩, bd_some, wif1]
  by_cases h1 : 0 ≤ s ∧ s ≤ 3
  · have hl2 := hl s.toNat (by omega)
    have hb2 := hb s.toNat (by omega)
    have hb3 : 0 ≤ σ 134 s.toNat ∧ σ 134 s.toNat ≤ 32 := okBits_le hb2
    have hi2 : inR i := ⟨i1, i2⟩
    have h0 : inR 0 := iR0 (by decide) (by decide)
    have hj : inR (σ 135 s.toNat - 1) := ⟨by omega, by omega⟩
    by_cases h2 : σ 134 s.toNat = 0
    · simp (disch := omega) only [bd_some, bd2_some, ag_ok, w32_id, if_pos, if_neg, if_true, if_false, lt_v, finds_5]
    · by_cases h3 : 0 ≤ i ∧ i < σ 135 s.toNat
      · have e : (40 * s + i).toNat = 40 * s.toNat + i.toNat := by omega
        by_cases h8 : σ 134 s.toNat = 8
        · simp (disch := omega) only [bd_some, bd2_some, ag_ok, w32_id, if_pos, if_neg, if_true, if_false, lt_v, in_if hi2 h0 hj, wif1, mwv, e]
        · by_cases h16 : σ 134 s.toNat = 16
          · simp (disch := omega) only [bd_some, bd2_some, ag_ok, w32_id, if_pos, if_neg, if_true, if_false, lt_v, in_if hi2 h0 hj, wif1, mwv, e]
          · simp (disch := omega) only [bd_some, bd2_some, ag_ok, w32_id, if_pos, if_neg, if_true, if_false, lt_v, in_if hi2 h0 hj, wif1, mwv, e]
      · simp (disch := omega) only [bd_some, bd2_some, ag_ok, w32_id, if_pos, if_neg, if_true, if_false, lt_v, in_if hi2 h0 hj, wif1, finds_0]
  · simp (disch := omega) only [bd_some, bd2_some, ag_ok, w32_id, if_pos, if_neg, if_true, if_false, lt_v, finds_0]
def okStr (n from' k : Int) : Prop := 0 ≤ from' ∧ 0 ≤ k ∧ k ≤ n - from'
theorem stretch_if {σ : Mem} {B : Nat} {a k : Int} (ha : inR a) (hk : inR k) (hl : 0 ≤ σ B 2 ∧ σ B 2 ≤ 40) : X6_hasStretch σ B a k = some (if 0 ≤ a ∧ 0 ≤ k ∧ k ≤ σ B 2 - a then 1 else 0) := by
  unfold X6_hasStretch
  rw [inR_w ha, inR_w hk, w32_id (x := σ B 2) (by omega) (by omega)]
  by_cases h1 : a < 0
  · rw [if_pos h1, if_neg (by omega)]
  · rw [if_neg h1]
    by_cases h2 : k < 0
    · rw [if_pos h2, if_neg (by omega)]
    · rw [if_neg h2]
      by_cases h3 : σ B 2 < a
      · rw [if_pos h3, if_neg (by omega)]
      · rw [if_neg h3, w32_id (by omega) (by omega)]
        by_cases h4 : σ B 2 - a < k
        · rw [if_pos h4, if_neg (by omega)]
        · rw [if_neg h4, if_pos (by omega)]
