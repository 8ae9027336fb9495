/-! as -/
def zz0 : Mem := fun _ _ => 0
def und (k o : Int) : Int := (X0_isUnder zz0 k o).getD 0
theorem under_c (σ τ : Mem) : ∀ n, X0_isUnder_L4 σ n = X0_isUnder_L4 τ n
  | 0 => rfl
  | n + 1 => by
    show X0_isUnder_B4 (X0_isUnder_L4 σ n) σ = X0_isUnder_B4 (X0_isUnder_L4 τ n) τ
    rw [under_c σ τ n]
    rfl
theorem under_m (σ τ : Mem) : ∀ n, X11_isUnder_L2 σ n = X11_isUnder_L2 τ n
  | 0 => rfl
  | n + 1 => by
    show X11_isUnder_B2 (X11_isUnder_L2 σ n) σ = X11_isUnder_B2 (X11_isUnder_L2 τ n) τ
    rw [under_m σ τ n]
    rfl
theorem under_all : ∀ k : Nat, k < 7 → ∀ o : Nat, o < 7 → X0_isUnder zz0 k o = some (und k o) ∧ X11_isUnder zz0 k o = some (und k o) ∧ (und k o = 0 ∨ und k o = 1) := by decide +kernel
theorem under_eq {σ : Mem} {k o : Int} (hk : 0 ≤ k ∧ k ≤ 6) (ho : 0 ≤ o ∧ o ≤ 6) : X0_isUnder σ k o = some (und k o) ∧ X11_isUnder σ k o = some (und k o) ∧ (und k o = 0 ∨ und k o = 1) := by
  obtain ⟨K, rfl⟩ : ∃ K : Nat, k = K := ⟨k.toNat, by omega⟩
  obtain ⟨O, rfl⟩ : ∃ O : Nat, o = O := ⟨o.toNat, by omega⟩
  have := under_all K (by omega) O (by omega)
  refine ⟨?_, ?_, this.2.2⟩
  · unfold X0_isUnder
    rw [under_c σ zz0]
    exact this.1
  · unfold X11_isUnder
    rw [under_m σ zz0]
    exact this.2.1
theorem c_as {σ : Mem} {s o : Int} (hs : inR s) (ho : inR o) (hn : 0 ≤ σ 4 3 ∧ σ 4 3 ≤ 30) (hk : ∀ k : Nat, (k : Int) < σ 4 3 → 0 ≤ σ 5 k ∧ σ 5 k ≤ 6) (hsp : ∀ i, i < 10 → -1 ≤ σ 8 i ∧ σ 8 i < σ 4 3) : X10_as σ s o = if (0 ≤ s ∧ s ≤ 9) ∧ 0 ≤ o ∧ o ≤ 6 then (if 0 ≤ σ 8 s.toNat then (if und (σ 5 (σ 8 s.toNat).toNat) o = 0 then some (-1000003, tel σ 2) else some (σ 8 s.toNat, σ)) else some (-1000006, tel σ 5)) else some (-1000001, tel σ 0) := by
  unfold X10_as X10_as_B20
  rw [within_if hs (iR0 (by decide) (by decide)) (iR0 (by decide) (by decide)), bd_some, wif0, tell_0, bd2_some, within_if ho (iR0 (by decide) (by decide)) (iR0 (by decide) (by decide)), bd_some, wif1]
  by_cases h1 : 0 ≤ s ∧ s ≤ 9
  · rw [if_pos h1]
    by_cases h2 : 0 ≤ o ∧ o ≤ 6
    · have h8 := hsp s.toNat (by omega)
      rw [if_pos h2, if_pos ⟨h1, h2⟩, ag_ok h1.1 (by omega) (by decide), lt_v, has_if ⟨by omega, by omega⟩ hn, bd_some, wif1]
      by_cases h3 : 0 ≤ σ 8 s.toNat
      · have u := under_eq (σ := σ) (hk (σ 8 s.toNat).toNat (by omega)) h2
        rw [if_pos ⟨h3, h8.2⟩, if_pos h3, ag_ok h3 (by omega) (by decide), u.1, bd_some]
        rcases u.2.2 with e | e <;> rw [e]
        · rw [if_pos (by decide), if_pos rfl, tell_2, bd2_some]
        · rw [if_neg (by decide), if_neg (by decide)]
      · rw [if_neg (fun q => h3 q.1), if_neg h3, tell_5, bd2_some]
    · rw [if_neg h2, if_neg (fun q => h2 q.2)]
  · rw [if_neg h1, if_neg (fun q => h1 q.1)]
theorem m_of {σ : Mem} {k : Int} {q : Int} (hk : 0 ≤ k ∧ k < 30) (hq : 0 ≤ q ∧ q ≤ 2) : X11_of σ k q = some (σ 112 (666 + 3 * k.toNat + q.toNat)) := by
  unfold X11_of
  rw [ag_ok (by omega) (by omega) (by decide), show (666 + 3 * k + q).toNat = 666 + 3 * k.toNat + q.toNat by omega]
theorem m_as {σ : Mem} {s o : Int} (hs : inR s) (ho : inR o) (hn : 0 ≤ σ 112 665 ∧ σ 112 665 ≤ 30) (hk : ∀ k : Nat, (k : Int) < σ 112 665 → 0 ≤ σ 112 (666 + 3 * k) ∧ σ 112 (666 + 3 * k) ≤ 6) (hsp : ∀ i, i < 10 → -1 ≤ σ 112 (756 + i) ∧ σ 112 (756 + i) < σ 112 665) : X11_as σ s o = if (0 ≤ s ∧ s ≤ 9) ∧ 0 ≤ o ∧ o ≤ 6 then (if 0 ≤ σ 112 (756 + s.toNat) then (if und (σ 112 (666 + 3 * (σ 112 (756 + s.toNat)).toNat)) o = 0 then some (-1000003, fnd σ 2) else some (σ 112 (756 + s.toNat), σ)) else some (-1000006, fnd σ 5)) else some (-1000001, fnd σ 0) := by
  unfold X11_as X11_as_B24
  rw [inR_w hs, inR_w ho, in_if hs (iR0 (by decide) (by decide)) (iR0 (by decide) (by decide)), bd_some, wif0, finds_0, bd2_some, in_if ho (iR0 (by decide) (by decide)) (iR0 (by decide) (by decide)), bd_some, wif1]
  by_cases h1 : 0 ≤ s ∧ s ≤ 9
  · rw [if_pos h1]
    by_cases h2 : 0 ≤ o ∧ o ≤ 6
    · have h8 := hsp s.toNat (by omega)
      rw [if_pos h2, if_pos ⟨h1, h2⟩, ag_ok (by omega) (by omega) (by decide), lt_v, show (756 + s).toNat = 756 + s.toNat by omega, w32_id (x := σ 112 (756 + s.toNat)) (by omega) (by omega)]
      by_cases h3 : 0 ≤ σ 112 (756 + s.toNat)
      · have u := under_eq (σ := σ) (hk (σ 112 (756 + s.toNat)).toNat (by omega)) h2
        rw [if_pos h3, if_pos h3, m_of ⟨h3, by omega⟩ ⟨by decide, by decide⟩, bd_some, show ((0 : Int).toNat) = 0 from rfl, Nat.add_zero, u.2.1, bd_some]
        rcases u.2.2 with e | e <;> rw [e]
        · rw [if_pos (by decide), if_pos rfl, finds_2, bd2_some]
        · rw [if_neg (by decide), if_neg (by decide)]
      · rw [if_neg h3, if_neg h3, finds_5, bd2_some]
    · rw [if_neg h2, if_neg (fun q => h2 q.2)]
  · rw [if_neg h1, if_neg (fun q => h1 q.1)]
/-! sheets: the class's row 64 + 2 s, the reference's 136, from 40 s on -/
def okBits (b : Int) : Prop := b = 0 ∨ b = 8 ∨ b = 16 ∨ b = 32
theorem sheet_ids : ∀ s, s < 4 → ln (63 + 2 * s + 1) = 40 := by decide +kernel
theorem c_sheet_ok {σ : Mem} {s : Nat} {b n : Int} (hs : s < 4) (hb : okBits b) (hn : 0 ≤ n ∧ n ≤ 40) : X10_sheet σ s b n = some (if b = 0 then 0 else n, fil (st (st σ (63 + 2 * s) 1 b) (63 + 2 * s) 2 (if b = 0 then 0 else n)) (64 + 2 * s) 40 0) := by
  have e : X10_sheet_B27 σ s b n 1 = some (if b = 0 then 0 else n, fil (st (st σ (63 + 2 * s) 1 b) (63 + 2 * s) 2 (if b = 0 then 0 else n)) (64 + 2 * s) 40 0) := by
    have hb2 : w32 b = b := by rcases hb with rfl | rfl | rfl | rfl <;> rfl
    unfold X10_sheet_B27
    rw [isSheet_t (by omega) (by omega), bd_some, if_neg (by decide), if_pos (by decide), w32_id (x := n) (by omega) (by omega), if_pos hn.1, w32_id (x := 40) (by decide) (by decide), if_pos hn.2, ag_nat hs (by decide)]
    unfold X6_renew X6_renew_B15
    rw [lt_v, hb2]
    by_cases h0 : b = 0
    · rw [if_neg (by omega), lt_v, fill_eq _ _ _ (by rw [sheet_ids s hs]; decide), bd_some, bd2_some, sheet_ids s hs, fil_ne (by omega), st_at, if_pos h0, show 63 + 2 * s + 1 = 64 + 2 * s by omega]
    · rw [if_pos h0, lt_v, fill_eq _ _ _ (by rw [sheet_ids s hs]; decide), bd_some, bd2_some, sheet_ids s hs, fil_ne (by omega), st_at, if_neg h0, show 63 + 2 * s + 1 = 64 + 2 * s by omega]
  unfold X10_sheet X10_sheet_B22
  rcases hb with rfl | rfl | rfl | rfl
  · rw [if_pos (by decide)]; exact e
  · rw [if_neg (by decide), if_pos (by decide)]; exact e
  · rw [if_neg (by decide), if_neg (by decide), if_pos (by decide)]; exact e
  · rw [if_neg (by decide), if_neg (by decide), if_neg (by decide), if_neg (by decide)]; exact e
theorem c_sheet_no {σ : Mem} {s b n : Int} (hs : inR s) (hb : inR b) (hn : inR n) : (¬ (0 ≤ s ∧ s ≤ 3) ∨ ¬ okBits b → X10_sheet σ s b n = some (-1000001, tel σ 0)) ∧ ((0 ≤ s ∧ s ≤ 3) ∧ okBits b → n < 0 → X10_sheet σ s b n = some (-1000007, tel σ 6)) ∧ ((0 ≤ s ∧ s ≤ 3) ∧ okBits b → 40 < n → X10_sheet σ s b n = some (-1000001, tel σ 0)) := by
  have e : X10_sheet σ s b n = X10_sheet_B27 σ s b n (if b = 0 ∨ b = 8 ∨ b = 16 ∨ b = 32 then 1 else 0) := by
    unfold X10_sheet X10_sheet_B22
    rw [inR_w hb, w32_id (x := 8) (by decide) (by decide), w32_id (x := 16) (by decide) (by decide), w32_id (x := 32) (by decide) (by decide)]
    by_cases h0 : b = 0
    · rw [if_pos h0, if_pos (Or.inl h0)]
    · rw [if_neg h0]
      by_cases h8 : b = 8
      · rw [if_pos h8, if_pos (by omega)]
      · rw [if_neg h8]
        by_cases h16 : b = 16
        · rw [if_pos h16, if_pos (by omega)]
        · rw [if_neg h16]
          by_cases h32 : b = 32
          · rw [if_neg (by omega), if_pos (by omega)]
          · rw [if_pos h32, if_neg (by omega)]
  rw [e]
  unfold X10_sheet_B27 X10_sheet_B41 okBits
  rw [isSheet_if hs, bd_some, wif0, wif1, inR_w hn, w32_id (x := 40) (by decide) (by decide), tell_0, bd2_some, tell_6, bd2_some]
  refine ⟨fun h => ?_, fun h hn0 => ?_, fun h hn0 => ?_⟩
  · by_cases h1 : 0 ≤ s ∧ s ≤ 3
    · rw [if_pos h1]
      rcases h with h | h
      · exact absurd h1 h
      · rw [if_neg h]
    · rw [if_neg h1]
  · rw [if_pos h.1, if_pos h.2, if_neg (by omega)]
  · rw [if_pos h.1, if_pos h.2, if_pos (by omega), if_neg (by omega)]
