/-! needs -/
section
variable {N : Nat} {pk : Nat → Nat → Option Int} {pp : Int} {tn : Nat → Bool}
theorem nf_mono (hpk : ∀ b k, b ≤ k → k < N → bnd (pk b k)) (hpp : 0 ≤ pp ∧ pp ≤ 999) {sp sp' : Nat → Bool} (h : ∀ k, k < N → sp' k = true → sp k = true) : ∀ (d g b : Nat), N - b ≤ d → nf N pk pp tn sp g b → nf N pk pp tn sp' g b
  | 0, g, b, hd, _ => nf_end (by omega)
  | d + 1, g, b, hd, hn => by
    by_cases hb : N ≤ b
    · exact nf_end hb
    · obtain ⟨k, k1, k2, k3, k4, k5⟩ := (nf_step hpk hpp (by omega)).mp hn
      exact (nf_step hpk hpp (by omega)).mpr ⟨k, k1, k2, k3, fun c => k4 ⟨c.1, c.2.1, h k k2 c.2.2⟩, nf_mono hpk hpp h d (g + 1) (k + 1) (by omega) k5⟩
theorem bW_ex (hpk : ∀ b k, b ≤ k → k < N → bnd (pk b k)) (hpp : 0 ≤ pp ∧ pp ≤ 999) {sp sp' : Nat → Bool} (h0 : ∀ k, k < N → sp' k = false) : ∀ (d g b : Nat), N - b ≤ d → (bW N pk pp tn sp g b ≠ none ↔ nf N pk pp tn sp' g b)
  | 0, g, b, hd => ⟨fun _ => nf_end (by omega), fun _ => by rw [bW_end (by omega)]; simp⟩
  | d + 1, g, b, hd => by
    by_cases hb : N ≤ b
    · exact ⟨fun _ => nf_end hb, fun _ => by rw [bW_end hb]; simp⟩
    · constructor
      · intro hn
        cases hw : bW N pk pp tn sp g b with
        | none => exact absurd hw hn
        | some w =>
          obtain ⟨v, u, k, k1, k2, k3, k4, k5⟩ := bW_sel (by omega) hw
          exact (nf_step hpk hpp (by omega)).mpr ⟨k, k1, k2, by rw [k3]; simp, fun c => by rw [h0 k k2] at c; exact absurd c.2.2 (by simp), (bW_ex hpk hpp h0 d (g + 1) (k + 1) (by omega)).mp (by rw [k4]; simp)⟩
      · intro hn
        obtain ⟨k, k1, k2, k3, k4, k5⟩ := (nf_step hpk hpp (by omega)).mp hn
        have h1 := (bW_ex (sp := sp) hpk hpp h0 d (g + 1) (k + 1) (by omega)).mpr k5
        cases hu : bW N pk pp tn sp (g + 1) (k + 1) with
        | none => exact absurd hu h1
        | some u =>
          cases hv : pk b k with
          | none => exact absurd hv k3
          | some v =>
            have hc : cnd N pk pp tn sp g b k (bW N pk pp tn sp (g + 1) (k + 1)) = some (u.1 + (if k + 1 < N ∧ tn g = true ∧ sp k = true then 1 else 0), v / 4 + pp + u.2.1, 1 + u.2.2.1, k) := by
              rw [hu]; unfold cnd; rw [hv]
            obtain ⟨w, w1, w2⟩ := bfl_le (f := fun k => cnd N pk pp tn sp g b k (bW N pk pp tn sp (g + 1) (k + 1))) (N - b) b none _ (Or.inr ⟨k, k1, by omega, hc⟩)
            rw [bW_eq (by omega), w1]
            simp
end
/-- the part flows at a need -/
def flP (r : Nat → Int) (p : Nat) (n : Int) : Prop := 0 < (r (9 + 165 * p)).toNat ∧ nf (r (9 + 165 * p)).toNat (pkn r p 3) (r 4) (tnB (r (8 + 165 * p)).toNat) (fun k => decide (esS r p (r (6 + 165 * p)) k < n)) 0 0
theorem flP_mono {r : Nat → Int} (hw : WF r) {p : Nat} (hp : p < 4) {n m : Int} (h : n ≤ m) (hm : flP r p m) : flP r p n := by
  have h40 := hw.bars hp
  refine ⟨hm.1, nf_mono (fun b k _ hk => bnd_pkn hw hp (by omega) 3 (by omega)) hw.page (fun k _ hk => ?_) _ 0 0 (Nat.le_refl _) hm.2⟩
  have := of_decide_eq_true hk
  exact decide_eq_true (by omega)
theorem needsC {r : Nat → Int} (hw : WF r) {p : Nat} (hp : p < 4) {τ1 : Mem} (hpt : PT r p τ1) (hes : ∀ j : Nat, (j : Int) < r (9 + 165 * p) → τ1 58 j = esS r p (r (6 + 165 * p)) j) : ∀ (j f : Nat) (τ : Mem) (w : Nat), j ≤ 10 → j < f → (∀ c, c ≠ 59 → τ c = τ1 c) → flP r p w → (1024 ≤ w + 2 ^ j ∨ ¬ flP r p ((w + 2 ^ j : Nat) : Int)) → w + 2 ^ j ≤ 1024 → ∃ (u : Nat) (τ' : Mem), X10_needs_L85 f τ (71 + 10 * p) (r (8 + 165 * p)) w ((2 ^ j / 2 : Nat) : Int) = (if u < 999 then some (((u : Int) + 1), τ') else some (-1000004, tel τ' 3)) ∧ (∀ c, c ≠ 59 → τ' c = τ1 c) ∧ flP r p u ∧ (1023 ≤ u ∨ ¬ flP r p ((u : Int) + 1)) ∧ u ≤ 1023 := by
  have hfl := hw.flds hp
  obtain ⟨x, hx⟩ : ∃ x : Nat, r (8 + 165 * p) = x := ⟨(r (8 + 165 * p)).toNat, by omega⟩
  intro j
  induction j with
  | zero =>
    intro f τ w h1 h2 h3 h4 h5 h6
    obtain ⟨f, rfl⟩ : ∃ x, f = x + 1 := ⟨f - 1, by omega⟩
    refine ⟨w, τ, ?_, h3, h4, ?_, by omega⟩
    · show X10_needs_B85 _ _ _ _ _ _ = _
      unfold X10_needs_B85
      rw [if_pos (by decide)]
      by_cases c : w < 999
      · rw [if_neg (by first | omega | (unfold w32; omega)), if_pos c]
      · rw [if_pos (by first | omega | (unfold w32; omega)), if_neg c, bd2k (tell_3 τ)]
    · rcases h5 with h | h
      · exact Or.inl (by omega)
      · exact Or.inr h
  | succ j ih =>
    intro f τ w h1 h2 h3 h4 h5 h6
    obtain ⟨f, rfl⟩ : ∃ x, f = x + 1 := ⟨f - 1, by omega⟩
    have hpos : 0 < 2 ^ j := Nat.two_pow_pos j
    have hp2 : 2 ^ (j + 1) = 2 * 2 ^ j := by rw [Nat.pow_succ, Nat.mul_comm]
    have hd : 2 ^ (j + 1) / 2 = 2 ^ j := by omega
    rw [hp2] at h5 h6
    obtain ⟨v, τ3, u1, u2, u3⟩ := tryC hw hp (x := x) (by omega) (m := r (6 + 165 * p)) (nd := ((w + 2 ^ j : Nat) : Int)) (by omega) (τ := τ) (hpt.frame (h3 _ (by omega)) (h3 _ (by omega))) (fun k hk => by rw [h3 58 (by omega)]; exact hes k hk)
    have f3 : ∀ c, c ≠ 59 → τ3 c = τ1 c := fun c c2 => by rw [u2 c c2, h3 c c2]
    have hisr : isr ((2 ^ j : Nat) : Int) 1 = ((2 ^ j / 2 : Nat) : Int) := by
      have := isr_eq ((2 ^ j : Nat) : Int) (k := 1) (by omega)
      rw [w32_id (by omega) (by omega)] at this
      have e : isr ((2 ^ j : Nat) : Int) 1 = ((2 ^ j : Nat) : Int) / 2 ^ 1 := this
      rw [e]
      omega
    have hfe : flP r p ((w + 2 ^ j : Nat) : Int) ↔ 0 < (r (9 + 165 * p)).toNat ∧ nf (r (9 + 165 * p)).toNat (pkn r p 3) (r 4) (tnB x) (fun k => decide (esS r p (r (6 + 165 * p)) k < ((w + 2 ^ j : Nat) : Int))) 0 0 := by
      unfold flP
      rw [hx, Int.toNat_natCast]
    have e : X10_needs_L85 (f + 1) τ (71 + 10 * p) (r (8 + 165 * p)) w ((2 ^ (j + 1) / 2 : Nat) : Int) = if w32 v = 0 then X10_needs_L85 f τ3 (71 + 10 * p) (r (8 + 165 * p)) w ((2 ^ j / 2 : Nat) : Int) else X10_needs_L85 f τ3 (71 + 10 * p) (r (8 + 165 * p)) ((w + 2 ^ j : Nat) : Int) ((2 ^ j / 2 : Nat) : Int) := by
      rw [hd]
      show X10_needs_B85 _ _ _ _ _ _ = _
      unfold X10_needs_B85 X10_needs_B115
      rw [if_neg (by first | omega | (unfold w32; omega)), show (w : Int) + ((2 ^ j : Nat) : Int) = ((w + 2 ^ j : Nat) : Int) by omega, hx, bd2k u1, lt_v, lt_v, lt_v, hisr]
    rw [e]
    rcases u3 with ⟨c1, c2⟩ | ⟨c1, c2⟩
    · rw [c2, if_neg (by decide)]
      exact ih f τ3 (w + 2 ^ j) (by omega) (by omega) f3 (hfe.mpr c1) (by
        rcases h5 with h | h
        · exact Or.inl (by omega)
        · refine Or.inr ?_
          rw [show w + 2 ^ j + 2 ^ j = w + 2 * 2 ^ j by omega]
          exact h) (by omega)
    · rw [c2, if_pos (by decide)]
      exact ih f τ3 w (by omega) (by omega) f3 h4 (Or.inr (fun c => c1 (hfe.mp c))) (by omega)
