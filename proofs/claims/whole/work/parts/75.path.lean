/-! the pages of the best laying -/
def ps (r : Nat → Int) (p : Nat) : Nat → Nat
  | 0 => 0
  | i + 1 => ((bL r r p i (ps r p i)).getD (0, 0, 0, 0)).2.2.2 + 1
def pz (r : Nat → Int) (p i : Nat) : Nat := ((bL r r p i (ps r p i)).getD (0, 0, 0, 0)).2.2.2
def nPg (r : Nat → Int) (p : Nat) : Nat := ((bL r r p 0 0).getD (0, 0, 0, 0)).2.2.1.toNat
def pkv (r : Nat → Int) (p i : Nat) : Int := (pkn r p 3 (ps r p i) (pz r p i)).getD 0
def tk (r : Nat → Int) (p i : Nat) : Int := if pz r p i + 1 < (r (9 + 165 * p)).toNat ∧ tnB (r (8 + 165 * p)).toNat i = true then (if spB r p (pz r p i) = true then 2 else 1) else 0
def pln (r : Nat → Int) (p i : Nat) : List Nat := lns r p (pkv r p i % 4) (pz r p i) (r 1).toNat (ps r p i)
def lle (r : Nat → Int) (p : Nat) : Nat → List Nat
  | 0 => []
  | i + 1 => lle r p i ++ pln r p i
def tbs (r : Nat → Int) (p : Nat) : Nat → Nat → Int
  | 0, _ => 0
  | i + 1, b => if b = pz r p i then tk r p i else tbs r p i b
def sto (r : Nat → Int) (p : Nat) : Nat → Int
  | 0 => 0
  | i + 1 => sto r p i + (if tk r p i = 2 then 1 else 0)
def tro (r : Nat → Int) (p : Nat) : Nat → Int
  | 0 => 0
  | i + 1 => tro r p i + (if tk r p i = 0 then 0 else 1)
def csS (r : Nat → Int) (p : Nat) : Nat → Int
  | 0 => 0
  | i + 1 => csS r p i + (pkv r p i / 4 + r 4)
theorem pth {r : Nat → Int} (hw : WF r) {p : Nat} (hp : p < 4) {w0 : T4} (h0 : bL r r p 0 0 = some w0) : ∀ i : Nat, (i : Int) ≤ w0.2.2.1 → ∃ w, bL r r p i (ps r p i) = some w ∧ w.2.2.1 + i = w0.2.2.1 ∧ (ps r p i : Int) ≤ r (9 + 165 * p) ∧ i ≤ ps r p i ∧ sto r p i + w.1 = w0.1 ∧ csS r p i + w.2.1 = w0.2.1
  | 0, _ => by
    have h40 := hw.bars hp
    refine ⟨w0, h0, by omega, ?_, Nat.le_refl _, ?_, ?_⟩
    · show ((0 : Nat) : Int) ≤ _; omega
    · show (0 : Int) + _ = _; omega
    · show (0 : Int) + _ = _; omega
  | i + 1, hi => by
    have h40 := hw.bars hp
    obtain ⟨w, h1, h2, h3, h4, h5, h6⟩ := pth hw hp h0 i (by omega)
    have hlt : ps r p i < (r (9 + 165 * p)).toNat := by
      by_cases c : (r (9 + 165 * p)).toNat ≤ ps r p i
      · unfold bL at h1
        rw [bW_end c] at h1
        rw [← Option.some.inj h1] at h2
        simp only at h2
        omega
      · omega
    have hs := bW_sel hlt h1
    obtain ⟨v, u, k, k1, k2, k3, k4, k5⟩ := hs
    have hz : pz r p i = k := by unfold pz; rw [h1, k5]; rfl
    have hps : ps r p (i + 1) = k + 1 := by
      show ((bL r r p i (ps r p i)).getD (0, 0, 0, 0)).2.2.2 + 1 = k + 1
      rw [h1, k5]; rfl
    have hkv : pkv r p i = v := by unfold pkv; rw [hz, k3]; rfl
    refine ⟨u, by rw [hps]; exact k4, ?_, by rw [hps]; omega, by rw [hps]; omega, ?_, ?_⟩
    · rw [k5] at h2; simp only at h2; omega
    · rw [k5] at h5
      simp only at h5
      show sto r p i + (if tk r p i = 2 then 1 else 0) + u.1 = _
      have : (if tk r p i = 2 then (1 : Int) else 0) = (if k + 1 < (r (9 + 165 * p)).toNat ∧ tnB (r (8 + 165 * p)).toNat i = true ∧ spB r p k = true then 1 else 0) := by
        unfold tk
        rw [hz]
        by_cases c1 : k + 1 < (r (9 + 165 * p)).toNat ∧ tnB (r (8 + 165 * p)).toNat i = true
        · rw [if_pos c1]
          by_cases c2 : spB r p k = true
          · rw [if_pos c2, if_pos rfl, if_pos ⟨c1.1, c1.2, c2⟩]
          · rw [if_neg c2, if_neg (by decide), if_neg (fun c => c2 c.2.2)]
        · rw [if_neg c1, if_neg (by decide), if_neg (fun c => c1 ⟨c.1, c.2.1⟩)]
      rw [this]
      omega
    · rw [k5] at h6
      simp only at h6
      show csS r p i + (pkv r p i / 4 + r 4) + u.2.1 = _
      rw [hkv]
      omega
theorem bL_in {r : Nat → Int} (hw : WF r) {p : Nat} (hp : p < 4) {g b : Nat} {w : T4} (h : bL r r p g b = some w) : 0 ≤ w.1 ∧ w.1 ≤ 40 ∧ -10000 ≤ w.2.1 ∧ w.2.1 ≤ 10080000 ∧ 0 ≤ w.2.2.1 ∧ w.2.2.1 ≤ 40 := by
  have h40 := hw.bars hp
  have := bW_in (N := (r (9 + 165 * p)).toNat) (pk := pkn r p 3) (pp := r 4) (tn := tnB (r (8 + 165 * p)).toNat) (sp := spB r p) (fun b k _ hk => bnd_pkn hw hp (by omega) 3 (by omega)) hw.page 0 0 40 g b w (by omega) h
  omega
theorem pkn_pick {r : Nat → Int} {p a e : Nat} : ∀ (n : Nat) (v : Int), n ≤ 3 → pkn r p n a e = some v → ∃ s, s < n ∧ pgc r p s a e = some (v / 4) ∧ v % 4 = s
  | 0, v, _, h => by cases h
  | n + 1, v, hn, h => by
    refine omn_in (P := fun v => ∃ s, s < n + 1 ∧ pgc r p s a e = some (v / 4) ∧ v % 4 = s) (fun u hu => ?_) (fun u hu => ?_) v h
    · obtain ⟨s, s1, s2, s3⟩ := pkn_pick n u (by omega) hu
      exact ⟨s, by omega, s2, s3⟩
    · obtain ⟨c, h1, h2⟩ := pe_some hu
      exact ⟨n, by omega, by rw [h1, show u / 4 = c by omega], by omega⟩
/-- what is known of page i -/
theorem pgf {r : Nat → Int} (hw : WF r) {p : Nat} (hp : p < 4) {i : Nat} (hi : i < nPg r p) : i ≤ ps r p i ∧ ps r p i ≤ pz r p i ∧ (pz r p i : Int) < r (9 + 165 * p) ∧ pkn r p 3 (ps r p i) (pz r p i) = some (pkv r p i) ∧ (∃ w, bL r r p i (ps r p i) = some w ∧ w.2.2.2 = pz r p i) ∧ (0 ≤ pkv r p i % 4 ∧ pkv r p i % 4 ≤ 2) ∧ pgc r p (pkv r p i % 4).toNat (ps r p i) (pz r p i) = some (pkv r p i / 4) := by
  have h40 := hw.bars hp
  cases h0 : bL r r p 0 0 with
  | none =>
    unfold nPg at hi
    rw [h0] at hi
    exact absurd hi (Nat.not_lt_zero _)
  | some w0 =>
    have hin := bL_in hw hp h0
    have hi2 : (i : Int) < w0.2.2.1 := by
      unfold nPg at hi
      rw [h0] at hi
      have : ((some w0).getD (0, 0, 0, 0)).2.2.1 = w0.2.2.1 := rfl
      rw [this] at hi
      omega
    obtain ⟨w, h1, h2, h3, h4, h5, h6⟩ := pth hw hp h0 i (by omega)
    have hlt : ps r p i < (r (9 + 165 * p)).toNat := by
      by_cases c : (r (9 + 165 * p)).toNat ≤ ps r p i
      · unfold bL at h1
        rw [bW_end c] at h1
        rw [← Option.some.inj h1] at h2
        simp only at h2
        omega
      · omega
    obtain ⟨v, u, k, k1, k2, k3, k4, k5⟩ := bW_sel hlt h1
    have hz : pz r p i = k := by unfold pz; rw [h1, k5]; rfl
    have hkv : pkv r p i = v := by unfold pkv; rw [hz, k3]; rfl
    obtain ⟨s, s1, s2, s3⟩ := pkn_pick 3 v (by omega) k3
    refine ⟨h4, by omega, by omega, by rw [hz, hkv]; exact k3, ⟨w, h1, by rw [hz, k5]⟩, by rw [hkv]; omega, by rw [hkv, hz, s3, Int.toNat_natCast]; exact s2⟩
theorem ps_s (r : Nat → Int) (p i : Nat) : ps r p (i + 1) = pz r p i + 1 := rfl
theorem lle_len {r : Nat → Int} (hw : WF r) {p : Nat} (hp : p < 4) : ∀ i, i ≤ nPg r p → (lle r p i).length ≤ ps r p i
  | 0, _ => Nat.le_refl _
  | i + 1, hi => by
    have ih := lle_len hw hp i (by omega)
    have hf := pgf hw hp (show i < nPg r p by omega)
    have := lns_len r p (pkv r p i % 4) (pz r p i) (r 1).toNat (ps r p i)
    rw [ps_s]
    show (lle r p i ++ pln r p i).length ≤ _
    rw [List.length_append]
    unfold pln
    omega
theorem nPg_end {r : Nat → Int} (hw : WF r) {p : Nat} (hp : p < 4) {w0 : T4} (h0 : bL r r p 0 0 = some w0) : (nPg r p : Int) = w0.2.2.1 ∧ nPg r p ≤ 40 ∧ (ps r p (nPg r p) : Int) = r (9 + 165 * p) ∧ sto r p (nPg r p) = w0.1 ∧ csS r p (nPg r p) = w0.2.1 := by
  have h40 := hw.bars hp
  have hin := bL_in hw hp h0
  have hn : nPg r p = w0.2.2.1.toNat := by unfold nPg; rw [h0]; rfl
  obtain ⟨w, h1, h2, h3, h4, h5, h6⟩ := pth hw hp h0 (nPg r p) (by omega)
  have hge : (r (9 + 165 * p)).toNat ≤ ps r p (nPg r p) := by
    by_cases c : (r (9 + 165 * p)).toNat ≤ ps r p (nPg r p)
    · exact c
    · exfalso
      obtain ⟨v, u, k, k1, k2, k3, k4, k5⟩ := bW_sel (show ps r p (nPg r p) < _ by omega) h1
      have := bL_in hw hp (g := nPg r p + 1) (b := k + 1) k4
      rw [k5] at h2
      simp only at h2
      omega
  unfold bL at h1
  rw [bW_end hge] at h1
  rw [← Option.some.inj h1] at h5 h6
  simp only at h5 h6
  omega
