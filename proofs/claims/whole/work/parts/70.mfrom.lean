/-! the reference's best from a page and a bar on -/
def EN (ρ : Mem) (x : Nat) (o : Option T4) (z : Int) : Prop := match o with
  | none => ρ 124 x = -1
  | some w => ρ 121 x = w.1 ∧ ρ 122 x = w.2.1 ∧ ρ 123 x = w.2.2.1 ∧ ρ 124 x = w.2.2.2 ∧ ρ 125 x = z
def btr (y : T4) (o : Option T4) : Prop := ∀ a, o = some a → (y.1 < a.1 ∨ y.1 = a.1 ∧ (y.2.1 < a.2.1 ∨ y.2.1 = a.2.1 ∧ y.2.2.1 < a.2.2.1))
theorem bst_t {y : T4} {o : Option T4} (h : btr y o) : bst o (some y) = some y := by
  cases o with
  | none => rfl
  | some a => exact if_pos (h a rfl)
theorem bst_f {y : T4} {o : Option T4} (h : ¬ btr y o) : bst o (some y) = o := by
  cases o with
  | none => exact absurd (fun a h => by cases h) h
  | some a => exact if_neg (fun c => h (fun b hb => by rw [← Option.some.inj hb]; exact c))
theorem btr_none (y : T4) : btr y none := fun a h => by cases h
theorem btr_some {y a : T4} : btr y (some a) ↔ (y.1 < a.1 ∨ y.1 = a.1 ∧ (y.2.1 < a.2.1 ∨ y.2.1 = a.2.1 ∧ y.2.2.1 < a.2.2.1)) := ⟨fun h => h a rfl, fun h b hb => by rw [← Option.some.inj hb]; exact h⟩
theorem btr_mono {y z : T4} {o : Option T4} (h : btr y o) (h1 : z.1 = y.1) (h2 : z.2.1 ≤ y.2.1) (h3 : z.2.2.1 = y.2.2.1) : btr z o := fun a ha => by
  have := h a ha
  omega
theorem pkn_mod {r : Nat → Int} {p a e : Nat} : ∀ (n : Nat) (v : Int), n ≤ 4 → pkn r p n a e = some v → v % 4 < n
  | 0, v, _, h => by cases h
  | n + 1, v, hn, h => by
    refine omn_in (P := fun v => v % 4 < ((n + 1 : Nat) : Int)) (fun u hu => ?_) (fun u hu => ?_) v h
    · have := pkn_mod n u (by omega) hu
      omega
    · obtain ⟨c, h1, h2⟩ := pe_some hu
      omega
/-- the entry while the sizes of one page are tried -/
def HS (A : Option T4) (zA st K pg : Int) (k : Nat) (v : Option Int) (o : Option T4) (z : Int) : Prop := match v with
  | none => o = A ∧ z = zA
  | some v => (btr (st, v / 4 + K, pg, k) A ∧ o = some (st, v / 4 + K, pg, k) ∧ z = v % 4) ∨ (¬ btr (st, v / 4 + K, pg, k) A ∧ o = A ∧ z = zA)
theorem HS_new {A : Option T4} {zA stt K pg : Int} {k s : Nat} {v : Option Int} {o : Option T4} {z c : Int} (h : HS A zA stt K pg k v o z) (hs : s < 3) (hv : ∀ u, v = some u → u % 4 < s) : (btr (stt, c + K, pg, k) o → HS A zA stt K pg k (omn v (some (4 * c + s))) (some (stt, c + K, pg, k)) s) ∧ (¬ btr (stt, c + K, pg, k) o → HS A zA stt K pg k (omn v (some (4 * c + s))) o z) := by
  have e1 : (4 * c + (s : Int)) / 4 = c := by omega
  have e2 : (4 * c + (s : Int)) % 4 = s := by omega
  cases v with
  | none =>
    obtain ⟨rfl, rfl⟩ := h
    show (_ → (_ ∨ _)) ∧ (_ → (_ ∨ _))
    rw [e1, e2]
    exact ⟨fun hb => Or.inl ⟨hb, rfl, rfl⟩, fun hb => Or.inr ⟨hb, rfl, rfl⟩⟩
  | some u =>
    have hu := hv u rfl
    by_cases hc : 4 * c + (s : Int) < u
    · have e3 : omn (some u) (some (4 * c + (s : Int))) = some (4 * c + (s : Int)) := by
        show some (if _ then _ else _) = _
        rw [if_pos hc]
      rw [e3]
      show (_ → (_ ∨ _)) ∧ (_ → (_ ∨ _))
      rw [e1, e2]
      rcases h with ⟨h1, rfl, rfl⟩ | ⟨h1, rfl, rfl⟩
      · have hb : btr (stt, c + K, pg, k) A := btr_mono h1 rfl (by show c + K ≤ u / 4 + K; omega) rfl
        refine ⟨fun _ => Or.inl ⟨hb, rfl, rfl⟩, fun hn => absurd (btr_some.mpr ?_) hn⟩
        show stt < stt ∨ stt = stt ∧ (c + K < u / 4 + K ∨ _)
        exact Or.inr ⟨rfl, Or.inl (by omega)⟩
      · exact ⟨fun hb => Or.inl ⟨hb, rfl, rfl⟩, fun hb => Or.inr ⟨hb, rfl, rfl⟩⟩
    · have e3 : omn (some u) (some (4 * c + (s : Int))) = some u := by
        show some (if _ then _ else _) = _
        rw [if_neg hc]
      rw [e3]
      refine ⟨fun hb => ?_, fun _ => h⟩
      rcases h with ⟨h1, rfl, rfl⟩ | ⟨h1, rfl, rfl⟩
      · have := btr_some.mp hb
        exfalso
        simp only at this
        omega
      · exact absurd (btr_mono (z := (stt, u / 4 + K, pg, k)) hb rfl (by show u / 4 + K ≤ c + K; omega) rfl) h1
def okN (o : Option T4) : Prop := ∀ w, o = some w → -1000 ≤ w.1 ∧ w.1 ≤ 1000 ∧ -100000000 ≤ w.2.1 ∧ w.2.1 ≤ 100000000 ∧ -1000 ≤ w.2.2.1 ∧ w.2.2.1 ≤ 1000 ∧ w.2.2.2 < 40
def st5 (ρ : Mem) (x : Nat) (a b c d e : Int) : Mem := st (st (st (st (st ρ 121 x a) 122 x b) 123 x c) 124 x d) 125 x e
theorem st5_ne {ρ : Mem} {x q : Nat} {a b c d e : Int} (h : q < 121 ∨ 125 < q) : st5 ρ x a b c d e q = ρ q := by
  unfold st5
  rw [st_ne (by omega), st_ne (by omega), st_ne (by omega), st_ne (by omega), st_ne (by omega)]
theorem st5_oth {ρ : Mem} {x q j : Nat} {a b c d e : Int} (h : j ≠ x) : st5 ρ x a b c d e q j = ρ q j := by
  unfold st5 st
  rw [if_neg (by omega), if_neg (by omega), if_neg (by omega), if_neg (by omega), if_neg (by omega)]
theorem st5_EN {ρ : Mem} {x : Nat} {w : T4} {z : Int} : EN (st5 ρ x w.1 w.2.1 w.2.2.1 w.2.2.2 z) x (some w) z := by
  unfold EN st5 st
  simp
/-- one size tried: the entry is kept or replaced -/
theorem m_try {ρ : Mem} {x : Nat} {o : Option T4} {z : Int} (hx : x < 1681) (hE : EN ρ x o z) (ho : okN o) (rec26 : Mem → Int → Int → Int → Int → Int → Int → Option Mem) (rec155 : Mem → Int → Int → Int → Int → Int → Int → Int → Int → Int → Int → Int → Option Mem) (l1 l2 l3 l4 l7 l8 : Int) {k s : Nat} {stt c pg k0 k1 k2 : Int} (hc : k0 + (k1 + k2) = c) (hw : okN (some (stt, c, pg, k))) : (btr (stt, c, pg, k) o ∧ X11_findFrom_B211 rec26 rec155 ρ l1 l2 l3 l4 x k l7 l8 stt pg s k0 k1 k2 = rec155 (st5 ρ x stt c pg k s) l1 l2 l3 l4 x k l7 l8 stt pg ((s : Int) + 1)) ∨ (¬ btr (stt, c, pg, k) o ∧ X11_findFrom_B211 rec26 rec155 ρ l1 l2 l3 l4 x k l7 l8 stt pg s k0 k1 k2 = rec155 ρ l1 l2 l3 l4 x k l7 l8 stt pg ((s : Int) + 1)) := by
  have i1 := hw _ rfl
  simp only at i1
  have yes : X11_findFrom_B285 rec26 rec155 ρ l1 l2 l3 l4 x k l7 l8 stt pg s c = rec155 (st5 ρ x stt c pg k s) l1 l2 l3 l4 x k l7 l8 stt pg ((s : Int) + 1) := by
    unfold X11_findFrom_B285 X11_findFrom_B290 X11_findFrom_B345
    rw [if_pos (by decide), ag_nat hx (by decide), lt_v, ag_nat hx (by decide), lt_v, ag_nat hx (by decide), lt_v, ag_nat hx (by decide), lt_v, ag_nat hx (by decide), lt_v, lt_v]
    rfl
  have no : X11_findFrom_B289 rec26 rec155 ρ l1 l2 l3 l4 x k l7 l8 stt pg s c = rec155 ρ l1 l2 l3 l4 x k l7 l8 stt pg ((s : Int) + 1) := by
    unfold X11_findFrom_B289 X11_findFrom_B290 X11_findFrom_B345
    rw [if_neg (by decide), lt_v]
  unfold X11_findFrom_B211
  rw [lt_v, hc, ag_nat hx (by decide)]
  cases o with
  | none =>
    have e : ρ 124 x = -1 := hE
    rw [e, if_pos (by decide)]
    exact Or.inl ⟨btr_none _, yes⟩
  | some a =>
    have i2 := ho a rfl
    obtain ⟨e1, e2, e3, e4, e5⟩ := hE
    rw [btr_some]
    simp only
    rw [e4, if_neg (by first | omega | (unfold w32; omega)), ag_nat hx (by decide), e1]
    by_cases c1 : stt < a.1
    · rw [if_pos (by first | omega | (unfold w32; omega))]
      exact Or.inl ⟨Or.inl c1, yes⟩
    · rw [if_neg (by first | omega | (unfold w32; omega)), ag_nat hx (by decide), e1]
      by_cases c2 : stt = a.1
      · rw [if_neg (by first | omega | (unfold w32; omega)), ag_nat hx (by decide), e2]
        by_cases c3 : c < a.2.1
        · rw [if_pos (by first | omega | (unfold w32; omega))]
          exact Or.inl ⟨Or.inr ⟨c2, Or.inl c3⟩, yes⟩
        · rw [if_neg (by first | omega | (unfold w32; omega)), ag_nat hx (by decide), e2]
          by_cases c4 : c = a.2.1
          · rw [if_neg (by first | omega | (unfold w32; omega)), ag_nat hx (by decide), e3]
            by_cases c5 : pg < a.2.2.1
            · rw [if_neg (by first | omega | (unfold w32; omega))]
              exact Or.inl ⟨Or.inr ⟨c2, Or.inr ⟨c4, c5⟩⟩, yes⟩
            · rw [if_pos (by first | omega | (unfold w32; omega))]
              exact Or.inr ⟨by omega, no⟩
          · rw [if_pos (by first | omega | (unfold w32; omega))]
            exact Or.inr ⟨by omega, no⟩
      · rw [if_pos (by first | omega | (unfold w32; omega))]
        exact Or.inr ⟨by omega, no⟩
theorem m_sizes {r : Nat → Int} (hwf : WF r) {p b k x : Nat} (hp : p < 4) (hb : b ≤ k) (hk : (k : Int) < r (9 + 165 * p)) (hx : x < 1681) {A : Option T4} {zA stt K pg pp : Int} (hpp : 0 ≤ pp ∧ pp ≤ 999) (oA : okN A) (hst : 0 ≤ stt ∧ stt ≤ 100) (hpg : 0 ≤ pg ∧ pg ≤ 100) (rec26 : Mem → Int → Int → Int → Int → Int → Int → Option Mem) (l1 l2 l4 l8 : Int) {y : Nat} (hy : y < 1681) {u2 : Int} (hK : K = pp + (if l8 = 0 then u2 else 0)) (hl8 : l8 = 0 ∨ l8 = 1) (hu2 : -20000000 ≤ u2 ∧ u2 ≤ 20000000) (hyx : y ≠ x) : ∀ (n s f : Nat) (ρ : Mem) (o : Option T4) (z : Int), s + n = 3 → n < f → ρ 112 4 = pp → (∀ s, s < 3 → ρ 118 (cel s b k) = eM (pgc r p s b k)) → (l8 = 0 → ρ 122 y = u2) → EN ρ x o z → HS A zA stt K pg k (pkn r p s b k) o z → ∃ ρ' o' z', X11_findFrom_L155 rec26 f ρ l1 l2 b l4 x k y l8 stt pg s = X11_findFrom_B351 rec26 ρ' l1 l2 b l4 x k ∧ (∀ q, q < 121 ∨ 125 < q → ρ' q = ρ q) ∧ (∀ q j, j ≠ x → ρ' q j = ρ q j) ∧ EN ρ' x o' z' ∧ HS A zA stt K pg k (pkn r p 3 b k) o' z' := by
  have h40 := hwf.bars hp
  intro n
  induction n with
  | zero =>
    intro s f ρ o z h1 h2 h3 h4 h5 h6 h7
    obtain ⟨f, rfl⟩ : ∃ x, f = x + 1 := ⟨f - 1, by omega⟩
    refine ⟨ρ, o, z, ?_, fun _ _ => rfl, fun _ _ _ => rfl, h6, by rw [show 3 = s by omega]; exact h7⟩
    show X11_findFrom_B155 _ _ _ _ _ _ _ _ _ _ _ _ _ _ = _
    unfold X11_findFrom_B155
    rw [if_pos (by first | omega | (unfold w32; omega))]
  | succ n ih =>
    intro s f ρ o z h1 h2 h3 h4 h5 h6 h7
    obtain ⟨f, rfl⟩ : ∃ x, f = x + 1 := ⟨f - 1, by omega⟩
    have hcl := m_cell ρ s b k
    have hcl2 : cel s b k < 4800 := by unfold cel; omega
    have e4 : ρ 112 (4 : Int).toNat = pp := h3
    have hcell := h4 s (by omega)
    have bp := bnd_pgc hwf hp (s := s) (by omega) (a := b) (e := k) hk
    have oo : okN o := by
      cases hv : pkn r p s b k with
      | none => rw [hv] at h7; rw [h7.1]; exact oA
      | some v =>
        have bv := bnd_pkn hwf hp (a := b) (e := k) hk s (by omega) v hv
        rw [hv] at h7
        rcases h7 with ⟨_, rfl, _⟩ | ⟨_, rfl, _⟩
        · intro w hw
          rw [← Option.some.inj hw]
          simp only
          rw [hK]
          split <;> omega
        · exact oA
    show ∃ ρ' o' z', X11_findFrom_B155 _ _ _ _ _ _ _ _ _ _ _ _ _ _ = _ ∧ _
    unfold X11_findFrom_B155
    rw [if_neg (by first | omega | (unfold w32; omega)), bdk hcl, ag_nat hcl2 (by decide), lt_v, hcell]
    have sk : pe r p s b k = (pgc r p s b k).map (fun c => 4 * c + (s : Int)) := rfl
    rcases eM_w bp with ⟨g1, g2⟩ | ⟨c, g1, g2, g3⟩
    · rw [g2, if_neg (by decide)]
      unfold X11_findFrom_B345
      rw [lt_v]
      refine ih (s + 1) f ρ o z (by omega) (by omega) h3 h4 h5 h6 ?_
      show HS _ _ _ _ _ _ (omn (pkn r p s b k) (pe r p s b k)) _ _
      rw [sk, g1]
      show HS _ _ _ _ _ _ (omn (pkn r p s b k) none) _ _
      rw [omn_none]
      exact h7
    · rw [g2, if_pos (by first | omega | (unfold w32; omega)), ag_ok (by omega) (by omega) (by decide), e4]
      have hnew := HS_new (c := c) h7 (show s < 3 by omega) (fun u hu => by have := pkn_mod s u (by omega) hu; omega)
      have hsk : pkn r p (s + 1) b k = omn (pkn r p s b k) (some (4 * c + (s : Int))) := by
        show omn (pkn r p s b k) (pe r p s b k) = _
        rw [sk, g1]; rfl
      have go : ∀ k2 : Int, k2 = (if l8 = 0 then u2 else 0) → ∃ ρ' o' z', X11_findFrom_B211 rec26 (X11_findFrom_L155 rec26 f) ρ l1 l2 b l4 x k y l8 stt pg s c pp k2 = X11_findFrom_B351 rec26 ρ' l1 l2 b l4 x k ∧ (∀ q, q < 121 ∨ 125 < q → ρ' q = ρ q) ∧ (∀ q j, j ≠ x → ρ' q j = ρ q j) ∧ EN ρ' x o' z' ∧ HS A zA stt K pg k (pkn r p 3 b k) o' z' := by
        intro k2 hk2
        have hcK : c + (pp + k2) = c + K := by rw [hK, hk2]
        have okc : okN (some (stt, c + K, pg, k)) := fun w hw => by
          rw [← Option.some.inj hw]
          simp only
          rw [hK]
          split <;> omega
        rcases m_try hx h6 oo rec26 (X11_findFrom_L155 rec26 f) l1 l2 b l4 y l8 (s := s) hcK okc with ⟨b1, b2⟩ | ⟨b1, b2⟩
        · rw [b2]
          obtain ⟨ρ', o', z', t1, t2, t3, t4, t5⟩ := ih (s + 1) f (st5 ρ x stt (c + K) pg k s) (some (stt, c + K, pg, k)) s (by omega) (by omega) (by rw [st5_ne (by omega)]; exact h3) (fun s hs => by rw [st5_ne (by omega)]; exact h4 s hs) (fun h => by rw [st5_oth hyx]; exact h5 h) (st5_EN (w := (stt, c + K, pg, k))) (by rw [hsk]; exact hnew.1 b1)
          exact ⟨ρ', o', z', t1, fun q hq => by rw [t2 q hq, st5_ne hq], fun q j hj => by rw [t3 q j hj, st5_oth hj], t4, t5⟩
        · rw [b2]
          exact ih (s + 1) f ρ o z (by omega) (by omega) h3 h4 h5 h6 (by rw [hsk]; exact hnew.2 b1)
      rcases hl8 with h8 | h8
      · rw [if_pos (by first | omega | (unfold w32; omega)), ag_nat hy (by decide), h5 h8]
        exact go _ (by rw [if_pos h8])
      · rw [if_neg (by first | omega | (unfold w32; omega))]
        exact go _ (by rw [if_neg (by omega)])
