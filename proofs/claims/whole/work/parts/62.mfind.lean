/-! the reference's tables of lines and tails -/
def cel (s a k : Nat) : Nat := 40 * (40 * s + a) + k
theorem m_cell (σ : Mem) (s a k : Nat) : X11_cell σ s a k = some ((cel s a k : Nat) : Int) := by
  unfold X11_cell cel
  congr 1
def LMr (r : Nat → Int) (p s : Nat) (ρ : Mem) (a : Nat) : Prop := ∀ k : Nat, a ≤ k → (k : Int) < r (9 + 165 * p) → ρ 117 (cel s a k) = eM (lnc r p s a k)
theorem m_linesIn {p s : Nat} (hp : p < 4) (hs : s < 3) {r : Nat → Int} (hw : WF r) {N a : Nat} (hN : r (9 + 165 * p) = N) (rec : Mem → Int → Int → Int → Int → Option Mem) : ∀ (n k f : Nat) (ρ : Mem), k + n = N → n < f → a ≤ k → ρ 112 = r → (∀ j : Nat, a ≤ j → j < k → ρ 117 (cel s a j) = eM (lnc r p s a j)) → ∃ ρ', X11_findLines_L22 rec f ρ p s N a (rsm r p s (k - a) a) k = rec ρ' p s N ((a : Int) + 1) ∧ (∀ q, q ≠ 117 → ρ' q = ρ q) ∧ (∀ j, j < cel s a 0 ∨ cel s a 40 ≤ j → ρ' 117 j = ρ 117 j) ∧ LMr r p s ρ' a := by
  have h40 := hw.bars hp
  have hwd := hw.wid
  intro n
  induction n with
  | zero =>
    intro k f ρ h1 h2 h3 h4 h5
    obtain ⟨f, rfl⟩ : ∃ x, f = x + 1 := ⟨f - 1, by omega⟩
    refine ⟨ρ, ?_, fun _ _ => rfl, fun _ _ => rfl, fun j j1 j2 => h5 j j1 (by omega)⟩
    show X11_findLines_B22 _ _ _ _ _ _ _ _ _ = _
    unfold X11_findLines_B22
    ((repeat (first | with_reducible refine (ag_ok (by omega) (by omega) (by decide)).trans ?_ | rewrite [lt_v] | rewrite [bd_some] | rewrite [bd2_some] | with_reducible refine (if_pos (by first | omega | (unfold w32; omega))).trans ?_ | with_reducible refine (if_neg (by first | omega | (unfold w32; omega))).trans ?_)); (repeat (first | with_reducible refine Eq.trans ?_ (if_pos (by first | omega | (unfold w32; omega))).symm | with_reducible refine Eq.trans ?_ (if_neg (by first | omega | (unfold w32; omega))).symm)); try rfl)
  | succ n ih =>
    intro k f ρ h1 h2 h3 h4 h5
    obtain ⟨f, rfl⟩ : ∃ x, f = x + 1 := ⟨f - 1, by omega⟩
    have hs2 : 0 ≤ (s : Int) ∧ (s : Int) ≤ 2 := by omega
    have hx := hw.room hp (b := (k : Int)) ⟨by omega, by omega⟩
    have hroom := m_room (σ := ρ) (p := (p : Int)) (b := (k : Int)) (s := (s : Int)) ⟨by omega, by omega⟩ ⟨by omega, by omega⟩ hs2 (by rw [h4, Int.toNat_natCast]; exact hx)
    rw [h4, Int.toNat_natCast] at hroom
    have hsn := rsm_snoc r p s (k - a) a
    rw [show (a : Int) + ((k - a : Nat) : Int) = (k : Int) by omega] at hsn
    have hlr : lrm r p s a k = rsm r p s (k - a) a + rmF (r (10 + 165 * p + 4 * (k : Int).toNat)) s := by
      unfold lrm
      rw [show k + 1 - a = k - a + 1 by omega, hsn]
    have hin := lrm_in hw hp hs2 (a := a) (k := k) (by omega) h3
    have hme := m_mayEnd (σ := ρ) (by rw [h4]; exact hw) hp (b := (k : Int)) (by rw [h4]; omega)
    rw [h4] at hme
    have hcl := m_cell ρ s a k
    have hwd0 : ρ 112 (0 : Int).toNat = r 0 := by rw [h4]; rfl
    have cont : ∀ v : Int, v = eM (lnc r p s a k) → ∃ ρ', X11_findLines_B93 rec (X11_findLines_L22 rec f) ρ p s N a (lrm r p s a k) k 117 ((cel s a k : Nat) : Int) v = rec ρ' p s N ((a : Int) + 1) ∧ (∀ q, q ≠ 117 → ρ' q = ρ q) ∧ (∀ j, j < cel s a 0 ∨ cel s a 40 ≤ j → ρ' 117 j = ρ 117 j) ∧ LMr r p s ρ' a := by
      intro v hv
      have e117 : st ρ 117 (cel s a k) v 117 = up (ρ 117) (cel s a k) v := st_self _ _ _ _
      obtain ⟨ρ', t1, t2, t3, t4⟩ := ih (k + 1) f (st ρ 117 (cel s a k) v) (by omega) (by omega) (by omega) (by rw [st_ne (by omega)]; exact h4) (fun j j1 j2 => by
        rw [e117]
        by_cases hj : j = k
        · rw [hj, up_at]; exact hv
        · rw [up_ne (by unfold cel; omega)]; exact h5 j j1 (by omega))
      refine ⟨ρ', ?_, fun q hq => by rw [t2 q hq, st_ne hq], fun j hj => by rw [t3 j hj, e117, up_ne (by unfold cel at *; omega)], t4⟩
      unfold X11_findLines_B93
      rw [ag_nat (by unfold cel; omega) (by decide), lt_v, lt_v]
      rw [show k + 1 - a = k - a + 1 by omega, hsn, ← hlr] at t1
      exact t1
    show ∃ ρ', X11_findLines_B22 _ _ _ _ _ _ _ _ _ = _ ∧ _
    unfold X11_findLines_B22 X11_findLines_B90
    rw [if_neg (by first | omega | (unfold w32; omega)), bdk hroom, lt_v, bdk hcl, ag_ok (by omega) (by omega) (by decide), hwd0, ← hlr]
    by_cases hf : r 0 < lrm r p s a k
    · rw [if_pos (by first | omega | (unfold w32; omega))]
      exact cont _ (by rw [lnc_none hf]; rfl)
    · rw [if_neg (by first | omega | (unfold w32; omega)), bdk hme]
      rcases meS_01 r p k with hh | hh
      · rw [hh, if_pos (by decide)]
        exact cont _ (by unfold lnc; rw [if_neg (fun q => q.2 hh)]; rfl)
      · have hlc := m_lineCost (σ := ρ) (by rw [h4]; exact hw) hp hs2 (a := a) (k := k) (by rw [h4]; omega) h3 (by rw [h4]; omega)
        rw [h4] at hlc
        rw [hh, if_neg (by decide), bdk hlc]
        exact cont _ (by unfold lnc; rw [if_pos ⟨by omega, by omega⟩]; rfl)
def LM (r : Nat → Int) (p s : Nat) (ρ : Mem) : Prop := ∀ a : Nat, (a : Int) < r (9 + 165 * p) → LMr r p s ρ a
theorem LMr.frame {r : Nat → Int} {p s : Nat} {ρ ρ' : Mem} {a : Nat} (h : LMr r p s ρ a) (hf : ∀ k, k < 40 → ρ' 117 (cel s a k) = ρ 117 (cel s a k)) (h40 : r (9 + 165 * p) ≤ 40) : LMr r p s ρ' a := fun k k1 k2 => by rw [hf k (by omega)]; exact h k k1 k2
theorem m_linesOut {p s : Nat} (hp : p < 4) (hs : s < 3) {r : Nat → Int} (hw : WF r) {N : Nat} (hN : r (9 + 165 * p) = N) : ∀ (n a f : Nat) (ρ : Mem), a + n = N → n < f → ρ 112 = r → (∀ b, b < a → LMr r p s ρ b) → ∃ ρ', X11_findLines_L9 f ρ p s N a = some ρ' ∧ (∀ q, q ≠ 117 → ρ' q = ρ q) ∧ (∀ j, j < 1600 * s ∨ 1600 * s + 1600 ≤ j → ρ' 117 j = ρ 117 j) ∧ LM r p s ρ' := by
  have h40 := hw.bars hp
  intro n
  induction n with
  | zero =>
    intro a f ρ h1 h2 h3 h4
    obtain ⟨f, rfl⟩ : ∃ x, f = x + 1 := ⟨f - 1, by omega⟩
    refine ⟨ρ, ?_, fun _ _ => rfl, fun _ _ => rfl, fun b hb => h4 b (by omega)⟩
    show X11_findLines_B9 _ _ _ _ _ _ = _
    unfold X11_findLines_B9
    ((repeat (first | with_reducible refine (ag_ok (by omega) (by omega) (by decide)).trans ?_ | rewrite [lt_v] | rewrite [bd_some] | rewrite [bd2_some] | with_reducible refine (if_pos (by first | omega | (unfold w32; omega))).trans ?_ | with_reducible refine (if_neg (by first | omega | (unfold w32; omega))).trans ?_)); (repeat (first | with_reducible refine Eq.trans ?_ (if_pos (by first | omega | (unfold w32; omega))).symm | with_reducible refine Eq.trans ?_ (if_neg (by first | omega | (unfold w32; omega))).symm)); try rfl)
  | succ n ih =>
    intro a f ρ h1 h2 h3 h4
    obtain ⟨f, rfl⟩ : ∃ x, f = x + 1 := ⟨f - 1, by omega⟩
    obtain ⟨ρ', t1, t2, t3, t4⟩ := m_linesIn hp hs hw hN (a := a) (X11_findLines_L9 f) (n + 1) a 5000 ρ (by omega) (by omega) (by omega) h3 (fun j j1 j2 => by omega)
    obtain ⟨υ, u1, u2, u3, u4⟩ := ih (a + 1) f ρ' (by omega) (by omega) (by rw [t2 112 (by omega)]; exact h3) (fun b hb => by
      by_cases hba : b = a
      · rw [hba]; exact t4
      · exact (h4 b (by omega)).frame (fun k hk => t3 _ (by unfold cel; omega)) (by omega))
    refine ⟨υ, ?_, fun q hq => by rw [u2 q hq, t2 q hq], fun j hj => by rw [u3 j hj, t3 j (by unfold cel; omega)], u4⟩
    show X11_findLines_B9 _ _ _ _ _ _ = _
    unfold X11_findLines_B9
    rw [if_neg (by first | omega | (unfold w32; omega))]
    rw [Nat.sub_self, show rsm r p s 0 a = 0 from rfl] at t1
    exact t1.trans u1
theorem m_findLines {p s : Nat} (hp : p < 4) (hs : s < 3) {ρ : Mem} (hw : WF (ρ 112)) : ∃ ρ', X11_findLines ρ p s = some ρ' ∧ (∀ q, q ≠ 117 → ρ' q = ρ q) ∧ (∀ j, j < 1600 * s ∨ 1600 * s + 1600 ≤ j → ρ' 117 j = ρ 117 j) ∧ LM (ρ 112) p s ρ' := by
  have h40 := hw.bars hp
  obtain ⟨N, hN⟩ : ∃ N : Nat, ρ 112 (9 + 165 * p) = N := ⟨(ρ 112 (9 + 165 * p)).toNat, by omega⟩
  obtain ⟨ρ', t1, t2⟩ := m_linesOut hp hs hw hN N 0 5000 ρ (by omega) (by omega) rfl (fun b hb => by omega)
  refine ⟨ρ', ?_, t2⟩
  unfold X11_findLines
  rw [bdk (mbarsN hp), hN]
  exact t1
def TM (r : Nat → Int) (p : Nat) (s e : Nat) (ρ : Mem) (l : Nat) : Prop := ∀ b, b ≤ e + 1 → ρ 119 (41 * l + b) = eM (tl r p s e l b)
theorem eM_lt {x : Option Int} (hx : bnd x) {v : Int} (hv : -1000 ≤ v ∧ v ≤ 1000000) : (w32 (eM x) ≤ w32 v ∧ omn x (some v) = x) ∨ (¬ w32 (eM x) ≤ w32 v ∧ omn x (some v) = some v) := by
  cases x with
  | none => exact Or.inr ⟨by show ¬ w32 1000000000 ≤ w32 v; exact (by first | omega | (unfold w32; omega)), rfl⟩
  | some a =>
    have := hx a rfl
    show (w32 a ≤ w32 v ∧ some (if v < a then v else a) = _) ∨ (¬ w32 a ≤ w32 v ∧ some (if v < a then v else a) = _)
    rw [w32_id (by omega) (by omega), w32_id (by omega) (by omega)]
    by_cases c : v < a
    · exact Or.inr ⟨by omega, by rw [if_pos c]⟩
    · exact Or.inl ⟨by omega, by rw [if_neg c]⟩
theorem m_tailK {p s : Nat} (hp : p < 4) (hs : s < 3) {r : Nat → Int} (hw : WF r) {e b l : Nat} (he : (e : Int) < r (9 + 165 * p)) (hl : l < 6) {ρ : Mem} (hm : LM r p s ρ) (ht : TM r p s e ρ l) (rec2 : Mem → Int → Int → Int → Option Mem) (rec15 : Mem → Int → Int → Int → Int → Option Mem) : ∀ (n k f : Nat) (x : Option Int), k + n = e + 1 → n < f → b ≤ k → bnd x → X11_findTails_L44 rec2 rec15 f ρ s e ((l + 1 : Nat) : Int) b (eM x) k = X11_findTails_B131 rec2 rec15 ρ s e ((l + 1 : Nat) : Int) b (eM (mnr (fun k => oad (lnc r p s b k) (tl r p s e l (k + 1))) n k x)) := by
  have h40 := hw.bars hp
  have hs2 : 0 ≤ (s : Int) ∧ (s : Int) ≤ 2 := by omega
  intro n
  induction n with
  | zero =>
    intro k f x h1 h2 h3 hx
    obtain ⟨f, rfl⟩ : ∃ x, f = x + 1 := ⟨f - 1, by omega⟩
    show X11_findTails_B44 _ _ _ _ _ _ _ _ _ _ = _
    unfold X11_findTails_B44
    rw [if_pos (by first | omega | (unfold w32; omega))]
    rfl
  | succ n ih =>
    intro k f x h1 h2 h3 hx
    obtain ⟨f, rfl⟩ : ∃ x, f = x + 1 := ⟨f - 1, by omega⟩
    show X11_findTails_B44 _ _ _ _ _ _ _ _ _ _ = _
    have hcl := m_cell ρ s b k
    have q5 : ρ 117 (cel s b k) = eM (lnc r p s b k) := hm b (by omega) k h3 (by omega)
    have q7 : ρ 119 (41 * (((l + 1 : Nat) : Int) - 1) + k + 1).toNat = eM (tl r p s e l (k + 1)) := by
      rw [show (41 * (((l + 1 : Nat) : Int) - 1) + k + 1).toNat = 41 * l + (k + 1) by omega]
      exact ht (k + 1) (by omega)
    have b1 := bnd_lnc hw hp hs2 (a := b) (k := k) (by omega) h3
    have b2 := bnd_tl hw hp hs2 (e := e) (L := l) (b := k + 1) (by omega) (by omega)
    have b3 := bnd_lt hw hp hs2 (b := b) (k := k) (e := e) (by omega) h3 (by omega) (L := l) (by omega)
    unfold X11_findTails_B44 X11_findTails_B121 X11_findTails_B123
    show _ = X11_findTails_B131 _ _ _ _ _ _ _ (eM (mnr _ n (k + 1) (omn x (oad (lnc r p s b k) (tl r p s e l (k + 1))))))
    rw [if_neg (by first | omega | (unfold w32; omega)), if_neg (by first | omega | (unfold w32; omega)), bdk hcl, ag_nat (by unfold cel; omega) (by decide), lt_v, q5, ag_ok (by omega) (by omega) (by decide), lt_v, q7]
    rcases eM_w b1 with ⟨u1, u2⟩ | ⟨v1, u1, u2, u3⟩
    · rw [u2, if_pos (by decide), lt_v, u1, show oad none (tl r p s e l (k + 1)) = none from rfl, omn_none]
      exact ih (k + 1) f x (by omega) (by omega) (by omega) hx
    · rw [u2, if_neg (by first | omega | (unfold w32; omega))]
      rcases eM_w b2 with ⟨w1, w2⟩ | ⟨v2, w1, w2, w3⟩
      · rw [w2, if_pos (by decide), lt_v, u1, w1, show oad (some v1) none = none from rfl, omn_none]
        exact ih (k + 1) f x (by omega) (by omega) (by omega) hx
      · rw [u1, w1] at b3
        have b4 := b3 (v1 + v2) rfl
        rw [w2, if_neg (by first | omega | (unfold w32; omega)), u1, w1, show oad (some v1) (some v2) = some (v1 + v2) from rfl]
        rcases eM_lt hx b4 with ⟨c1, c2⟩ | ⟨c1, c2⟩
        · rw [if_pos c1, lt_v, c2]
          exact ih (k + 1) f x (by omega) (by omega) (by omega) hx
        · rw [if_neg c1, lt_v, c2]
          exact ih (k + 1) f (some (v1 + v2)) (by omega) (by omega) (by omega) b3
theorem m_tailB {p s : Nat} (hp : p < 4) (hs : s < 3) {r : Nat → Int} (hw : WF r) {e l : Nat} (he : (e : Int) < r (9 + 165 * p)) (hl : l ≤ 6) (rec2 : Mem → Int → Int → Int → Option Mem) : ∀ (n b f : Nat) (ρ : Mem), b + n = e + 2 → n < f → LM r p s ρ → (∀ m, m < l → TM r p s e ρ m) → (∀ j, j < b → ρ 119 (41 * l + j) = eM (tl r p s e l j)) → ∃ ρ', X11_findTails_L15 rec2 f ρ s e l b = rec2 ρ' s e ((l : Int) + 1) ∧ (∀ q, q ≠ 119 → ρ' q = ρ q) ∧ ∀ m, m ≤ l → TM r p s e ρ' m := by
  have h40 := hw.bars hp
  intro n
  induction n with
  | zero =>
    intro b f ρ h1 h2 h3 h4 h5
    obtain ⟨f, rfl⟩ : ∃ x, f = x + 1 := ⟨f - 1, by omega⟩
    refine ⟨ρ, ?_, fun _ _ => rfl, fun m hm => ?_⟩
    · show X11_findTails_B15 _ _ _ _ _ _ _ = _
      unfold X11_findTails_B15
      rw [if_pos (by first | omega | (unfold w32; omega)), lt_v]
    · by_cases hml : m = l
      · rw [hml]; exact fun j hj => h5 j (by omega)
      · exact h4 m (by omega)
  | succ n ih =>
    intro b f ρ h1 h2 h3 h4 h5
    obtain ⟨f, rfl⟩ : ∃ x, f = x + 1 := ⟨f - 1, by omega⟩
    have cont : ∀ v : Int, v = eM (tl r p s e l b) → ∃ ρ', X11_findTails_B131 rec2 (X11_findTails_L15 rec2 f) ρ s e l b v = rec2 ρ' s e ((l : Int) + 1) ∧ (∀ q, q ≠ 119 → ρ' q = ρ q) ∧ ∀ m, m ≤ l → TM r p s e ρ' m := by
      intro v hv
      have e119 : st ρ 119 (41 * l + b) v 119 = up (ρ 119) (41 * l + b) v := st_self _ _ _ _
      obtain ⟨ρ', t1, t2, t3⟩ := ih (b + 1) f (st ρ 119 (41 * l + b) v) (by omega) (by omega) (fun a ha => (h3 a ha).frame (fun k _ => by rw [st_ne (by omega)]) (by omega)) (fun m hm j hj => by
        rw [e119, up_ne (by omega)]; exact h4 m hm j hj) (fun j hj => by
        rw [e119]
        by_cases hjb : j = b
        · rw [hjb, up_at]; exact hv
        · rw [up_ne (by omega)]; exact h5 j (by omega))
      refine ⟨ρ', ?_, fun q hq => by rw [t2 q hq, st_ne hq], t3⟩
      unfold X11_findTails_B131
      rw [ag_ok (by omega) (by omega) (by decide), lt_v, lt_v, show (41 * (l : Int) + b).toNat = 41 * l + b by omega]
      exact t1
    show ∃ ρ', X11_findTails_B15 _ _ _ _ _ _ _ = _ ∧ _
    unfold X11_findTails_B15 X11_findTails_B38
    rw [if_neg (by first | omega | (unfold w32; omega))]
    cases l with
    | zero =>
      by_cases hb : b = e + 1
      · rw [if_neg (by first | omega | (unfold w32; omega))]
        show ∃ ρ', X11_findTails_B44 _ _ _ _ _ _ _ _ _ _ = _ ∧ _
        unfold X11_findTails_B44
        rw [if_pos (by first | omega | (unfold w32; omega))]
        exact cont 0 (by rw [hb, tl_end]; rfl)
      · rw [if_pos (by first | omega | (unfold w32; omega))]
        show ∃ ρ', X11_findTails_B44 _ _ _ _ _ _ _ _ _ _ = _ ∧ _
        unfold X11_findTails_B44
        rw [if_neg (by first | omega | (unfold w32; omega)), if_pos (by first | omega | (unfold w32; omega))]
        refine cont 1000000000 ?_
        show _ = eM (if b = e + 1 then some 0 else none)
        rw [if_neg hb]; rfl
    | succ l =>
      by_cases hb : b = e + 1
      · rw [if_neg (by first | omega | (unfold w32; omega))]
        show ∃ ρ', X11_findTails_B44 _ _ _ _ _ _ _ _ _ _ = _ ∧ _
        unfold X11_findTails_B44
        rw [if_pos (by first | omega | (unfold w32; omega))]
        exact cont 0 (by rw [hb, tl_end]; rfl)
      · rw [if_pos (by first | omega | (unfold w32; omega))]
        have := m_tailK hp hs hw (b := b) he (show l < 6 by omega) h3 (h4 l (by omega)) rec2 (X11_findTails_L15 rec2 f) (e + 1 - b) b 5000 none (by omega) (by omega) (by omega) (fun v h => by cases h)
        rw [show eM none = 1000000000 from rfl] at this
        rw [this]
        refine cont _ ?_
        show _ = eM (if b = e + 1 then some 0 else _)
        rw [if_neg hb]
theorem m_findTails {p s : Nat} (hp : p < 4) (hs : s < 3) {e : Nat} {ρ : Mem} (hw : WF (ρ 112)) (he : (e : Int) < ρ 112 (9 + 165 * p)) (hm : LM (ρ 112) p s ρ) : ∃ ρ', X11_findTails ρ s e = some ρ' ∧ (∀ q, q ≠ 119 → ρ' q = ρ q) ∧ ∀ m : Nat, (m : Int) ≤ ρ 112 1 → TM (ρ 112) p s e ρ' m := by
  have h40 := hw.bars hp
  have h6 := hw.lines
  have key : ∀ (n l f : Nat) (υ : Mem), (l : Int) + n = ρ 112 1 + 1 → n < f → (∀ q, q ≠ 119 → υ q = ρ q) → (∀ m, m < l → TM (ρ 112) p s e υ m) → ∃ ρ', X11_findTails_L2 f υ s e l = some ρ' ∧ (∀ q, q ≠ 119 → ρ' q = ρ q) ∧ ∀ m : Nat, (m : Int) ≤ ρ 112 1 → TM (ρ 112) p s e ρ' m := by
    intro n
    induction n with
    | zero =>
      intro l f υ h1 h2 h3 h4
      obtain ⟨f, rfl⟩ : ∃ x, f = x + 1 := ⟨f - 1, by omega⟩
      refine ⟨υ, ?_, h3, fun m hm => h4 m (by omega)⟩
      have e1 : υ 112 (1 : Int).toNat = ρ 112 1 := by rw [h3 112 (by omega)]; rfl
      show X11_findTails_B2 _ _ _ _ _ = _
      unfold X11_findTails_B2
      rw [ag_ok (by omega) (by omega) (by decide), e1, if_pos (by first | omega | (unfold w32; omega))]
    | succ n ih =>
      intro l f υ h1 h2 h3 h4
      obtain ⟨f, rfl⟩ : ∃ x, f = x + 1 := ⟨f - 1, by omega⟩
      obtain ⟨ρ', t1, t2, t3⟩ := m_tailB hp hs hw he (show l ≤ 6 by omega) (X11_findTails_L2 f) (e + 2) 0 5000 υ (by omega) (by omega) (fun a ha => (hm a ha).frame (fun k _ => by rw [h3 117 (by omega)]) (by omega)) h4 (fun j hj => by omega)
      obtain ⟨ω, u1, u2, u3⟩ := ih (l + 1) f ρ' (by omega) (by omega) (fun q hq => by rw [t2 q hq, h3 q hq]) (fun m hm => t3 m (by omega))
      refine ⟨ω, ?_, u2, u3⟩
      have e1 : υ 112 (1 : Int).toNat = ρ 112 1 := by rw [h3 112 (by omega)]; rfl
      show X11_findTails_B2 _ _ _ _ _ = _
      unfold X11_findTails_B2
      rw [ag_ok (by omega) (by omega) (by decide), e1, if_neg (by first | omega | (unfold w32; omega))]
      exact t1.trans u1
  exact key (ρ 112 1 + 1).toNat 0 5000 ρ (by omega) (by omega) (fun _ _ => rfl) (fun m hm => by omega)
