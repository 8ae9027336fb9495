/-! hearts -/
theorem up_twice (r : Nat → Int) (i : Nat) (a b : Int) : up (up r i a) i b = up r i b := by
  funext j
  unfold up
  by_cases h : j = i
  · rw [if_pos h, if_pos h]
  · rw [if_neg h, if_neg h, if_neg h]
theorem up_id {r : Nat → Int} {i : Nat} : up r i (r i) = r := by
  funext j
  unfold up
  by_cases h : j = i
  · rw [if_pos h, h]
  · rw [if_neg h]
theorem relH {τ ρ τ1 ρ1 : Mem} (h : Rel τ1 ρ1) (h1 : ∀ c, c ≠ 58 → c ≠ 59 → τ c = τ1 c) (h2 : ∀ q, q ≠ 112 → q < 120 ∨ 125 < q → ρ q = ρ1 q) (h3 : ρ 112 = ρ1 112) : Rel τ ρ := h.junk (fun q hq => h1 q (by omega) (by omega)) (h.2.2.2.2.2.2.frame (fun q _ _ => h1 q (by omega) (by omega))) (fun q hq => by
  by_cases c : q = 112
  · rw [c]; exact h3
  · exact h2 q c (by omega)) (by rw [h2 111 (by omega) (by omega)]) (by rw [h2 111 (by omega) (by omega)])
theorem kd71 {p : Nat} (hp : p < 4) : kd (71 + 10 * p) = 4 := by
  rcases (by omega : p = 0 ∨ p = 1 ∨ p = 2 ∨ p = 3) with rfl | rfl | rfl | rfl <;> rfl
/-- one trial of both sides: row r, tried with known m, folds x, need nd -/
theorem tryC {r : Nat → Int} (hw : WF r) {p : Nat} (hp : p < 4) {x : Nat} (hx : x < 1024) {m nd : Int} (hnd : 0 ≤ nd ∧ nd ≤ 2000) {τ : Mem} (hpt : PT r p τ) (hes : ∀ j : Nat, (j : Int) < r (9 + 165 * p) → τ 58 j = esS r p m j) : ∃ v τ', X1_flows τ (71 + 10 * p) x nd = some (v, τ') ∧ (∀ c, c ≠ 59 → τ' c = τ c) ∧ (((0 < (r (9 + 165 * p)).toNat ∧ nf (r (9 + 165 * p)).toNat (pkn r p 3) (r 4) (tnB x) (fun k => decide (esS r p m k < nd)) 0 0) ∧ v = 1) ∨ (¬ (0 < (r (9 + 165 * p)).toNat ∧ nf (r (9 + 165 * p)).toNat (pkn r p 3) (r 4) (tnB x) (fun k => decide (esS r p m k < nd)) 0 0) ∧ v = 0)) := by
  have h40 := hw.bars hp
  refine c_flows (fun b k _ hk => bnd_pkn hw hp (by omega) 3 (by omega)) hw.page (by omega) hx hnd ⟨by rw [hpt.1]; omega, fun b k k1 k2 => hpt.2 b k k1 (by omega), fun k hk => ?_⟩
  rw [hes k (by omega)]
  have := esS_in hw hp m k
  exact ⟨by omega, by omega, rfl⟩
theorem tryM {r : Nat → Int} (hw : WF r) {p : Nat} (hp : p < 4) {m nd : Int} {x : Nat} {r' : Nat → Int} (hw' : WF r') (ha : alk r r') (e6 : r' (6 + 165 * p) = m) (e8 : r' (8 + 165 * p) = x) (e2 : r' 2 = nd) (e4 : r' 4 = r 4) {ρ : Mem} (h112 : ρ 112 = r') (hpm : ∀ s, s < 3 → PMs r p s ρ) : ∃ v ρ', X11_stopsOf ρ p = some (v, ρ') ∧ (∀ q, q < 120 ∨ 125 < q → ρ' q = ρ q) ∧ (-1 ≤ v ∧ v ≤ 40) ∧ (v = 0 ↔ 0 < (r (9 + 165 * p)).toNat ∧ nf (r (9 + 165 * p)).toNat (pkn r p 3) (r 4) (tnB x) (fun k => decide (esS r p m k < nd)) 0 0) ∧ (v = -1 ↔ r (9 + 165 * p) = 0 ∨ bW (r (9 + 165 * p)).toNat (pkn r p 3) (r 4) (tnB x) (fun k => decide (esS r p m k < nd)) 0 0 = none) := by
  have e9 : r' (9 + 165 * p) = r (9 + 165 * p) := (ha p hp).2.2.1
  have hsp : spB r' p = fun k => decide (esS r p m k < nd) := by
    funext k
    unfold spB
    rw [e6, e2, esS_congr ha hw hp]
  obtain ⟨v, ρ', t1, t2, t3, t4, t5⟩ := m_stopsOf (r0 := r) hp (ρ := ρ) (by rw [h112]; exact hw') hw (by rw [h112, e9]) hpm
  unfold bL at t5
  rw [h112, e9, e4, e8, hsp, Int.toNat_natCast] at t4 t5
  exact ⟨v, ρ', t1, t2, t3, t4, t5⟩
theorem PMs.frame {r : Nat → Int} {p s : Nat} {ρ ρ' : Mem} (h : PMs r p s ρ) (hf : ρ' 118 = ρ 118) : PMs r p s ρ' := fun b k k1 k2 => by rw [hf]; exact h b k k1 k2
theorem heartsL {r : Nat → Int} (hw : WF r) {p : Nat} (hp : p < 4) {τ1 ρ1 : Mem} (hrel : Rel τ1 ρ1) (h112 : ρ1 112 = r) (hpt : PT r p τ1) (hpm : ∀ s, s < 3 → PMs r p s ρ1) : ∀ (n h f g : Nat) (τ ρ : Mem) (z : Int), h + n = 9 → n < f → n + 1 < g → (∀ c, c ≠ 58 → c ≠ 59 → τ c = τ1 c) → (∀ q, q ≠ 112 → q < 120 ∨ 125 < q → ρ q = ρ1 q) → ρ 112 = up r (6 + 165 * p) z → ∃ v τ' ρ', X10_hearts_L38 f τ p (71 + 10 * p) (r (8 + 165 * p)) h = some (v, τ') ∧ X11_hearts_L38 g ρ p (6 + 165 * (p : Int)) (r (6 + 165 * p)) (-1) h = some (v, ρ') ∧ Rel τ' ρ' ∧ (∀ q, 111 ≤ q → τ' q = τ1 q) ∧ ∀ q, q < 111 → ρ' q = ρ1 q := by
  have hfl := hw.flds hp
  have hn := hw.need
  obtain ⟨x, hx⟩ : ∃ x : Nat, r (8 + 165 * p) = x := ⟨(r (8 + 165 * p)).toNat, by omega⟩
  have back : ∀ (τ ρ : Mem) (z : Int), (∀ c, c ≠ 58 → c ≠ 59 → τ c = τ1 c) → (∀ q, q ≠ 112 → q < 120 ∨ 125 < q → ρ q = ρ1 q) → ρ 112 = up r (6 + 165 * p) z → Rel τ (st ρ 112 (6 + 165 * p) (r (6 + 165 * p))) ∧ (∀ q, 111 ≤ q → τ q = τ1 q) ∧ ∀ q, q < 111 → st ρ 112 (6 + 165 * p) (r (6 + 165 * p)) q = ρ1 q := by
    intro τ ρ z a b c
    refine ⟨relH hrel a (fun q q1 q2 => by rw [st_ne q1]; exact b q q1 q2) ?_, fun q hq => a q (by omega) (by omega), fun q hq => by rw [st_ne (by omega)]; exact b q (by omega) (by omega)⟩
    rw [st_self, c, up_twice, up_id, h112]
  have hidx : (6 + 165 * (p : Int)).toNat = 6 + 165 * p := by omega
  intro n
  induction n with
  | zero =>
    intro h f g τ ρ z h1 h2 h3 h4 h5 h6
    obtain ⟨f, rfl⟩ : ∃ x, f = x + 1 := ⟨f - 1, by omega⟩
    obtain ⟨g, rfl⟩ : ∃ x, g = x + 1 := ⟨g - 1, by omega⟩
    obtain ⟨b1, b2, b3⟩ := back τ ρ z h4 h5 h6
    refine ⟨-1000004, tel τ 3, fnd (st ρ 112 (6 + 165 * p) (r (6 + 165 * p))) 3, ?_, ?_, b1.tell (by omega), fun q hq => by rw [← b2 q hq]; exact st_ne (by omega), fun q hq => by rw [← b3 q hq]; exact st_ne (by omega)⟩
    · show X10_hearts_B38 _ _ _ _ _ _ = _
      unfold X10_hearts_B38
      rw [if_pos (by first | omega | (unfold w32; omega)), bd2k (tell_3 τ)]
    · show X11_hearts_B38 _ _ _ _ _ _ _ = _
      unfold X11_hearts_B38 X11_hearts_B80
      rw [if_pos (by first | omega | (unfold w32; omega)), ag_ok (by omega) (by omega) (by decide), hidx, lt_v, if_neg (by decide), bd2k (finds_3 _)]
  | succ n ih =>
    intro h f g τ ρ z h1 h2 h3 h4 h5 h6
    obtain ⟨f, rfl⟩ : ∃ x, f = x + 1 := ⟨f - 1, by omega⟩
    obtain ⟨g, rfl⟩ : ∃ x, g = x + 1 := ⟨g - 1, by omega⟩
    have hcrb : CRB 1 r τ := by
      have := hrel.2.1
      rw [h112] at this
      exact this.frame (fun k _ _ => h4 k (by omega) (by omega))
    obtain ⟨τ2, t1, t2, t3⟩ := c_findEase hw hp (m := (h : Int)) (by omega) hcrb
    have e2 : τ2 3 (2 : Int).toNat = r 2 := by rw [t2 3 (by omega)]; exact hcrb.rul (by omega)
    obtain ⟨v, τ3, u1, u2, u3⟩ := tryC hw hp (x := x) (by omega) (m := (h : Int)) (nd := r 2) (by omega) (τ := τ2) (hpt.frame (by rw [t2 _ (by omega), h4 _ (by omega) (by omega)]) (by rw [t2 _ (by omega), h4 _ (by omega) (by omega)])) t3
    have f3 : ∀ c, c ≠ 58 → c ≠ 59 → τ3 c = τ1 c := fun c c1 c2 => by rw [u2 c c2, t2 c c1, h4 c c1 c2]
    -- the reference's row
    have row : st ρ 112 (6 + 165 * p) h 112 = up r (6 + 165 * p) h := by rw [st_self, h6, up_twice]
    have hok : okT p 1 (h : Int) := ⟨fun c => by omega, fun _ => by omega, fun c => by omega, fun c => by omega⟩
    have hix : 5 + 165 * p + 1 = 6 + 165 * p := by omega
    have hw' : WF (up r (6 + 165 * p) h) := by rw [← hix]; exact hw.trait hp (by omega) hok
    have ha' : alk r (up r (6 + 165 * p) h) := by rw [← hix]; exact alk_trait hp (Or.inl rfl)
    obtain ⟨s, ρ2, w1, w2, w3, w4, w5⟩ := tryM hw hp (m := (h : Int)) (nd := r 2) (x := x) hw' ha' (up_at _ _ _) (by rw [up_ne (by omega)]; exact hx) (up_ne (by omega)) (up_ne (by omega)) row (fun s hs => (hpm s hs).frame (by rw [st_ne (by omega), h5 118 (by omega) (by omega)]))
    have f4 : ∀ q, q ≠ 112 → q < 120 ∨ 125 < q → ρ2 q = ρ1 q := fun q q1 q2 => by rw [w2 q q2, st_ne q1, h5 q q1 q2]
    have row2 : ρ2 112 = up r (6 + 165 * p) h := by rw [w2 112 (by omega)]; exact row
    have ecls : X10_hearts_L38 (f + 1) τ p (71 + 10 * p) (r (8 + 165 * p)) h = if w32 v = 0 then X10_hearts_L38 f τ3 p (71 + 10 * p) (r (8 + 165 * p)) ((h + 1 : Nat) : Int) else some ((h : Int), τ3) := by
      show X10_hearts_B38 _ _ _ _ _ _ = _
      unfold X10_hearts_B38
      rw [if_neg (by first | omega | (unfold w32; omega)), bdk t1, ag_ok (by omega) (by omega) (by decide), e2, hx, bd2k u1]
      rfl
    have eref : X11_hearts_L38 (g + 1) ρ p (6 + 165 * (p : Int)) (r (6 + 165 * p)) (-1) h = X11_hearts_L38 g ρ2 p (6 + 165 * (p : Int)) (r (6 + 165 * p)) (if w32 s ≠ 0 then -1 else h) ((h + 1 : Nat) : Int) := by
      show X11_hearts_B38 _ _ _ _ _ _ _ = _
      unfold X11_hearts_B38 X11_hearts_B72
      rw [if_neg (by first | omega | (unfold w32; omega)), if_neg (by decide), ag_ok (by omega) (by omega) (by decide), hidx, lt_v, bd2k w1, lt_v, lt_v]
      by_cases c : w32 s ≠ 0
      · rw [if_pos c, if_pos c]; rfl
      · rw [if_neg c, if_neg c]; rfl
    rw [ecls, eref]
    rcases u3 with ⟨c1, c2⟩ | ⟨c1, c2⟩
    · have hs : s = 0 := w4.mpr c1
      rw [c2, hs, if_neg (by decide), if_neg (by decide)]
      obtain ⟨g, rfl⟩ : ∃ x, g = x + 1 := ⟨g - 1, by omega⟩
      obtain ⟨b1, b2, b3⟩ := back τ3 ρ2 h f3 f4 row2
      refine ⟨h, τ3, _, rfl, ?_, b1, b2, b3⟩
      show X11_hearts_B38 _ _ _ _ _ _ _ = _
      unfold X11_hearts_B38 X11_hearts_B80
      have fin : (ag 766 (6 + 165 * (p : Int)) fun j1 => lt (st ρ2 112 j1 (r (6 + 165 * p))) fun s2 => if 0 ≤ w32 (h : Int) then some ((h : Int), s2) else bd2 (X11_finds s2 3) fun r3 s4 => some (r3, s4)) = some ((h : Int), st ρ2 112 (6 + 165 * p) (r (6 + 165 * p))) := by
        rw [ag_ok (by omega) (by omega) (by decide), hidx, lt_v, if_pos (by first | omega | (unfold w32; omega))]
      by_cases c : h + 1 = 9
      · rw [if_pos (by first | omega | (unfold w32; omega))]; exact fin
      · rw [if_neg (by first | omega | (unfold w32; omega)), if_pos (by first | omega | (unfold w32; omega))]; exact fin
    · have hs : s ≠ 0 := fun c => c1 (w4.mp c)
      rw [c2, if_pos (by decide), if_pos (by rw [w32_id (by omega) (by omega)]; exact hs)]
      exact ih (h + 1) f g τ3 ρ2 h (by omega) (by omega) (by omega) f3 f4 row2
theorem tab_pages {τ ρ : Mem} (h : Rel τ ρ) {p : Nat} (hp : p < 4) : ∃ τ1 ρ1, X10_tableOf τ p = some (71 + 10 * p, τ1) ∧ X11_findPages ρ p = some ρ1 ∧ Rel τ1 ρ1 ∧ ρ1 112 = ρ 112 ∧ (∀ q, 111 ≤ q → τ1 q = τ q) ∧ (∀ q, q < 111 → ρ1 q = ρ q) ∧ PT (ρ 112) p τ1 ∧ ∀ s, s < 3 → PMs (ρ 112) p s ρ1 := by
  obtain ⟨τ1, t1, t2, t3, t4⟩ := c_tableOf h.1 hp h.2.1 h.2.2.2.2.2.2
  obtain ⟨ρ1, u1, u2, u3⟩ := m_findPages hp h.1
  exact ⟨τ1, ρ1, t1, u1, h.junk (fun q hq => t2 q (by omega) (by omega) (by omega) (by omega) (by omega)) t3 (fun q hq => u2 q (by omega) (by omega) (by omega)) (by rw [u2 111 (by omega) (by omega) (by omega)]) (by rw [u2 111 (by omega) (by omega) (by omega)]), u2 112 (by omega) (by omega) (by omega), fun q hq => t2 q (by omega) (by omega) (by omega) (by omega) (by omega), fun q hq => u2 q (by omega) (by omega) (by omega), t4, fun s hs => (u3 s hs).2⟩
theorem sim_hearts {a : Int} (ha : inR a) : Sim (fun τ => X10_hearts τ a) (fun ρ => X11_hearts ρ a) := by
  intro τ ρ h
  by_cases h1 : 0 ≤ a ∧ a ≤ 3
  · obtain ⟨p, rfl⟩ := Int.eq_ofNat_of_zero_le h1.1
    have hp : p < 4 := by omega
    obtain ⟨τ1, ρ1, s1, s2, s3, s4, s5, s6, s7, s8⟩ := tab_pages h hp
    have i1 := isPart_t (σ := τ) h1.1 h1.2
    have i2 := mPart_t (σ := ρ) h1.1 h1.2
    have hcrb : CRB 1 (ρ 112) τ1 := by have := s3.2.1; rw [s4] at this; exact this
    have e8 : τ1 (9 + 3 * p + 1) (3 : Int).toNat = ρ 112 (8 + 165 * p) := by
      rw [show 9 + 3 * p + 1 = 10 + 3 * p by omega, show (3 : Int).toNat = 3 from rfl, hcrb.trt hp (by omega), show 5 + 165 * p + 3 = 8 + 165 * p by omega]
    obtain ⟨v, τ', ρ', t1, t2, t3, t4, t5⟩ := heartsL h.1 hp s3 s4 s7 s8 9 0 5000 5000 τ1 ρ1 (ρ 112 (6 + 165 * p)) (by omega) (by omega) (by omega) (fun _ _ _ => rfl) (fun _ _ _ => rfl) (by rw [up_id]; exact s4)
    refine ⟨v, τ', ρ', ?_, ?_, t3, fun q hq => by rw [t4 q hq, s5 q hq], fun q hq => by rw [t5 q hq, s6 q hq]⟩
    · show X10_hearts τ p = _
      unfold X10_hearts
      rw [bdk i1, if_pos (by decide), bd2k s1, kg_ok (kd71 hp), ag_nat hp (by decide), ag_ok (by omega) (by omega) (by decide), lt_v, e8]
      exact t1
    · show X11_hearts ρ p = _
      unfold X11_hearts X11_part
      rw [bdk i2, if_pos (by decide), bdk s2, bd_some, lt_v, ag_ok (by omega) (by omega) (by decide), lt_v, show ((5 : Int) + 165 * p + 1).toNat = 6 + 165 * p by omega, show (5 : Int) + 165 * p + 1 = 6 + 165 * p by omega, s4]
      exact t2
  · have i1 := isPart_f (σ := τ) h1 ha
    have i2 := mPart_f (σ := ρ) h1 ha
    refine sim_tell (x := fun τ => X10_hearts τ a) (y := fun ρ => X11_hearts ρ a) (k := 0) (c := -1000001) h (by omega) ?_ ?_
    · show X10_hearts τ a = _
      unfold X10_hearts
      rw [bdk i1, if_neg (by decide), bd2k (tell_0 τ)]
    · show X11_hearts ρ a = _
      unfold X11_hearts
      rw [bdk i2, if_neg (by decide), bd2k (finds_0 ρ)]
