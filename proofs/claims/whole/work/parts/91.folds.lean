/-! folds -/
def zz : Mem := fun _ _ => 0
def ev (c : Nat) : Nat := c % 2 + 4 * (c / 2 % 2) + 16 * (c / 4 % 2) + 64 * (c / 8 % 2) + 256 * (c / 16 % 2)
def pc (s : Nat) : Int := ((s % 2 + s / 4 % 2 + s / 16 % 2 + s / 64 % 2 + s / 256 % 2 : Nat) : Int)
def cn : Nat → Nat
  | 0 => 0
  | s + 1 => cn s + (if s &&& 341 = s then 1 else 0)
set_option maxRecDepth 20000 in
theorem ev_dec : ∀ c : Fin 32, X10_evenPages_L4 zz 6 ((c : Nat) : Int) 0 0 = some ((ev c : Nat) : Int) := by decide +kernel
set_option maxRecDepth 20000 in
theorem bc_dec : ∀ c : Fin 32, J6_bitCount_0f7a4 zz ((ev c : Nat) : Int) = some (pc (ev c)) := by decide +kernel
set_option maxRecDepth 20000 in
theorem on_dec : ∀ c : Fin 32, X11_ones_L4 zz 6 0 ((ev c : Nat) : Int) = some (pc (ev c)) := by decide +kernel
set_option maxRecDepth 20000 in
theorem cn_dec : ∀ s : Fin 342, ((s : Nat) &&& 341 = (s : Nat)) → ev (cn s) = (s : Nat) ∧ cn s < 32 := by decide +kernel
theorem cn_342 : cn 342 = 32 := by decide +kernel
set_option maxRecDepth 20000 in
theorem mk_dec : ∀ s : Fin 342, (w32 (ian ((s : Nat) : Int) (-342)) = 0) ↔ ((s : Nat) &&& 341 = (s : Nat)) := by decide +kernel
set_option maxRecDepth 20000 in
theorem ev_lt : ∀ c : Fin 32, ev c < 342 := by decide +kernel
theorem even_lift {σ : Mem} {v : Int} : ∀ (n m : Nat) (a b c : Int), X10_evenPages_L4 zz n a b c = some v → n ≤ m → X10_evenPages_L4 σ m a b c = some v
  | 0, _, _, _, _, h, _ => by cases h
  | n + 1, m, a, b, c, h, hm => by
    obtain ⟨m, rfl⟩ : ∃ x, m = x + 1 := ⟨m - 1, by omega⟩
    have h' : X10_evenPages_B4 (X10_evenPages_L4 zz n) zz a b c = some v := h
    show X10_evenPages_B4 (X10_evenPages_L4 σ m) σ a b c = some v
    unfold X10_evenPages_B4 at h' ⊢
    by_cases c1 : w32 5 ≤ w32 c
    · rw [if_pos c1] at h' ⊢; exact h'
    · rw [if_neg c1, lt_v, lt_v] at h' ⊢
      exact even_lift n m _ _ _ h' (by omega)
theorem ones_lift {σ : Mem} {v : Int} : ∀ (n m : Nat) (a b : Int), X11_ones_L4 zz n a b = some v → n ≤ m → X11_ones_L4 σ m a b = some v
  | 0, _, _, _, h, _ => by cases h
  | n + 1, m, a, b, h, hm => by
    obtain ⟨m, rfl⟩ : ∃ x, m = x + 1 := ⟨m - 1, by omega⟩
    have h' : X11_ones_B4 (X11_ones_L4 zz n) zz a b = some v := h
    show X11_ones_B4 (X11_ones_L4 σ m) σ a b = some v
    unfold X11_ones_B4 at h' ⊢
    by_cases c1 : w32 b = 0
    · rw [if_pos c1] at h' ⊢; exact h'
    · rw [if_neg c1, lt_v, lt_v] at h' ⊢
      exact ones_lift n m _ _ h' (by omega)
theorem c_even {σ : Mem} {c : Nat} (hc : c < 32) : X10_evenPages σ c = some ((ev c : Nat) : Int) := even_lift 6 5000 _ _ _ (ev_dec ⟨c, hc⟩) (by omega)
theorem c_bits {σ : Mem} {c : Nat} (hc : c < 32) : J6_bitCount_0f7a4 σ ((ev c : Nat) : Int) = some (pc (ev c)) := bc_dec ⟨c, hc⟩
theorem m_ones {σ : Mem} {c : Nat} (hc : c < 32) : X11_ones σ ((ev c : Nat) : Int) = some (pc (ev c)) := ones_lift 6 5000 _ _ (on_dec ⟨c, hc⟩) (by omega)
theorem pc_in (s : Nat) : 0 ≤ pc s ∧ pc s ≤ 5 := by unfold pc; omega
theorem foldsL {r : Nat → Int} (hw : WF r) {p : Nat} (hp : p < 4) {τ1 ρ1 : Mem} (hrel : Rel τ1 ρ1) (h112 : ρ1 112 = r) (hpt : PT r p τ1) (hpm : ∀ s, s < 3 → PMs r p s ρ1) (hes : ∀ j : Nat, (j : Int) < r (9 + 165 * p) → τ1 58 j = esS r p (r (6 + 165 * p)) j) : ∀ (n s f g : Nat) (τ ρ : Mem) (z best : Int), s + n = 342 → 32 - cn s < f → n < g → (∀ c, c ≠ 59 → τ c = τ1 c) → (∀ q, q ≠ 112 → q < 120 ∨ 125 < q → ρ q = ρ1 q) → ρ 112 = up r (8 + 165 * p) z → cn s ≤ 32 → (best = -1 ∨ ∃ c, c < 32 ∧ best = ((ev c : Nat) : Int)) → ∃ v τ' ρ', X10_folds_L51 f τ (71 + 10 * p) best (cn s) = some (v, τ') ∧ X11_folds_L38 g ρ p (8 + 165 * (p : Int)) (r (8 + 165 * p)) best s = some (v, ρ') ∧ Rel τ' ρ' ∧ (∀ q, 111 ≤ q → τ' q = τ1 q) ∧ ∀ q, q < 111 → ρ' q = ρ1 q := by
  have hn := hw.need
  have back : ∀ (τ ρ : Mem) (z : Int), (∀ c, c ≠ 59 → τ c = τ1 c) → (∀ q, q ≠ 112 → q < 120 ∨ 125 < q → ρ q = ρ1 q) → ρ 112 = up r (8 + 165 * p) z → Rel τ (st ρ 112 (8 + 165 * p) (r (8 + 165 * p))) ∧ (∀ q, 111 ≤ q → τ q = τ1 q) ∧ ∀ q, q < 111 → st ρ 112 (8 + 165 * p) (r (8 + 165 * p)) q = ρ1 q := by
    intro τ ρ z a b c
    refine ⟨relH hrel (fun q _ q2 => a q q2) (fun q q1 q2 => by rw [st_ne q1]; exact b q q1 q2) ?_, fun q hq => a q (by omega), fun q hq => by rw [st_ne (by omega)]; exact b q (by omega) (by omega)⟩
    rw [st_self, c, up_twice, up_id, h112]
  have hidx : (8 + 165 * (p : Int)).toNat = 8 + 165 * p := by omega
  have bin : ∀ best : Int, (best = -1 ∨ ∃ c, c < 32 ∧ best = ((ev c : Nat) : Int)) → -1 ≤ best ∧ best < 342 := fun best hb => by
    rcases hb with h | ⟨c, c1, c2⟩
    · omega
    · have := ev_lt ⟨c, c1⟩
      simp only at this
      omega
  intro n
  induction n with
  | zero =>
    intro s f g τ ρ z best h1 h2 h3 h4 h5 h6 h7 h8
    obtain ⟨f, rfl⟩ : ∃ x, f = x + 1 := ⟨f - 1, by omega⟩
    obtain ⟨g, rfl⟩ : ∃ x, g = x + 1 := ⟨g - 1, by omega⟩
    have hs : s = 342 := by omega
    obtain ⟨b1, b2, b3⟩ := back τ ρ z h4 h5 h6
    have hbi := bin best h8
    have ec : X10_folds_L51 (f + 1) τ (71 + 10 * p) best (cn s) = if 0 ≤ best then some (best, τ) else some (-1000004, tel τ 3) := by
      rw [hs, cn_342]
      show X10_folds_B51 _ _ _ _ _ = _
      unfold X10_folds_B51
      rw [if_pos (by decide)]
      by_cases c : 0 ≤ best
      · rw [if_pos (by first | omega | (unfold w32; omega)), if_pos c]
      · rw [if_neg (by first | omega | (unfold w32; omega)), if_neg c, bd2k (tell_3 τ)]
    have er : X11_folds_L38 (g + 1) ρ p (8 + 165 * (p : Int)) (r (8 + 165 * p)) best s = if 0 ≤ best then some (best, st ρ 112 (8 + 165 * p) (r (8 + 165 * p))) else some (-1000004, fnd (st ρ 112 (8 + 165 * p) (r (8 + 165 * p))) 3) := by
      show X11_folds_B38 _ _ _ _ _ _ _ = _
      unfold X11_folds_B38
      rw [if_pos (by first | omega | (unfold w32; omega)), ag_ok (by omega) (by omega) (by decide), hidx, lt_v]
      by_cases c : 0 ≤ best
      · rw [if_pos (by first | omega | (unfold w32; omega)), if_pos c]
      · rw [if_neg (by first | omega | (unfold w32; omega)), if_neg c, bd2k (finds_3 _)]
    rw [ec, er]
    by_cases c : 0 ≤ best
    · rw [if_pos c, if_pos c]
      exact ⟨_, _, _, rfl, rfl, b1, b2, b3⟩
    · rw [if_neg c, if_neg c]
      exact ⟨_, _, _, rfl, rfl, b1.tell (by omega), fun q hq => by rw [← b2 q hq]; exact st_ne (by omega), fun q hq => by rw [← b3 q hq]; exact st_ne (by omega)⟩
  | succ n ih =>
    intro s f g τ ρ z best h1 h2 h3 h4 h5 h6 h7 h8
    obtain ⟨g, rfl⟩ : ∃ x, g = x + 1 := ⟨g - 1, by omega⟩
    have hs342 : s < 342 := by omega
    have hmk := mk_dec ⟨s, hs342⟩
    simp only at hmk
    have hbi := bin best h8
    by_cases hev : s &&& 341 = s
    · obtain ⟨e1, e2⟩ := cn_dec ⟨s, hs342⟩ hev
      simp only at e1 e2
      have hcn : cn (s + 1) = cn s + 1 := by show cn s + (if s &&& 341 = s then 1 else 0) = _; rw [if_pos hev]
      obtain ⟨f, rfl⟩ : ∃ x, f = x + 1 := ⟨f - 1, by omega⟩
      have hcrb : CRB 1 r τ := by
        have := hrel.2.1
        rw [h112] at this
        exact this.frame (fun k _ _ => h4 k (by omega))
      have e2' : τ 3 (2 : Int).toNat = r 2 := hcrb.rul (by omega)
      obtain ⟨v, τ3, u1, u2, u3⟩ := tryC hw hp (x := s) (by omega) (m := r (6 + 165 * p)) (nd := r 2) (by omega) (τ := τ) (hpt.frame (h4 _ (by omega)) (h4 _ (by omega))) (fun j hj => by rw [h4 58 (by omega)]; exact hes j hj)
      have f3 : ∀ c, c ≠ 59 → τ3 c = τ1 c := fun c c2 => by rw [u2 c c2, h4 c c2]
      have row : st ρ 112 (8 + 165 * p) s 112 = up r (8 + 165 * p) s := by rw [st_self, h6, up_twice]
      have hok : okT p 3 (s : Int) := ⟨fun c => by omega, fun c => by omega, fun c => by omega, fun _ => by omega⟩
      have hix : 5 + 165 * p + 3 = 8 + 165 * p := by omega
      have hw' : WF (up r (8 + 165 * p) s) := by rw [← hix]; exact hw.trait hp (by omega) hok
      have ha' : alk r (up r (8 + 165 * p) s) := by rw [← hix]; exact alk_trait hp (Or.inr rfl)
      obtain ⟨w, ρ2, w1, w2, w3, w4, w5⟩ := tryM hw hp (m := r (6 + 165 * p)) (nd := r 2) (x := s) hw' ha' (up_ne (by omega)) (up_at _ _ _) (up_ne (by omega)) (up_ne (by omega)) row (fun s hs => (hpm s hs).frame (by rw [st_ne (by omega), h5 118 (by omega) (by omega)]))
      have f4 : ∀ q, q ≠ 112 → q < 120 ∨ 125 < q → ρ2 q = ρ1 q := fun q q1 q2 => by rw [w2 q q2, st_ne q1, h5 q q1 q2]
      have row2 : ρ2 112 = up r (8 + 165 * p) s := by rw [w2 112 (by omega)]; exact row
      have hsE : (s : Int) = ((ev (cn s) : Nat) : Int) := by rw [e1]
      -- one more is tried, or not
      have tryIt : ∀ (X : Option (Int × Mem)) (Y : Option (Int × Mem)), X = X10_folds_B86 (X10_folds_L51 f) τ (71 + 10 * p) best (cn s) s 1 → Y = X11_folds_B76 (X11_folds_L38 g) ρ p (8 + 165 * (p : Int)) (r (8 + 165 * p)) best s → ∃ v τ' ρ', X = some (v, τ') ∧ Y = some (v, ρ') ∧ Rel τ' ρ' ∧ (∀ q, 111 ≤ q → τ' q = τ1 q) ∧ ∀ q, q < 111 → ρ' q = ρ1 q := by
        intro X Y hX hY
        have eX : X = if w32 v = 0 then X10_folds_L51 f τ3 (71 + 10 * p) best (cn (s + 1)) else X10_folds_L51 f τ3 (71 + 10 * p) s (cn (s + 1)) := by
          rw [hX, hcn]
          unfold X10_folds_B86 X10_folds_B118
          rw [if_neg (by decide), ag_ok (by omega) (by omega) (by decide), e2', bd2k u1, lt_v, lt_v]
          rfl
        have eY : Y = if w32 w ≠ 0 then X11_folds_L38 g ρ2 p (8 + 165 * (p : Int)) (r (8 + 165 * p)) best ((s + 1 : Nat) : Int) else X11_folds_L38 g ρ2 p (8 + 165 * (p : Int)) (r (8 + 165 * p)) s ((s + 1 : Nat) : Int) := by
          rw [hY]
          unfold X11_folds_B76 X11_folds_B99 X11_folds_B101
          rw [ag_ok (by omega) (by omega) (by decide), hidx, lt_v, bd2k w1, lt_v, lt_v]
          rfl
        rw [eX, eY]
        rcases u3 with ⟨c1, c2⟩ | ⟨c1, c2⟩
        · have hs : w = 0 := w4.mpr c1
          rw [c2, hs, if_neg (by decide), if_neg (by decide)]
          exact ih (s + 1) f g τ3 ρ2 s s (by omega) (by omega) (by omega) f3 f4 row2 (by omega) (Or.inr ⟨cn s, e2, hsE⟩)
        · have hs : w ≠ 0 := fun c => c1 (w4.mp c)
          rw [c2, if_pos (by decide), if_pos (by rw [w32_id (by omega) (by omega)]; exact hs)]
          exact ih (s + 1) f g τ3 ρ2 s best (by omega) (by omega) (by omega) f3 f4 row2 (by omega) h8
      have ev' : X10_evenPages τ (cn s) = some (s : Int) := by rw [c_even e2, e1]
      rcases h8 with hb | ⟨c, c1, c2⟩
      · refine tryIt _ _ ?_ ?_
        · show X10_folds_B51 _ _ _ _ _ = _
          unfold X10_folds_B51 X10_folds_B81
          rw [if_neg (by first | omega | (unfold w32; omega)), bdk ev', if_pos (by first | omega | (unfold w32; omega))]
        · show X11_folds_B38 _ _ _ _ _ _ _ = _
          unfold X11_folds_B38
          rw [if_neg (by first | omega | (unfold w32; omega)), if_neg (fun x => x (hmk.mpr hev)), if_pos (by first | omega | (unfold w32; omega))]
      · have b1 := c_bits (σ := τ) (c := cn s) e2
        rw [e1] at b1
        have b2 := c_bits (σ := τ) c1
        rw [← c2] at b2
        have o1 := m_ones (σ := ρ) (c := cn s) e2
        rw [e1] at o1
        have o2 := m_ones (σ := ρ) c1
        rw [← c2] at o2
        have p1 := pc_in s
        have p2 := pc_in (ev c)
        by_cases hf : pc s < pc (ev c)
        · refine tryIt _ _ ?_ ?_
          · show X10_folds_B51 _ _ _ _ _ = _
            unfold X10_folds_B51 X10_folds_B81
            rw [if_neg (by first | omega | (unfold w32; omega)), bdk ev', if_neg (by first | omega | (unfold w32; omega)), bdk b1, bdk b2, if_neg (by first | omega | (unfold w32; omega))]
          · show X11_folds_B38 _ _ _ _ _ _ _ = _
            unfold X11_folds_B38
            rw [if_neg (by first | omega | (unfold w32; omega)), if_neg (fun x => x (hmk.mpr hev)), if_neg (by first | omega | (unfold w32; omega)), bdk o1, bdk o2, if_pos (by first | omega | (unfold w32; omega))]
        · have eX : X10_folds_L51 (f + 1) τ (71 + 10 * p) best (cn s) = X10_folds_L51 f τ (71 + 10 * p) best (cn (s + 1)) := by
            rw [hcn]
            show X10_folds_B51 _ _ _ _ _ = _
            unfold X10_folds_B51 X10_folds_B86 X10_folds_B118
            rw [if_neg (by first | omega | (unfold w32; omega)), bdk ev', if_neg (by first | omega | (unfold w32; omega)), bdk b1, bdk b2, if_pos (by first | omega | (unfold w32; omega)), if_pos (by decide), lt_v]
            rfl
          have eY : X11_folds_L38 (g + 1) ρ p (8 + 165 * (p : Int)) (r (8 + 165 * p)) best s = X11_folds_L38 g ρ p (8 + 165 * (p : Int)) (r (8 + 165 * p)) best ((s + 1 : Nat) : Int) := by
            show X11_folds_B38 _ _ _ _ _ _ _ = _
            unfold X11_folds_B38 X11_folds_B101
            rw [if_neg (by first | omega | (unfold w32; omega)), if_neg (fun x => x (hmk.mpr hev)), if_neg (by first | omega | (unfold w32; omega)), bdk o1, bdk o2, if_neg (by first | omega | (unfold w32; omega)), lt_v]
            rfl
          rw [eX, eY]
          exact ih (s + 1) f g τ ρ z best (by omega) (by omega) (by omega) h4 h5 h6 (by omega) (Or.inr ⟨c, c1, c2⟩)
    · have hcn : cn (s + 1) = cn s := by show cn s + (if s &&& 341 = s then 1 else 0) = _; rw [if_neg hev]; rfl
      have eY : X11_folds_L38 (g + 1) ρ p (8 + 165 * (p : Int)) (r (8 + 165 * p)) best s = X11_folds_L38 g ρ p (8 + 165 * (p : Int)) (r (8 + 165 * p)) best ((s + 1 : Nat) : Int) := by
        show X11_folds_B38 _ _ _ _ _ _ _ = _
        unfold X11_folds_B38 X11_folds_B101
        rw [if_neg (by first | omega | (unfold w32; omega)), if_pos (fun x => hev (hmk.mp x)), lt_v]
        rfl
      have k1 : s + 1 + n = 342 := by omega
      have k2 : n < g := by omega
      rw [eY, ← hcn]
      exact ih (s + 1) f g τ ρ z best k1 (by rw [hcn]; exact h2) k2 h4 h5 h6 (by rw [hcn]; exact h7) h8
theorem sim_folds {a : Int} (ha : inR a) : Sim (fun τ => X10_folds τ a) (fun ρ => X11_folds ρ a) := by
  intro τ ρ h
  by_cases h1 : 0 ≤ a ∧ a ≤ 3
  · obtain ⟨p, rfl⟩ := Int.eq_ofNat_of_zero_le h1.1
    have hp : p < 4 := by omega
    have hme := h.1.mem hp
    obtain ⟨τ1, ρ1, s1, s2, s3, s4, s5, s6, s7, s8⟩ := tab_pages h hp
    have i1 := isPart_t (σ := τ) h1.1 h1.2
    have i2 := mPart_t (σ := ρ) h1.1 h1.2
    have hcrb : CRB 1 (ρ 112) τ1 := by have := s3.2.1; rw [s4] at this; exact this
    have e6 : τ1 (9 + 3 * p + 1) (1 : Int).toNat = ρ 112 (6 + 165 * p) := by
      rw [show 9 + 3 * p + 1 = 10 + 3 * p by omega, show (1 : Int).toNat = 1 from rfl, hcrb.trt hp (by omega), show 5 + 165 * p + 1 = 6 + 165 * p by omega]
    obtain ⟨τ2, u1, u2, u3⟩ := c_findEase h.1 hp hme hcrb
    have rel2 : Rel τ2 ρ1 := relH s3 (fun c c1 _ => u2 c c1) (fun _ _ _ => rfl) rfl
    obtain ⟨v, τ', ρ', t1, t2, t3, t4, t5⟩ := foldsL h.1 hp rel2 s4 (s7.frame (u2 _ (by omega)) (u2 _ (by omega))) s8 u3 342 0 5000 5000 τ2 ρ1 (ρ 112 (8 + 165 * p)) (-1) (by omega) (by show 32 - 0 < 5000; omega) (by omega) (fun _ _ => rfl) (fun _ _ _ => rfl) (by rw [up_id]; exact s4) (by show 0 ≤ 32; omega) (Or.inl rfl)
    refine ⟨v, τ', ρ', ?_, ?_, t3, fun q hq => by rw [t4 q hq, u2 q (by omega), s5 q hq], fun q hq => by rw [t5 q hq, s6 q hq]⟩
    · show X10_folds τ p = _
      unfold X10_folds
      rw [bdk i1, if_pos (by decide), bd2k s1, kg_ok (kd71 hp), ag_nat hp (by decide), ag_ok (by omega) (by omega) (by decide), e6, bdk u1]
      exact t1
    · show X11_folds ρ p = _
      unfold X11_folds X11_part
      rw [bdk i2, if_pos (by decide), bdk s2, bd_some, lt_v, ag_ok (by omega) (by omega) (by decide), lt_v, show ((5 : Int) + 165 * p + 3).toNat = 8 + 165 * p by omega, show (5 : Int) + 165 * p + 3 = 8 + 165 * p by omega, s4]
      exact t2
  · have i1 := isPart_f (σ := τ) h1 ha
    have i2 := mPart_f (σ := ρ) h1 ha
    refine sim_tell (x := fun τ => X10_folds τ a) (y := fun ρ => X11_folds ρ a) (k := 0) (c := -1000001) h (by omega) ?_ ?_
    · show X10_folds τ a = _
      unfold X10_folds
      rw [bdk i1, if_neg (by decide), bd2k (tell_0 τ)]
    · show X11_folds ρ a = _
      unfold X11_folds
      rw [bdk i2, if_neg (by decide), bd2k (finds_0 ρ)]
