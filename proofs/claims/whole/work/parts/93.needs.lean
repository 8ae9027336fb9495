/-! needs: the reference -/
theorem needsM {r : Nat → Int} (hw : WF r) {p : Nat} (hp : p < 4) {ρ1 : Mem} (hpm : ∀ s, s < 3 → PMs r p s ρ1) : ∀ (n f : Nat) (ρ : Mem) (lo hi : Nat) (z : Int), hi - lo ≤ n → n < f → 1 ≤ lo → lo ≤ hi → hi ≤ 1000 → (∀ q, q ≠ 112 → q < 120 ∨ 125 < q → ρ q = ρ1 q) → ρ 112 = up r 2 z → (∀ k : Nat, 1 ≤ k → k < lo → flP r p k ∨ ¬ flP r p 0) → (hi = 1000 ∨ (flP r p 0 ∧ ¬ flP r p hi)) → ∃ (u : Nat) (ρ' : Mem), X11_needs_L32 f ρ p (r 2) lo hi = (if u ≤ 999 then some ((u : Int), st ρ' 112 2 (r 2)) else some (-1000004, fnd (st ρ' 112 2 (r 2)) 3)) ∧ (∀ q, q ≠ 112 → q < 120 ∨ 125 < q → ρ' q = ρ1 q) ∧ (∃ z, ρ' 112 = up r 2 z) ∧ 1 ≤ u ∧ u ≤ 1000 ∧ (∀ k : Nat, 1 ≤ k → k < u → flP r p k ∨ ¬ flP r p 0) ∧ (u = 1000 ∨ (flP r p 0 ∧ ¬ flP r p u)) := by
  have h40 := hw.bars hp
  have hfl := hw.flds hp
  have hn := hw.need
  obtain ⟨x, hx⟩ : ∃ x : Nat, r (8 + 165 * p) = x := ⟨(r (8 + 165 * p)).toNat, by omega⟩
  intro n
  induction n with
  | zero =>
    intro f ρ lo hi z h1 h2 h3 h4 h5 h6 h7 h8 h9
    obtain ⟨f, rfl⟩ : ∃ x, f = x + 1 := ⟨f - 1, by omega⟩
    have hlh : hi = lo := by omega
    refine ⟨lo, ρ, ?_, h6, ⟨z, h7⟩, h3, by omega, h8, by rw [← hlh]; exact h9⟩
    show X11_needs_B32 _ _ _ _ _ _ = _
    unfold X11_needs_B32
    rw [if_pos (by first | omega | (unfold w32; omega)), ag_ok (by omega) (by omega) (by decide), lt_v, show (2 : Int).toNat = 2 from rfl]
    by_cases c : lo ≤ 999
    · rw [if_pos (by first | omega | (unfold w32; omega)), if_pos c]
    · rw [if_neg (by first | omega | (unfold w32; omega)), if_neg c, bd2k (finds_3 _)]
  | succ n ih =>
    intro f ρ lo hi z h1 h2 h3 h4 h5 h6 h7 h8 h9
    by_cases hlh : hi = lo
    · exact ih f ρ lo hi z (by omega) (by omega) h3 h4 h5 h6 h7 h8 h9
    · obtain ⟨f, rfl⟩ : ∃ x, f = x + 1 := ⟨f - 1, by omega⟩
      obtain ⟨md, hmd, hm1⟩ : ∃ md, md = (lo + hi) / 2 ∧ lo ≤ md ∧ md < hi := ⟨(lo + hi) / 2, rfl, by omega, by omega⟩
      have q1 : ¬ w32 (hi : Int) ≤ w32 (lo : Int) := (by first | omega | (unfold w32; omega))
      have q2 : 0 ≤ (lo : Int) + hi ∧ (lo : Int) + hi < 2147483648 := by omega
      have q3 : ((lo : Int) + hi) / 2 = (md : Int) := by omega
      have k1 : hi - (md + 1) ≤ n := by omega
      have k2 : n < f := by omega
      have k3 : 1 ≤ md + 1 := by omega
      have k4 : md + 1 ≤ hi := by omega
      have k5 : md - lo ≤ n := by omega
      have k6 : md ≤ 1000 := by omega
      have k7 : (md : Int) ≤ 999 := by omega
      have k8 : (0 : Int) ≤ md := by omega
      have row : st ρ 112 2 (md : Int) 112 = up r 2 md := by rw [st_self, h7, up_twice]
      have hok : okR 2 (md : Int) := ⟨fun c => absurd c (by decide), fun c => absurd c (by decide), fun _ => ⟨k8, k7⟩, fun c => absurd c (by decide), fun c => absurd c (by decide)⟩
      obtain ⟨w, ρ2, w1, w2, w3, w4, w5⟩ := tryM hw hp (m := r (6 + 165 * p)) (nd := (md : Int)) (x := x) (hw.rule (by omega) hok) (alk_rule (by omega)) (up_ne (by omega)) (by rw [up_ne (by omega)]; exact hx) (up_at _ _ _) (up_ne (by omega)) row (fun s hs => (hpm s hs).frame (by rw [st_ne (by omega), h6 118 (by omega) (by omega)]))
      have f4 : ∀ q, q ≠ 112 → q < 120 ∨ 125 < q → ρ2 q = ρ1 q := fun q q1 q2 => by rw [w2 q q2, st_ne q1, h6 q q1 q2]
      have row2 : ρ2 112 = up r 2 md := by rw [w2 112 (by omega)]; exact row
      have hfe : flP r p (md : Int) ↔ w = 0 := by
        rw [w4]
        unfold flP
        rw [hx, Int.toNat_natCast]
      have hf0 : flP r p 0 ↔ w ≠ -1 := by
        have ex := bW_ex (N := (r (9 + 165 * p)).toNat) (pk := pkn r p 3) (pp := r 4) (tn := tnB x) (sp := fun k => decide (esS r p (r (6 + 165 * p)) k < (md : Int))) (sp' := fun k => decide (esS r p (r (6 + 165 * p)) k < 0)) (fun b k _ hk => bnd_pkn hw hp (by omega) 3 (by omega)) hw.page (fun k _ => by
          have := esS_in hw hp (r (6 + 165 * p)) k
          simp; omega) _ 0 0 (Nat.le_refl _)
        rw [Ne, w5]
        unfold flP
        rw [hx, Int.toNat_natCast, ← ex]
        constructor
        · rintro ⟨a1, a2⟩ (c | c)
          · omega
          · exact a2 c
        · intro c
          exact ⟨by
            by_cases c0 : r (9 + 165 * p) = 0
            · exact absurd (Or.inl c0) c
            · omega, fun d => c (Or.inr d)⟩
      have e : X11_needs_L32 (f + 1) ρ p (r 2) lo hi = if w32 w ≤ 0 then X11_needs_L32 f ρ2 p (r 2) ((md + 1 : Nat) : Int) hi else X11_needs_L32 f ρ2 p (r 2) lo md := by
        show X11_needs_B32 _ _ _ _ _ _ = _
        unfold X11_needs_B32 X11_needs_B74
        rw [if_neg q1, dg_ok (by decide), lt_v, idv_ok q2 ⟨by decide, by decide⟩, q3, ag_ok (by decide) (by decide) (by decide), lt_v, show (2 : Int).toNat = 2 from rfl, bd2k w1, lt_v]
        rfl
      rw [e]
      by_cases c : w ≤ 0
      · rw [if_pos (by rw [w32_id (by omega) (by omega)]; exact c)]
        refine ih f ρ2 (md + 1) hi md k1 k2 k3 k4 h5 f4 row2 (fun k k1 k2 => ?_) h9
        by_cases hk : k < lo
        · exact h8 k k1 hk
        · have hkm : (k : Int) ≤ md := Int.ofNat_le.mpr (Nat.le_of_lt_succ k2)
          by_cases cw : w = 0
          · exact Or.inl (flP_mono hw hp hkm (hfe.mpr cw))
          · refine Or.inr (fun d => (hf0.mp d) ?_)
            clear hkm h8 h9 hf0 hfe w4 w5 h6 f4 row2 row ih
            omega
      · rw [if_neg (by rw [w32_id (by omega) (by omega)]; exact c)]
        have cm : w ≠ -1 := fun hh => c (by rw [hh]; decide)
        have c0 : w ≠ 0 := fun hh => c (by rw [hh]; decide)
        exact ih f ρ2 lo md md k5 k2 h3 hm1.1 k6 f4 row2 h8 (Or.inr ⟨hf0.mpr cm, fun d => c0 (hfe.mp d)⟩)
theorem sim_needs {a : Int} (ha : inR a) : Sim (fun τ => X10_needs τ a) (fun ρ => X11_needs ρ a) := by
  intro τ ρ h
  by_cases h1 : 0 ≤ a ∧ a ≤ 3
  · obtain ⟨p, rfl⟩ := Int.eq_ofNat_of_zero_le h1.1
    have hp : p < 4 := by omega
    have hme := h.1.mem hp
    have hfl := h.1.flds hp
    have h40 := h.1.bars hp
    obtain ⟨x, hx⟩ : ∃ x : Nat, ρ 112 (8 + 165 * p) = x := ⟨(ρ 112 (8 + 165 * p)).toNat, by omega⟩
    obtain ⟨τ1, ρ1, s1, s2, s3, s4, s5, s6, s7, s8⟩ := tab_pages h hp
    have i1 := isPart_t (σ := τ) h1.1 h1.2
    have i2 := mPart_t (σ := ρ) h1.1 h1.2
    have hcrb : CRB 1 (ρ 112) τ1 := by have := s3.2.1; rw [s4] at this; exact this
    have e6 : τ1 (9 + 3 * p + 1) (1 : Int).toNat = ρ 112 (6 + 165 * p) := by
      rw [show 9 + 3 * p + 1 = 10 + 3 * p by omega, show (1 : Int).toNat = 1 from rfl, hcrb.trt hp (by omega), show 5 + 165 * p + 1 = 6 + 165 * p by omega]
    have e8 : τ1 (9 + 3 * p + 1) (3 : Int).toNat = ρ 112 (8 + 165 * p) := by
      rw [show 9 + 3 * p + 1 = 10 + 3 * p by omega, show (3 : Int).toNat = 3 from rfl, hcrb.trt hp (by omega), show 5 + 165 * p + 3 = 8 + 165 * p by omega]
    obtain ⟨τ2, u1, u2, u3⟩ := c_findEase h.1 hp hme hcrb
    have hpt2 : PT (ρ 112) p τ2 := s7.frame (u2 _ (by omega)) (u2 _ (by omega))
    obtain ⟨v, τ3, v1, v2, v3⟩ := tryC h.1 hp (x := x) (by omega) (m := ρ 112 (6 + 165 * p)) (nd := 0) (by omega) hpt2 u3
    have hf0 : flP (ρ 112) p 0 ↔ 0 < (ρ 112 (9 + 165 * p)).toNat ∧ nf (ρ 112 (9 + 165 * p)).toNat (pkn (ρ 112) p 3) (ρ 112 4) (tnB x) (fun k => decide (esS (ρ 112) p (ρ 112 (6 + 165 * p)) k < 0)) 0 0 := by
      unfold flP
      rw [hx, Int.toNat_natCast]
    obtain ⟨u, ρ', x1, x2, ⟨z, x3⟩, x4, x5, x6, x7⟩ := needsM h.1 hp s8 999 5000 ρ1 1 1000 (ρ 112 2) (by omega) (by omega) (by omega) (by omega) (by omega) (fun _ _ _ => rfl) (by rw [up_id]; exact s4) (fun k k1 k2 => by omega) (Or.inl rfl)
    have back : ∀ (υ : Mem), (∀ c, c ≠ 58 → c ≠ 59 → υ c = τ1 c) → Rel υ (st ρ' 112 2 (ρ 112 2)) := fun υ hυ => relH s3 hυ (fun q q1 q2 => by rw [st_ne q1]; exact x2 q q1 q2) (by rw [st_self, x3, up_twice, up_id, s4])
    have fr : ∀ q, q < 111 → st ρ' 112 2 (ρ 112 2) q = ρ q := fun q hq => by rw [st_ne (by omega), x2 q (by omega) (by omega), s6 q hq]
    have eref : X11_needs ρ p = if u ≤ 999 then some ((u : Int), st ρ' 112 2 (ρ 112 2)) else some (-1000004, fnd (st ρ' 112 2 (ρ 112 2)) 3) := by
      unfold X11_needs
      rw [bdk i2, if_pos (by decide), bdk s2, ag_ok (by omega) (by omega) (by decide), lt_v, show (2 : Int).toNat = 2 from rfl, s4]
      exact x1
    have ecls0 : X10_needs τ p = if w32 v ≠ 0 then X10_needs_L85 5000 τ3 (71 + 10 * p) (ρ 112 (8 + 165 * p)) 0 512 else some (-1000004, tel τ3 3) := by
      unfold X10_needs
      rw [bdk i1, if_pos (by decide), bd2k s1, kg_ok (kd71 hp), ag_nat hp (by decide), ag_ok (by omega) (by omega) (by decide), lt_v, e8, ag_ok (by omega) (by omega) (by decide), e6, bdk u1, hx, bd2k v1, bd2k (tell_3 τ3)]
    rcases v3 with ⟨c1, c2⟩ | ⟨c1, c2⟩
    · have hP0 := hf0.mpr c1
      rw [c2, if_pos (by decide)] at ecls0
      obtain ⟨m, τ4, y1, y2, y3, y4, y5⟩ := needsC h.1 hp hpt2 u3 10 5000 τ3 0 (by omega) (by omega) v2 hP0 (Or.inl (by decide)) (by decide)
      have y1' : X10_needs_L85 5000 τ3 (71 + 10 * p) (ρ 112 (8 + 165 * p)) 0 512 = (if m < 999 then some (((m : Int) + 1), τ4) else some (-1000004, tel τ4 3)) := y1
      rw [y1'] at ecls0
      have f4 : ∀ c, c ≠ 58 → c ≠ 59 → τ4 c = τ1 c := fun c d1 d2 => by rw [y2 c d2, u2 c d1]
      have ft : ∀ q, 111 ≤ q → τ4 q = τ q := fun q hq => by rw [f4 q (by omega) (by omega), s5 q hq]
      by_cases hm : m < 999
      · have hu : u = m + 1 := by
          rcases y4 with y4 | y4
          · omega
          · have a1 : ¬ m + 1 < u := fun c => by
              rcases x6 (m + 1) (by omega) c with d | d
              · exact y4 d
              · exact d hP0
            have a2 : ¬ u ≤ m := fun c => by
              rcases x7 with d | d
              · omega
              · exact d.2 (flP_mono h.1 hp (show (u : Int) ≤ m by omega) y3)
            omega
        rw [if_pos hm] at ecls0
        rw [if_pos (by omega), hu] at eref
        exact ⟨(m : Int) + 1, τ4, _, ecls0, eref, back τ4 f4, ft, fr⟩
      · have hu : u = 1000 := by
          rcases x7 with d | d
          · exact d
          · by_cases c : u = 1000
            · exact c
            · exact absurd (flP_mono h.1 hp (show (u : Int) ≤ m by omega) y3) d.2
        rw [if_neg hm] at ecls0
        rw [if_neg (by omega)] at eref
        exact sim_tell2 (x := fun τ => X10_needs τ p) (y := fun ρ => X11_needs ρ p) (k := 3) (back τ4 f4) ft fr (by omega) ecls0 eref
    · rw [c2, if_neg (by decide)] at ecls0
      have hu : u = 1000 := by
        rcases x7 with d | d
        · exact d
        · exact absurd (hf0.mp d.1) c1
      rw [if_neg (by omega)] at eref
      have f4 : ∀ c, c ≠ 58 → c ≠ 59 → τ3 c = τ1 c := fun c d1 d2 => by rw [v2 c d2, u2 c d1]
      exact sim_tell2 (x := fun τ => X10_needs τ p) (y := fun ρ => X11_needs ρ p) (k := 3) (back τ3 f4) (fun q hq => by rw [f4 q (by omega) (by omega), s5 q hq]) fr (by omega) ecls0 eref
  · have i1 := isPart_f (σ := τ) h1 ha
    have i2 := mPart_f (σ := ρ) h1 ha
    refine sim_tell (x := fun τ => X10_needs τ a) (y := fun ρ => X11_needs ρ a) (k := 0) (c := -1000001) h (by omega) ?_ ?_
    · show X10_needs τ a = _
      unfold X10_needs
      rw [bdk i1, if_neg (by decide), bd2k (tell_0 τ)]
    · show X11_needs ρ a = _
      unfold X11_needs
      rw [bdk i2, if_neg (by decide), bd2k (finds_0 ρ)]
