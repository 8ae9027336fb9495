/-! calls about breaks; feed -/
theorem sim_breakOf {a b : Int} (ha : inR a) (hb : inR b) : Sim (fun τ => X10_breakOf τ a b) (fun ρ => X11_breakOf ρ a b) := by
  intro τ ρ h
  have e1 := c_breakOf h.1 h.2.1 ha hb
  have e2 := m_breakOf (σ := ρ) h.1 ha hb
  by_cases ok : (0 ≤ a ∧ a < ρ 112 665) ∧ 0 ≤ b ∧ b ≤ 4
  · obtain ⟨v, v1, v2⟩ := e1.1 ok
    obtain ⟨u, u1, u2⟩ := e2.1 ok
    rw [brS_eq u2 v2] at u1
    exact sim_same (x := fun τ => X10_breakOf τ a b) (y := fun ρ => X11_breakOf ρ a b) h v1 u1
  · exact sim_tell (x := fun τ => X10_breakOf τ a b) (y := fun ρ => X11_breakOf ρ a b) (k := 0) h (by omega) (e1.2 ok) (e2.2 ok)
theorem sim_price {a : Int} (ha : inR a) : Sim (fun τ => X10_price τ a) (fun ρ => X11_price ρ a) := by
  intro τ ρ h
  have hn := h.1.num
  by_cases h1 : 0 ≤ a ∧ a ≤ 3
  · obtain ⟨p, rfl⟩ := Int.eq_ofNat_of_zero_le h1.1
    have hp : p < 4 := by omega
    obtain ⟨N, hN⟩ : ∃ N : Nat, ρ 112 665 = N := ⟨(ρ 112 665).toNat, by omega⟩
    have i1 := isPart_t (σ := τ) h1.1 h1.2
    have i2 := mPart_t (σ := ρ) h1.1 h1.2
    have c := c_price h.1 h.2.1 hp hN N 0 5000 0 (by omega) (by omega)
    have m := m_price (σ := ρ) h.1 hp hN N 0 5000 0 (by omega) (by omega)
    refine sim_same (x := fun τ => X10_price τ p) (y := fun ρ => X11_price ρ p) (v := 0 + prT (ρ 112) p N 0) h ?_ ?_
    · show X10_price τ p = _
      unfold X10_price
      rw [bdk i1, if_pos (by decide)]
      exact c
    · show X11_price ρ p = _
      unfold X11_price
      rw [bdk i2, if_pos (by decide)]
      exact m
  · refine sim_tell (x := fun τ => X10_price τ a) (y := fun ρ => X11_price ρ a) (k := 0) (c := -1000001) h (by omega) ?_ ?_
    · show X10_price τ a = _
      unfold X10_price
      rw [bdk (isPart_f h1 ha), if_neg (by decide), bd2k (tell_0 τ)]
    · show X11_price ρ a = _
      unfold X11_price
      rw [bdk (mPart_f h1 ha), if_neg (by decide), bd2k (finds_0 ρ)]
theorem sim_judge {a : Int} (ha : inR a) : Sim (fun τ => X10_judge τ a) (fun ρ => X11_judge ρ a) := by
  intro τ ρ h
  have hn := h.1.num
  by_cases h1 : 0 ≤ a ∧ a ≤ 3
  · obtain ⟨p, rfl⟩ := Int.eq_ofNat_of_zero_le h1.1
    have hp : p < 4 := by omega
    have h40 := h.1.bars hp
    obtain ⟨N, hN⟩ : ∃ N : Nat, ρ 112 665 = N := ⟨(ρ 112 665).toNat, by omega⟩
    obtain ⟨v, v1, v2⟩ := judge_sim h.1 h.2.1 hp hN N 0 5000 5000 0 (-1) (by omega) (by omega) (by omega) (by omega) (by omega)
    refine sim_same (x := fun τ => X10_judge τ p) (y := fun ρ => X11_judge ρ p) (v := v) h ?_ ?_
    · show X10_judge τ p = _
      have e : X7_firstWrong τ 1 p = some v := by
        unfold X7_firstWrong
        rw [ag_nat hp (by decide), show 1 + 1 + 7 + 3 * p = 9 + 3 * p by omega]
        exact v1
      unfold X10_judge
      rw [bdk (isPart_t h1.1 h1.2), if_neg (by decide), bdk e]
    · show X11_judge ρ p = _
      unfold X11_judge
      rw [bdk (mPart_t h1.1 h1.2), if_pos (by decide)]
      exact v2
  · refine sim_tell (x := fun τ => X10_judge τ a) (y := fun ρ => X11_judge ρ a) (k := 0) (c := -1000001) h (by omega) ?_ ?_
    · show X10_judge τ a = _
      unfold X10_judge
      rw [bdk (isPart_f h1 ha), if_pos (by decide), bd2k (tell_0 τ)]
    · show X11_judge ρ a = _
      unfold X11_judge
      rw [bdk (mPart_f h1 ha), if_neg (by decide), bd2k (finds_0 ρ)]
theorem WF.hold {r : Nat → Int} (hw : WF r) {s : Nat} {v : Int} (hs : s < 10) (hv : -1 ≤ v ∧ v < r 665) : WF (up r (756 + s) v) := by
  obtain ⟨h1, h2, h3, h4, h5, h6⟩ := hw
  have e : ∀ j, j < 756 → up r (756 + s) v j = r j := fun j hj => up_ne (by omega)
  refine ⟨?_, fun q hq => ?_, fun q hq b hb => ?_, ?_, fun k hk => ?_, fun t ht => ?_⟩
  · rw [e _ (by omega), e _ (by omega), e _ (by omega), e _ (by omega), e _ (by omega)]; exact h1
  · rw [e _ (by omega), e _ (by omega), e _ (by omega), e _ (by omega), e _ (by omega)]; exact h2 q hq
  · have h40 := (h2 q hq).2.2.2.2
    rw [e _ (by omega)] at hb
    rw [e _ (by omega), e _ (by omega), e _ (by omega), e _ (by omega)]; exact h3 q hq b hb
  · rw [e _ (by omega)]; exact h4
  · rw [e _ (by omega)] at hk
    have := h5 k hk
    rw [e _ (by omega), e _ (by omega), e _ (by omega), e _ (by omega)]; exact this
  · rw [e 665 (by omega)]
    by_cases c : t = s
    · rw [c, up_at]; exact hv
    · rw [up_ne (by omega)]; exact h6 t ht
theorem sim_hold {a b : Int} (ha : inR a) (hb : inR b) : Sim (fun τ => X10_hold τ a b) (fun ρ => X11_hold ρ a b) := by
  intro τ ρ h
  have hn := h.1.num
  have e1 := c_hold (σ := τ) ha hb (by rw [h.2.1.numb]; exact hn)
  have e2 := m_hold (σ := ρ) ha hb hn
  rw [h.2.1.numb] at e1
  by_cases ok : okHold (ρ 112 665) a b
  · obtain ⟨o1, o2⟩ := id ok
    obtain ⟨s, rfl⟩ := Int.eq_ofNat_of_zero_le o1.1
    have hs : s < 10 := by omega
    have f1 := e1.1 ok
    have f2 := e2.1 ok
    rw [Int.toNat_natCast] at f1 f2
    have row : st ρ 112 (756 + s) b 112 = up (ρ 112) (756 + s) b := st_self _ _ _ _
    refine ⟨_, _, _, f1, f2, ?_, fun q hq => st_ne (by omega), fun q hq => st_ne (by omega)⟩
    exact h.row (by rw [row]; exact h.1.hold hs (by omega)) (by rw [row]; exact h.2.1.spot hs) (by rw [row]; exact h.2.2.2.2.2.2.r665 h.1 (fun j hj => up_ne (by omega)) (fun q _ _ => st_ne (by omega))) (fun q hq => st_ne (by omega)) (fun q _ hq => st_ne hq)
  · exact sim_tell (x := fun τ => X10_hold τ a b) (y := fun ρ => X11_hold ρ a b) (k := 0) h (by omega) (e1.2 ok) (e2.2 ok)
theorem sim_as {a b : Int} (ha : inR a) (hb : inR b) : Sim (fun τ => X10_as τ a b) (fun ρ => X11_as ρ a b) := by
  intro τ ρ h
  have hn := h.1.num
  have hsp : ∀ i, i < 10 → τ 8 i = ρ 112 (756 + i) := fun i hi => h.2.1.2.2.2.2.2.2 i hi
  have hk : ∀ k : Nat, (k : Int) < ρ 112 665 → τ 5 k = ρ 112 (666 + 3 * k) := fun k hk => h.2.1.2.2.2.2.2.1 k (by omega) hk 0 (by omega)
  have hk6 : ∀ k : Nat, (k : Int) < ρ 112 665 → 0 ≤ ρ 112 (666 + 3 * k) ∧ ρ 112 (666 + 3 * k) ≤ 6 := fun k hk => (h.1.2.2.2.2.1 k hk).1
  have e1 := c_as (σ := τ) ha hb (by rw [h.2.1.numb]; exact hn) (fun k hkk => by rw [h.2.1.numb] at hkk; rw [hk k hkk]; exact hk6 k hkk) (fun i hi => by rw [hsp i hi, h.2.1.numb]; exact h.1.2.2.2.2.2 i hi)
  have e2 := m_as (σ := ρ) ha hb hn hk6 (fun i hi => h.1.2.2.2.2.2 i hi)
  by_cases ok : (0 ≤ a ∧ a ≤ 9) ∧ 0 ≤ b ∧ b ≤ 6
  · have hs := h.1.2.2.2.2.2 a.toNat (by omega)
    rw [if_pos ok] at e1 e2
    rw [hsp a.toNat (by omega)] at e1
    by_cases c : 0 ≤ ρ 112 (756 + a.toNat)
    · rw [if_pos c] at e1 e2
      rw [hk _ (by omega)] at e1
      by_cases d : und (ρ 112 (666 + 3 * (ρ 112 (756 + a.toNat)).toNat)) b = 0
      · rw [if_pos d] at e1 e2
        exact sim_tell (x := fun τ => X10_as τ a b) (y := fun ρ => X11_as ρ a b) (k := 2) h (by omega) e1 e2
      · rw [if_neg d] at e1 e2
        exact sim_same (x := fun τ => X10_as τ a b) (y := fun ρ => X11_as ρ a b) h e1 e2
    · rw [if_neg c] at e1 e2
      exact sim_tell (x := fun τ => X10_as τ a b) (y := fun ρ => X11_as ρ a b) (k := 5) h (by omega) e1 e2
  · rw [if_neg ok] at e1 e2
    exact sim_tell (x := fun τ => X10_as τ a b) (y := fun ρ => X11_as ρ a b) (k := 0) h (by omega) e1 e2
theorem sim_lay {a b c : Int} (ha : inR a) (hb : inR b) (hc : inR c) : Sim (fun τ => X10_lay τ a b c) (fun ρ => X11_lay ρ a b c) := by
  intro τ ρ h
  have hn := h.1.num
  have e1 := c_lay (σ := τ) ha hb hc (h.1.h40 h.2.1) (by rw [h.2.1.numb]; exact hn)
  have e2 := m_lay (σ := ρ) ha hb hc h.1.m40 hn
  rw [h.2.1.numb] at e1
  by_cases ok : (0 ≤ a ∧ a ≤ 6) ∧ 0 ≤ b ∧ b ≤ 3 ∧ 0 ≤ c ∧ c < ρ 112 (9 + 165 * b.toNat)
  · rw [if_pos ok] at e2
    rw [if_pos (by rw [h.2.1.nbars (by omega)]; exact ok)] at e1
    by_cases h30 : ρ 112 665 < 30
    · rw [if_pos h30] at e1 e2
      obtain ⟨n, hN⟩ : ∃ n : Nat, ρ 112 665 = n := ⟨(ρ 112 665).toNat, by omega⟩
      have hn30 : n < 30 := by omega
      rw [hN, Int.toNat_natCast] at e1 e2
      obtain ⟨r, hr⟩ : ∃ r, r = ρ 112 := ⟨_, rfl⟩
      have row : st (st (st (st ρ 112 (666 + 3 * n) a) 112 (667 + 3 * n) b) 112 (668 + 3 * n) c) 112 665 ((n : Int) + 1) 112 = up (up (up (up r (666 + 3 * n) a) (667 + 3 * n) b) (668 + 3 * n) c) 665 ((n : Int) + 1) := by rw [st_self, st_self, st_self, st_self, hr]
      have lo : ∀ j, j < 665 → up (up (up (up r (666 + 3 * n) a) (667 + 3 * n) b) (668 + 3 * n) c) 665 ((n : Int) + 1) j = r j := fun j hj => by rw [up_ne (by omega), up_ne (by omega), up_ne (by omega), up_ne (by omega)]
      have nn : up (up (up (up r (666 + 3 * n) a) (667 + 3 * n) b) (668 + 3 * n) c) 665 ((n : Int) + 1) 665 = (n : Int) + 1 := up_at _ _ _
      have sp : ∀ s, s < 10 → up (up (up (up r (666 + 3 * n) a) (667 + 3 * n) b) (668 + 3 * n) c) 665 ((n : Int) + 1) (756 + s) = r (756 + s) := fun s hs => by rw [up_ne (by omega), up_ne (by omega), up_ne (by omega), up_ne (by omega)]
      have bk : ∀ k, k < n → ∀ q, q < 3 → up (up (up (up r (666 + 3 * n) a) (667 + 3 * n) b) (668 + 3 * n) c) 665 ((n : Int) + 1) (666 + 3 * k + q) = r (666 + 3 * k + q) := fun k hk q hq => by rw [up_ne (by omega), up_ne (by omega), up_ne (by omega), up_ne (by omega)]
      have b0 : up (up (up (up r (666 + 3 * n) a) (667 + 3 * n) b) (668 + 3 * n) c) 665 ((n : Int) + 1) (666 + 3 * n) = a := by rw [up_ne (by omega), up_ne (by omega), up_ne (by omega), up_at]
      have b1 : up (up (up (up r (666 + 3 * n) a) (667 + 3 * n) b) (668 + 3 * n) c) 665 ((n : Int) + 1) (667 + 3 * n) = b := by rw [up_ne (by omega), up_ne (by omega), up_at]
      have b2 : up (up (up (up r (666 + 3 * n) a) (667 + 3 * n) b) (668 + 3 * n) c) 665 ((n : Int) + 1) (668 + 3 * n) = c := by rw [up_ne (by omega), up_at]
      generalize up (up (up (up r (666 + 3 * n) a) (667 + 3 * n) b) (668 + 3 * n) c) 665 ((n : Int) + 1) = r2 at row lo nn sp bk b0 b1 b2
      have hwr : WF r := by rw [hr]; exact h.1
      have hcr : CRB 1 r τ := by rw [hr]; exact h.2.1
      rw [← hr] at hN ok
      have g : ∀ q, q ≠ 4 → q ≠ 5 → q ≠ 6 → q ≠ 7 → st (st (st (st τ 5 n a) 6 n b) 7 n c) 4 3 ((n : Int) + 1) q = τ q := fun q q1 q2 q3 q4 => by rw [st_ne q1, st_ne q4, st_ne q3, st_ne q2]
      have g4 : st (st (st (st τ 5 n a) 6 n b) 7 n c) 4 3 ((n : Int) + 1) 4 3 = (n : Int) + 1 := st_at _ _ _ _
      have g5 : st (st (st (st τ 5 n a) 6 n b) 7 n c) 4 3 ((n : Int) + 1) 5 = up (τ 5) n a := by rw [st_ne (by omega), st_ne (by omega), st_ne (by omega), st_self]
      have g6 : st (st (st (st τ 5 n a) 6 n b) 7 n c) 4 3 ((n : Int) + 1) 6 = up (τ 6) n b := by rw [st_ne (by omega), st_ne (by omega), st_self, st_ne (by omega)]
      have g7 : st (st (st (st τ 5 n a) 6 n b) 7 n c) 4 3 ((n : Int) + 1) 7 = up (τ 7) n c := by rw [st_ne (by omega), st_self, st_ne (by omega), st_ne (by omega)]
      have wf2 : WF r2 := by
        obtain ⟨w1, w2, w3, w4, w5, w6⟩ := hwr
        refine ⟨by rw [lo _ (by omega), lo _ (by omega), lo _ (by omega), lo _ (by omega), lo _ (by omega)]; exact w1, fun q hq => by rw [lo _ (by omega), lo _ (by omega), lo _ (by omega), lo _ (by omega), lo _ (by omega)]; exact w2 q hq, fun q hq j hj => ?_, by rw [nn]; omega, fun k hk => ?_, fun s hs => ?_⟩
        · have h40 := (w2 q hq).2.2.2.2
          rw [lo _ (by omega)] at hj
          rw [lo _ (by omega), lo _ (by omega), lo _ (by omega), lo _ (by omega)]; exact w3 q hq j hj
        · rw [nn] at hk
          by_cases hkn : k = n
          · rw [hkn, b0, b1, b2, lo _ (by omega)]
            exact ⟨ok.1, ⟨ok.2.1, ok.2.2.1⟩, ok.2.2.2⟩
          · have := w5 k (by omega)
            have q0 := bk k (by omega) 0 (by omega)
            have q1 := bk k (by omega) 1 (by omega)
            have q2 := bk k (by omega) 2 (by omega)
            rw [show 666 + 3 * k + 0 = 666 + 3 * k by omega] at q0
            rw [show 666 + 3 * k + 1 = 667 + 3 * k by omega] at q1
            rw [show 666 + 3 * k + 2 = 668 + 3 * k by omega] at q2
            rw [q0, q1, q2, lo _ (by omega)]
            exact this
        · have := w6 s hs
          rw [sp s hs, nn]
          omega
      have cr2 : CRB 1 r2 (st (st (st (st τ 5 n a) 6 n b) 7 n c) 4 3 ((n : Int) + 1)) := by
        obtain ⟨c1, c2, c3, c4, c5, c6, c7⟩ := hcr
        refine ⟨fun i hi => by rw [g _ (by omega) (by omega) (by omega) (by omega), lo _ (by omega)]; exact c1 i hi, fun p hp w hw => by rw [g _ (by omega) (by omega) (by omega) (by omega), lo _ (by omega)]; exact c2 p hp w hw, fun p hp => by rw [g _ (by omega) (by omega) (by omega) (by omega), lo _ (by omega)]; exact c3 p hp, fun p hp j j1 j2 => ?_, by rw [nn]; exact g4, fun k k1 k2 q hq => ?_, fun s hs => by rw [g _ (by omega) (by omega) (by omega) (by omega), sp s hs]; exact c7 s hs⟩
        · rw [lo _ (by omega)] at j2
          rw [g _ (by omega) (by omega) (by omega) (by omega), lo _ (by omega)]; exact c4 p hp j j1 j2
        · rw [nn] at k2
          by_cases hkn : k = n
          · rw [hkn]
            rcases (by omega : q = 0 ∨ q = 1 ∨ q = 2) with e | e | e
            · rw [e]; show st (st (st (st τ 5 n a) 6 n b) 7 n c) 4 3 ((n : Int) + 1) 5 n = r2 (666 + 3 * n); rw [g5, up_at, b0]
            · rw [e]; show st (st (st (st τ 5 n a) 6 n b) 7 n c) 4 3 ((n : Int) + 1) 6 n = r2 (666 + 3 * n + 1); rw [g6, up_at, show 666 + 3 * n + 1 = 667 + 3 * n by omega, b1]
            · rw [e]; show st (st (st (st τ 5 n a) 6 n b) 7 n c) 4 3 ((n : Int) + 1) 7 n = r2 (666 + 3 * n + 2); rw [g7, up_at, show 666 + 3 * n + 2 = 668 + 3 * n by omega, b2]
          · have := c6 k k1 (by omega) q hq
            rw [bk k (by omega) q hq, ← this]
            rcases (by omega : q = 0 ∨ q = 1 ∨ q = 2) with e | e | e
            · rw [e]; show st (st (st (st τ 5 n a) 6 n b) 7 n c) 4 3 ((n : Int) + 1) 5 k = τ 5 k; rw [g5, up_ne hkn]
            · rw [e]; show st (st (st (st τ 5 n a) 6 n b) 7 n c) 4 3 ((n : Int) + 1) 6 k = τ 6 k; rw [g6, up_ne hkn]
            · rw [e]; show st (st (st (st τ 5 n a) 6 n b) 7 n c) 4 3 ((n : Int) + 1) 7 k = τ 7 k; rw [g7, up_ne hkn]
      have ca : CA r τ := by rw [hr]; exact h.2.2.2.2.2.2
      refine ⟨_, _, _, e1, e2, h.row (by rw [row]; exact wf2) (by rw [row]; exact cr2) (by rw [row]; exact ca.r665 hwr lo (fun q _ _ => g q (by omega) (by omega) (by omega) (by omega))) (fun q hq => g q (by omega) (by omega) (by omega) (by omega)) (fun q _ hq => by rw [st_ne hq, st_ne hq, st_ne hq, st_ne hq]), fun q hq => g q (by omega) (by omega) (by omega) (by omega), fun q hq => by rw [st_ne (by omega), st_ne (by omega), st_ne (by omega), st_ne (by omega)]⟩
    · rw [if_neg h30] at e1 e2
      exact sim_tell (x := fun τ => X10_lay τ a b c) (y := fun ρ => X11_lay ρ a b c) (k := 1) h (by omega) e1 e2
  · rw [if_neg ok] at e2
    rw [if_neg (fun q => ok (by rw [← h.2.1.nbars (p := b.toNat) (by omega)]; exact q))] at e1
    exact sim_tell (x := fun τ => X10_lay τ a b c) (y := fun ρ => X11_lay ρ a b c) (k := 0) h (by omega) e1 e2
theorem sim_feed {a b : Int} (hb : inR b) : Sim (fun τ => X10_feed τ a b) (fun ρ => X11_feed ρ a b) := by
  intro τ ρ h
  obtain ⟨wf, cr, kp, tr, tl, sh, ca⟩ := id h
  have e1 := c_feed (σ := τ) (x := a) hb ⟨tr.1, tr.2.1⟩
  have e2 := m_feed (σ := ρ) (x := a) hb (by rw [tr.2.2.1]; exact ⟨tr.1, tr.2.1⟩)
  rw [tr.2.2.1] at e2
  by_cases ok : 1 ≤ b ∧ b ≤ 4
  · rw [if_pos ok] at e1 e2
    by_cases c : τ 42 1 + b ≤ 120
    · rw [if_pos c] at e1 e2
      have t1 : ∀ q, q ≠ 42 → q ≠ 43 → cfd τ a b.toNat q = τ q := fun q q1 q2 => cfd_ne ⟨q1, q2⟩ _ _
      have t2 : ∀ q, q ≠ 111 → q ≠ 115 → mfd ρ a b.toNat q = ρ q := fun q q1 q2 => mfd_ne ⟨q1, q2⟩ _ _
      refine ⟨_, _, _, e1, e2, ⟨by rw [t2 112 (by omega) (by omega)]; exact wf, by rw [t2 112 (by omega) (by omega)]; exact cr.frame (fun k _ _ => t1 k (by omega) (by omega)), kp.frame (by rw [t1 0 (by omega) (by omega)]) (fun q _ _ => t1 q (by omega) (by omega)) (mfd_o (by omega) _ _) (t2 113 (by omega) (by omega)), (TRn b.toNat τ ρ tr (by omega)).1, fun i hi => by rw [t1 62 (by omega) (by omega), t2 114 (by omega) (by omega)]; exact tl i hi, sh.frame (fun q _ _ => t1 q (by omega) (by omega)) (t2 134 (by omega) (by omega)) (t2 135 (by omega) (by omega)) (t2 136 (by omega) (by omega)), by rw [t2 112 (by omega) (by omega)]; exact ca.frame (fun q _ _ => t1 q (by omega) (by omega))⟩, fun q hq => t1 q (by omega) (by omega), fun q hq => t2 q (by omega) (by omega)⟩
    · rw [if_neg c] at e1 e2
      exact sim_tell (x := fun τ => X10_feed τ a b) (y := fun ρ => X11_feed ρ a b) (k := 1) h (by omega) e1 e2
  · rw [if_neg ok] at e1 e2
    exact sim_tell (x := fun τ => X10_feed τ a b) (y := fun ρ => X11_feed ρ a b) (k := 0) h (by omega) e1 e2
