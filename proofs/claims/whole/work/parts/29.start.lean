set_option maxHeartbeats 8000000 in
set_option maxRecDepth 20000 in
theorem st_exists {s : State} {args : Array Value} (hts : ∀ w ∈ lw_tbl, w.before args s = true) (hgv : (Jvm.Cond.and given_1 narrow_1).before args s = true) : ∃ G : GT, gh G = s.heap.size ∧ ST G s ∧ AOs s := by
  have hs := flat_of_before _ hgv
  have hA : ∀ a : Nat, a < s.heap.size → ¬ (fun q : Nat => s.heap.size ≤ q) a := fun a h => Nat.not_le.mpr h
  obtain ⟨c0, i0, k0⟩ := u_known (C := RX0) (T := TX0) (N := 5) (n := 5) hts inX0 (hts _ t_112)
  obtain ⟨c1, i1, k1⟩ := u_known (C := RX1) (T := TX1) (N := 8) (n := 8) hts inX1 (hts _ t_251)
  obtain ⟨c2, i2, k2⟩ := u_known (C := RX2) (T := TX2) (N := 13) (n := 13) hts inX2 (hts _ t_334)
  obtain ⟨c3, i3, k3⟩ := u_known (C := RX3) (T := TX3) (N := 3) (n := 3) hts inX3 (hts _ t_257)
  obtain ⟨c4, i4, k4⟩ := u_known (C := RX4) (T := TX4) (N := 3) (n := 3) hts inX4 (hts _ t_317)
  obtain ⟨c5, i5, k5⟩ := u_known (C := RX5) (T := TX5) (N := 3) (n := 3) hts inX5 (hts _ t_146)
  obtain ⟨c6, i6, k6⟩ := u_known (C := RX6) (T := TX6) (N := 3) (n := 3) hts inX6 (hts _ t_299)
  obtain ⟨c7, i7, k7⟩ := u_known (C := RX7) (T := TX7) (N := 3) (n := 3) hts inX7 (hts _ t_104)
  obtain ⟨c8, i8, k8⟩ := u_known (C := RX8) (T := TX8) (N := 6) (n := 6) hts inX8 (hts _ t_189)
  obtain ⟨c9, i9, k9⟩ := u_known (C := RX9) (T := TX9) (N := 8) (n := 8) hts inX9 (hts _ t_183)
  obtain ⟨c10, i10, k10⟩ := u_known (C := RX10) (T := TX10) (N := 9) (n := 9) hts inX10 (hts _ t_96)
  obtain ⟨c11, i11, k11⟩ := u_known (C := RX11) (T := TX11) (N := 37) (n := 37) hts inX11 (hts _ t_1079)
  obtain ⟨a12, ka12, co12, p12, q12, r12⟩ := Cond.arrayClass_spec (hts _ t_214)
  obtain ⟨a13, ka13, co13, p13, q13, r13⟩ := Cond.arrayClass_spec (hts _ t_145)
  obtain ⟨a14, ka14, co14, p14, q14, r14⟩ := Cond.arrayClass_spec (hts _ t_298)
  obtain ⟨a15, ka15, co15, p15, q15, r15⟩ := Cond.arrayClass_spec (hts _ t_1199)
  obtain ⟨co16, a16, ka16, o16, -, q16, r16, p16⟩ := Cond.arrayOver_spec (hts _ t_249)
  obtain ⟨co17, a17, ka17, o17, -, q17, r17, p17⟩ := Cond.arrayOver_spec (hts _ t_247)
  obtain ⟨co18, a18, ka18, o18, -, q18, r18, p18⟩ := Cond.arrayOver_spec (hts _ t_110)
  obtain ⟨co19, a19, ka19, o19, -, q19, r19, p19⟩ := Cond.arrayOver_spec (hts _ t_245)
  obtain ⟨t0, e0, T0⟩ := va_Tof (args := args) (s := s) (A := fun q : Nat => s.heap.size ≤ q) (tm := (.static "PageTurns" "TRAIT_LEAST" "[I")) (ty := .int) (N := 4) (f := fun j => .int (i32 ((sV.getD 0 []).getD j 0))) (by decide) (hs (Cond.arrayOf (.static "PageTurns" "TRAIT_LEAST" "[I") .int) (by decide +kernel)) (va_eqt (hs (Cond.eq (.length (.static "PageTurns" "TRAIT_LEAST" "[I")) (.int (Int32.ofNat 4))) (by decide +kernel))) (fun j hj => va_eqt (hs (Cond.eq (.elem (.static "PageTurns" "TRAIT_LEAST" "[I") (.int (Int32.ofNat j))) (.int (i32 ((sV.getD 0 []).getD j 0)))) ((by decide +kernel : ∀ j, j < 4 → Cond.eq (.elem (.static "PageTurns" "TRAIT_LEAST" "[I") (.int (Int32.ofNat j))) (.int (i32 ((sV.getD 0 []).getD j 0))) ∈ flatC (Jvm.Cond.and given_1 narrow_1)) j hj))) hA
  have z0 := va_Zref (A := fun q : Nat => s.heap.size ≤ q) (hts _ (List.mem_of_getElem? (i := 427) (by decide +kernel)) : (Cond.laysStatic "PageTurns" "TRAIT_LEAST" "[I").before args s = true) (hts (Cond.initialized "PageTurns") (List.mem_of_getElem? (i := 75) (by decide +kernel))) e0 hA
  obtain ⟨t1, e1, T1⟩ := va_Tof (args := args) (s := s) (A := fun q : Nat => s.heap.size ≤ q) (tm := (.static "PageTurns" "TRAIT_MOST" "[I")) (ty := .int) (N := 4) (f := fun j => .int (i32 ((sV.getD 1 []).getD j 0))) (by decide) (hs (Cond.arrayOf (.static "PageTurns" "TRAIT_MOST" "[I") .int) (by decide +kernel)) (va_eqt (hs (Cond.eq (.length (.static "PageTurns" "TRAIT_MOST" "[I")) (.int (Int32.ofNat 4))) (by decide +kernel))) (fun j hj => va_eqt (hs (Cond.eq (.elem (.static "PageTurns" "TRAIT_MOST" "[I") (.int (Int32.ofNat j))) (.int (i32 ((sV.getD 1 []).getD j 0)))) ((by decide +kernel : ∀ j, j < 4 → Cond.eq (.elem (.static "PageTurns" "TRAIT_MOST" "[I") (.int (Int32.ofNat j))) (.int (i32 ((sV.getD 1 []).getD j 0))) ∈ flatC (Jvm.Cond.and given_1 narrow_1)) j hj))) hA
  have z1 := va_Zref (A := fun q : Nat => s.heap.size ≤ q) (hts _ (List.mem_of_getElem? (i := 429) (by decide +kernel)) : (Cond.laysStatic "PageTurns" "TRAIT_MOST" "[I").before args s = true) (hts (Cond.initialized "PageTurns") (List.mem_of_getElem? (i := 75) (by decide +kernel))) e1 hA
  obtain ⟨t2, e2, T2⟩ := va_Tof (args := args) (s := s) (A := fun q : Nat => s.heap.size ≤ q) (tm := (.static "PageTurns" "RULE_LEAST" "[I")) (ty := .int) (N := 5) (f := fun j => .int (i32 ((sV.getD 2 []).getD j 0))) (by decide) (hs (Cond.arrayOf (.static "PageTurns" "RULE_LEAST" "[I") .int) (by decide +kernel)) (va_eqt (hs (Cond.eq (.length (.static "PageTurns" "RULE_LEAST" "[I")) (.int (Int32.ofNat 5))) (by decide +kernel))) (fun j hj => va_eqt (hs (Cond.eq (.elem (.static "PageTurns" "RULE_LEAST" "[I") (.int (Int32.ofNat j))) (.int (i32 ((sV.getD 2 []).getD j 0)))) ((by decide +kernel : ∀ j, j < 5 → Cond.eq (.elem (.static "PageTurns" "RULE_LEAST" "[I") (.int (Int32.ofNat j))) (.int (i32 ((sV.getD 2 []).getD j 0))) ∈ flatC (Jvm.Cond.and given_1 narrow_1)) j hj))) hA
  have z2 := va_Zref (A := fun q : Nat => s.heap.size ≤ q) (hts _ (List.mem_of_getElem? (i := 444) (by decide +kernel)) : (Cond.laysStatic "PageTurns" "RULE_LEAST" "[I").before args s = true) (hts (Cond.initialized "PageTurns") (List.mem_of_getElem? (i := 75) (by decide +kernel))) e2 hA
  obtain ⟨t3, e3, T3⟩ := va_Tof (args := args) (s := s) (A := fun q : Nat => s.heap.size ≤ q) (tm := (.static "PageTurns" "RULE_MOST" "[I")) (ty := .int) (N := 5) (f := fun j => .int (i32 ((sV.getD 3 []).getD j 0))) (by decide) (hs (Cond.arrayOf (.static "PageTurns" "RULE_MOST" "[I") .int) (by decide +kernel)) (va_eqt (hs (Cond.eq (.length (.static "PageTurns" "RULE_MOST" "[I")) (.int (Int32.ofNat 5))) (by decide +kernel))) (fun j hj => va_eqt (hs (Cond.eq (.elem (.static "PageTurns" "RULE_MOST" "[I") (.int (Int32.ofNat j))) (.int (i32 ((sV.getD 3 []).getD j 0)))) ((by decide +kernel : ∀ j, j < 5 → Cond.eq (.elem (.static "PageTurns" "RULE_MOST" "[I") (.int (Int32.ofNat j))) (.int (i32 ((sV.getD 3 []).getD j 0))) ∈ flatC (Jvm.Cond.and given_1 narrow_1)) j hj))) hA
  have z3 := va_Zref (A := fun q : Nat => s.heap.size ≤ q) (hts _ (List.mem_of_getElem? (i := 446) (by decide +kernel)) : (Cond.laysStatic "PageTurns" "RULE_MOST" "[I").before args s = true) (hts (Cond.initialized "PageTurns") (List.mem_of_getElem? (i := 75) (by decide +kernel))) e3 hA
  obtain ⟨t4, e4, T4⟩ := va_Tof (args := args) (s := s) (A := fun q : Nat => s.heap.size ≤ q) (tm := (.static "PageTurns" "KIND_ABOVE" "[I")) (ty := .int) (N := 7) (f := fun j => .int (i32 ((sV.getD 4 []).getD j 0))) (by decide) (hs (Cond.arrayOf (.static "PageTurns" "KIND_ABOVE" "[I") .int) (by decide +kernel)) (va_eqt (hs (Cond.eq (.length (.static "PageTurns" "KIND_ABOVE" "[I")) (.int (Int32.ofNat 7))) (by decide +kernel))) (fun j hj => va_eqt (hs (Cond.eq (.elem (.static "PageTurns" "KIND_ABOVE" "[I") (.int (Int32.ofNat j))) (.int (i32 ((sV.getD 4 []).getD j 0)))) ((by decide +kernel : ∀ j, j < 7 → Cond.eq (.elem (.static "PageTurns" "KIND_ABOVE" "[I") (.int (Int32.ofNat j))) (.int (i32 ((sV.getD 4 []).getD j 0))) ∈ flatC (Jvm.Cond.and given_1 narrow_1)) j hj))) hA
  have z4 := va_Zref (A := fun q : Nat => s.heap.size ≤ q) (hts _ (List.mem_of_getElem? (i := 992) (by decide +kernel)) : (Cond.laysStatic "PageTurns" "KIND_ABOVE" "[I").before args s = true) (hts (Cond.initialized "PageTurns") (List.mem_of_getElem? (i := 75) (by decide +kernel))) e4 hA
  have zc := va_Zof (A := fun q : Nat => s.heap.size ≤ q) (hts _ (List.mem_of_getElem? (i := 519) (by decide +kernel)) : (Cond.laysStatic "java/lang/String" "COMPACT_STRINGS" "Z").before args s = true) (hts (Cond.initialized "java/lang/String") (List.mem_of_getElem? (i := 88) (by decide +kernel))) (va_eqi (hs (Cond.eq (.static "java/lang/String" "COMPACT_STRINGS" "Z") (.int 1)) (by decide +kernel))) hA
  have zq := va_Zqof (A := fun q : Nat => s.heap.size ≤ q) (hts _ (List.mem_of_getElem? (i := 535) (by decide +kernel)) : (Cond.laysStatic "jdk/internal/util/Preconditions" "SIOOBE_FORMATTER" "Ljava/util/function/BiFunction;").before args s = true) (hts (Cond.initialized "jdk/internal/util/Preconditions") (List.mem_of_getElem? (i := 90) (by decide +kernel))) (hs (Cond.isRef (.static "jdk/internal/util/Preconditions" "SIOOBE_FORMATTER" "Ljava/util/function/BiFunction;")) (by decide +kernel)) hA
  obtain ⟨adK, adV, hvS, hvE⟩ := vk_Sof (args := args) (s := s) (A := fun q : Nat => s.heap.size ≤ q) (N := 7) (tm := fun i => .string "PageTurns$Tape" (sK.getD i 0)) (len := sLen) (byt := sByt) (by decide) (fun i hi => hs _ ((by decide +kernel : ∀ i, i < 7 → Cond.exactly (.string "PageTurns$Tape" (sK.getD i 0)) "java/lang/String" ∈ flatC (Jvm.Cond.and given_1 narrow_1)) i hi)) (fun i hi => hs _ ((by decide +kernel : ∀ i, i < 7 → Cond.eq (.field (.string "PageTurns$Tape" (sK.getD i 0)) "java/lang/String" "coder" "B") (.int 0) ∈ flatC (Jvm.Cond.and given_1 narrow_1)) i hi)) (fun i hi => hs _ ((by decide +kernel : ∀ i, i < 7 → Cond.arrayOf (.field (.string "PageTurns$Tape" (sK.getD i 0)) "java/lang/String" "value" "[B") .byte ∈ flatC (Jvm.Cond.and given_1 narrow_1)) i hi)) (fun i hi => hs _ ((by decide +kernel : ∀ i, i < 7 → Cond.eq (.length (.field (.string "PageTurns$Tape" (sK.getD i 0)) "java/lang/String" "value" "[B")) (.int (Int32.ofNat (sLen.getD i 0))) ∈ flatC (Jvm.Cond.and given_1 narrow_1)) i hi)) (fun i hi j hj => hs _ ((by decide +kernel : ∀ i, i < 7 → ∀ j, j < sLen.getD i 0 → Cond.eq (.elem (.field (.string "PageTurns$Tape" (sK.getD i 0)) "java/lang/String" "value" "[B") (.int (Int32.ofNat j))) (.int ((sByt.getD i []).getD j 0)) ∈ flatC (Jvm.Cond.and given_1 narrow_1)) i hi j hj)) (fun i j hi hj hij => by
      rcases (by decide +kernel : ∀ i, i < 7 → ∀ j, j < 7 → i ≠ j → Cond.not (Cond.eq (.string "PageTurns$Tape" (sK.getD i 0)) (.string "PageTurns$Tape" (sK.getD j 0))) ∈ flatC (Jvm.Cond.and given_1 narrow_1) ∨ Cond.not (Cond.eq (.string "PageTurns$Tape" (sK.getD j 0)) (.string "PageTurns$Tape" (sK.getD i 0))) ∈ flatC (Jvm.Cond.and given_1 narrow_1)) i hi j hj hij with h | h
      · exact Or.inl (hs _ h)
      · exact Or.inr (hs _ h)) hA
  let dC : Nat → ClassId := fun k => if k = 0 then c0 else if k = 1 then c1 else if k = 2 then c2 else if k = 3 then c3 else if k = 4 then c4 else if k = 5 then c5 else if k = 6 then c6 else if k = 7 then c7 else if k = 8 then c8 else if k = 9 then c9 else if k = 10 then c10 else c11
  let dI : Nat → Nat → Nat := fun k => if k = 0 then i0 else if k = 1 then i1 else if k = 2 then i2 else if k = 3 then i3 else if k = 4 then i4 else if k = 5 then i5 else if k = 6 then i6 else if k = 7 then i7 else if k = 8 then i8 else if k = 9 then i9 else if k = 10 then i10 else i11
  let cy : Nat → ClassId := fun k => if k = 12 then a12 else if k = 13 then a13 else if k = 14 then a14 else if k = 15 then a15 else if k = 16 then a16 else if k = 17 then a17 else if k = 18 then a18 else a19
  let ta : Nat → Nat := fun k => if k = 0 then t0 else if k = 1 then t1 else if k = 2 then t2 else if k = 3 then t3 else if k = 4 then t4 else if k < 20 then adK (k - 10) else adV (k - 20)
  refine ⟨((dC, dI), cy, s.heap.size, ta), rfl, ⟨⟨?_, ?_⟩, ?_, ?_, zc, ?_, ?_, zq⟩, ⟨va_AO.of (hts _ t_110), va_AO.of (hts _ t_245), va_AO.of (hts _ t_247), va_AO.of (hts _ t_249)⟩⟩
  · intro k q hq
    match k, hq with
    | 0, hq => cases hq; exact k0
    | 1, hq => cases hq; exact k1
    | 2, hq => cases hq; exact k2
    | 3, hq => cases hq; exact k3
    | 4, hq => cases hq; exact k4
    | 5, hq => cases hq; exact k5
    | 6, hq => cases hq; exact k6
    | 7, hq => cases hq; exact k7
    | 8, hq => cases hq; exact k8
    | 9, hq => cases hq; exact k9
    | 10, hq => cases hq; exact k10
    | 11, hq => cases hq; exact k11
    | k + 12, hq => simp [vwCl] at hq
  · intro k q hq
    match k, hq with
    | 0, hq => cases hq; exact ⟨fun n z => ⟨fun k h => (by cases h), ka12, q12, co12, r12⟩, p12⟩
    | 1, hq => cases hq; exact ⟨fun n z => ⟨fun k h => (by cases h), ka13, q13, co13, r13⟩, p13⟩
    | 2, hq => cases hq; exact ⟨fun n z => ⟨fun k h => (by cases h), ka14, q14, co14, r14⟩, p14⟩
    | 3, hq => cases hq; exact ⟨fun n z => ⟨fun k h => (by cases h), ka15, q15, co15, r15⟩, p15⟩
    | 4, hq => cases hq; exact ⟨fun n z => ⟨fun k h => (by cases h), ka16, q16, co16, r16⟩, ka16, co16, q16, r16, o16, p16⟩
    | 5, hq => cases hq; exact ⟨fun n z => ⟨fun k h => (by cases h), ka17, q17, co17, r17⟩, ka17, co17, q17, r17, o17, p17⟩
    | 6, hq => cases hq; exact ⟨fun n z => ⟨fun k h => (by cases h), ka18, q18, co18, r18⟩, ka18, co18, q18, r18, o18, p18⟩
    | 7, hq => cases hq; exact ⟨fun n z => ⟨fun k h => (by cases h), ka19, q19, co19, r19⟩, ka19, co19, q19, r19, o19, p19⟩
    | k + 8, hq => simp [gY] at hq
  · intro w hw
    simp only [NWl, List.mem_cons, List.not_mem_nil, or_false] at hw
    rcases hw with rfl | rfl | rfl | rfl | rfl | rfl | rfl | rfl | rfl | rfl | rfl
    · exact va_Nw.of rfl (hts _ t_147)
    · exact va_Nw.of rfl (hts _ t_184)
    · exact va_Nw.of rfl (hts _ t_190)
    · exact va_Nw.of rfl (hts _ t_252)
    · exact va_Nw.of rfl (hts _ t_258)
    · exact va_Nw.of rfl (hts _ t_300)
    · exact va_Nw.of rfl (hts _ t_318)
    · exact va_Nw.of rfl (hts _ t_335)
    · exact va_Nw.of rfl (hts _ t_591)
    · exact va_Nw.of rfl (hts _ t_784)
    · exact va_Nw.of rfl (hts _ t_991)
  · intro i hi
    match i, hi with
    | 0, _ => exact ⟨z0, T0⟩
    | 1, _ => exact ⟨z1, T1⟩
    | 2, _ => exact ⟨z2, T2⟩
    | 3, _ => exact ⟨z3, T3⟩
    | 4, _ => exact ⟨z4, T4⟩
    | i + 5, hi => omega
  · intro i hi
    have e1 : ta (10 + i) = adK i := by
      show (if 10 + i = 0 then t0 else if 10 + i = 1 then t1 else if 10 + i = 2 then t2 else if 10 + i = 3 then t3 else if 10 + i = 4 then t4 else if 10 + i < 20 then adK (10 + i - 10) else adV (10 + i - 20)) = adK i
      rw [if_neg (by omega), if_neg (by omega), if_neg (by omega), if_neg (by omega), if_neg (by omega), if_pos (by omega), show 10 + i - 10 = i by omega]
    show vk_R "PageTurns$Tape" (sK.getD i 0) (sX.getD i "") (ta (10 + i)) s
    rw [e1]
    have hE := hvE i hi
    match i, hi, hE with
    | 0, _, hE => exact vk_R.of (hts _ (List.mem_of_getElem? (i := 505) (by decide +kernel))) hE
    | 1, _, hE => exact vk_R.of (hts _ (List.mem_of_getElem? (i := 558) (by decide +kernel))) hE
    | 2, _, hE => exact vk_R.of (hts _ (List.mem_of_getElem? (i := 559) (by decide +kernel))) hE
    | 3, _, hE => exact vk_R.of (hts _ (List.mem_of_getElem? (i := 560) (by decide +kernel))) hE
    | 4, _, hE => exact vk_R.of (hts _ (List.mem_of_getElem? (i := 561) (by decide +kernel))) hE
    | 5, _, hE => exact vk_R.of (hts _ (List.mem_of_getElem? (i := 562) (by decide +kernel))) hE
    | 6, _, hE => exact vk_R.of (hts _ (List.mem_of_getElem? (i := 563) (by decide +kernel))) hE
    | i + 7, hi, _ => omega
  · have e1 : ∀ i, i < 7 → ta (10 + i) = adK i := by
      intro i hi
      show (if 10 + i = 0 then t0 else if 10 + i = 1 then t1 else if 10 + i = 2 then t2 else if 10 + i = 3 then t3 else if 10 + i = 4 then t4 else if 10 + i < 20 then adK (10 + i - 10) else adV (10 + i - 20)) = adK i
      rw [if_neg (by omega), if_neg (by omega), if_neg (by omega), if_neg (by omega), if_neg (by omega), if_pos (by omega), show 10 + i - 10 = i by omega]
    have e2 : ∀ i, i < 7 → ta (20 + i) = adV i := by
      intro i hi
      show (if 20 + i = 0 then t0 else if 20 + i = 1 then t1 else if 20 + i = 2 then t2 else if 20 + i = 3 then t3 else if 20 + i = 4 then t4 else if 20 + i < 20 then adK (20 + i - 10) else adV (20 + i - 20)) = adV i
      rw [if_neg (by omega), if_neg (by omega), if_neg (by omega), if_neg (by omega), if_neg (by omega), if_neg (by omega), show 20 + i - 20 = i by omega]
    refine ⟨fun i hi => ?_, fun i j hi hj h => ?_⟩
    · have := hvS.1 i hi
      show va_O "java/lang/String" (ta (10 + i)) _ s s.heap ∧ va_OF "java/lang/String" "coder" "B" (.int 0) (ta (10 + i)) _ s s.heap ∧ va_OF "java/lang/String" "value" "[B" (.ref (ta (20 + i))) (ta (10 + i)) _ s s.heap ∧ va_T .byte (ta (20 + i)) _ _ _ s s.heap
      rw [e1 i hi, e2 i hi]
      exact this
    · have h2 : ta (10 + i) = ta (10 + j) := h
      rw [e1 i hi, e1 j hj] at h2
      exact hvS.2 i j hi hj h2
set_option maxHeartbeats 8000000 in
set_option maxRecDepth 20000 in
theorem whole_open {Inv : Mem → Prop} (OK : StepsOk Inv) {p : Program} {e : Env} {s : State} {m : MethodId} {below : List Frame} {meth : Method} {c : Code} (l : Launch) {b L : Nat} {xs : Nat → Int32} (hL : L ≤ 384) (C0 : lw_At p s m meth c b L xs) : W p l e room_1 s m #[Value.ref b] below meth c s.heap [] 0 0 (lw_Z below #[Value.ref b] s) (entryFrame m ([Value.ref b] : List Value).toArray 4) := by
  obtain ⟨hx, hb, hr, hml, hown, hts, hX, hbl, hlocks, hgv⟩ := id C0
  obtain ⟨G, hgh, hG, hO⟩ := st_exists hts hgv
  have X : CX p room_1 s m #[Value.ref b] meth c code 4 RL ret 2048 84000 G := ⟨hx, hb, hml, hown, fun w hw => hts w (List.mem_filter.mp hw).1, hlocks, hr, ⟨Nat.le_refl _, Nat.le_refl _⟩, hG⟩
  have hS : va_S (AA G) s.heap s.heap [] := va_S.rf
  have hP : PWc G 0 (cE G z0) s.heap := ⟨by rw [hgh]; rfl, fun k q h => by simp [wsc] at h⟩
  have hl := lv_entry ([.ref b]) (n := 4) (Nat.le_of_ble_eq_true rfl)
  rw [lg_entry_eq]
  generalize (lg_sl ([.ref b]) ++ List.replicate (4 - (lg_sl ([.ref b])).length) Slot.unset).toArray = ls at hl ⊢
  have hl : lv_has ls 4 [(0, .ref b)] := hl
  refine q_new (C := RX10) (T := TX10) (N := 9) (ci := 10) (fs := [.null, .null, .int 0, .null, .null, .null, .null, .null, .null]) X hP hS rfl (inTB inX10) tyX10 tyX10_ok (tb t_95 rfl) (tb t_96 rfl) (tb t_75 rfl) (by intro j hj; revert j; decide) (Nat.le_of_ble_eq_true rfl) (Nat.le_of_ble_eq_true rfl) dL_law_0 (fun H hP hS => ?_)
  refine lv_dup X.1 X.2.1 dL_law_3 rfl ?_
  refine q_callI X hP hS hO hl.1 (ct_10_0 (f := upE _ 0 _) (by simp [upE])) (tb t_97 rfl) (tb t_98 rfl) (tb t_75 rfl) (tb t_99 rfl) rfl (by decide +kernel) ⟨Nat.le_of_ble_eq_true rfl, Nat.le_of_ble_eq_true rfl⟩ ⟨Nat.le_of_ble_eq_true rfl, Nat.le_of_ble_eq_true rfl⟩ (Nat.le_of_ble_eq_true rfl) dL_law_4 (fun H locs hP hS => ?_)
  have hP : PWc G 111 (cE G z0) H := hP.congr (fun k hk => Or.inl (by simp [mw, List.lookup]))
  refine lv_astore_n (lv' := [(1, .ref (gh G + 0)), (0, .ref b)]) X.1 X.2.1 dL_law_7 rfl hl (by decide) rfl (fun ls hl => ?_)
  refine q_new (C := RX11) (T := TX11) (N := 37) (ci := 11) (fs := [.null, .null, .int 0, .null, .null, .int 0, .int 0, .int 0, .int 0, .int 0, .int 0, .int 0, .null, .int 0, .null, .null, .null, .null, .null, .null, .null, .null, .null, .int 0, .int 0, .int 0, .null, .null, .null, .null, .null, .null, .null, .null, .null, .null, .null]) X hP hS rfl (inTB inX11) tyX11 tyX11_ok (tb t_1078 rfl) (tb t_1079 rfl) (tb t_87 rfl) (by intro j hj; revert j; decide) (Nat.le_of_ble_eq_true rfl) (Nat.le_of_ble_eq_true rfl) dL_law_8 (fun H hP hS => ?_)
  refine lv_dup X.1 X.2.1 dL_law_11 rfl ?_
  refine q_callI X hP hS hO hl.1 (ct_11_111 (f := upE _ 111 _) (by simp [upE])) (tb t_1080 rfl) (tb t_1081 rfl) (tb t_87 rfl) (tb t_1082 rfl) rfl (by decide +kernel) ⟨Nat.le_of_ble_eq_true rfl, Nat.le_of_ble_eq_true rfl⟩ ⟨Nat.le_of_ble_eq_true rfl, Nat.le_of_ble_eq_true rfl⟩ (Nat.le_of_ble_eq_true rfl) dL_law_12 (fun H locs hP hS => ?_)
  have hP : PWc G 137 (cE G z0) H := hP.congr (fun k hk => Or.inl (by by_cases h : k < 111 <;> simp [mw, List.lookup, upE, h] <;> omega))
  have hP : PW G z0 H := hP.2
  refine lv_astore_n (lv' := [(2, .ref (gh G + 111)), (1, .ref (gh G + 0)), (0, .ref b)]) X.1 X.2.1 dL_law_15 rfl hl (by decide) rfl (fun ls hl => ?_)
  refine lv_iconst (v := i32 0) X.1 X.2.1 dL_law_16 rfl ?_
  refine lv_istore_n (lv' := [(3, .int (i32 0)), (2, .ref (gh G + 111)), (1, .ref (gh G + 0)), (0, .ref b)]) X.1 X.2.1 dL_law_17 rfl hl (by decide) rfl (fun ls hl => ?_)
  exact law_loop X hX hbl hgh hL OK 65 0 z0 _ _ ls (by omega) (by omega) hP OK.1 hS (lv_sub hl [0, 3, 2, 1] rfl)
