set_option maxHeartbeats 8000000 in
set_option maxRecDepth 20000 in
theorem law_loop {p : Program} {l : Launch} {e : Env} {s : State} {m : MethodId} {below : List Frame} {meth : Method} {c : Code} {G : GT} {b L : Nat} {xs : Nat → Int32} {Inv : Mem → Prop} (X : CX p room_1 s m #[Value.ref b] meth c code 4 RL ret 2048 84000 G) (hX : va_X b L xs s s.heap) (hbl : b < s.heap.size) (hgh : gh G = s.heap.size) (hL : L ≤ 384) (OK : StepsOk Inv) : ∀ (n t : Nat) (σ : Mem) (H : Heap) (locs : List Loc) (ls : Array Slot), L < 6 * t + 6 * n → 6 * t ≤ L → PW G σ H → Inv σ → va_S (AA G) s.heap H locs → lv_has ls 4 [(3, .int (i32 ((6 * t : Nat) : Int))), (0, .ref b), (1, .ref (gh G + 0)), (2, .ref (gh G + 111))] → W p l e room_1 s m #[Value.ref b] below meth c H locs 137 33782 (lw_Z below #[Value.ref b] s) (F0 m 18 ls []) := by
  intro n
  induction n with
  | zero => intro t σ H locs ls hn; omega
  | succ n ih =>
    intro t σ H locs ls hn htL hP hI hS hl
    have hw1 : w32 ((6 * t : Nat) : Int) = ((6 * t : Nat) : Int) := w32_id (by omega) (by omega)
    have hw2 : w32 ((L : Int) - 6) = (L : Int) - 6 := w32_id (by omega) (by omega)
    refine lv_iload_n X.1 X.2.1 dL_law_18 rfl (lv_at hl 0 rfl) ?_
    refine lv_aload_n X.1 X.2.1 dL_law_19 rfl (lv_at hl 1 rfl) ?_
    refine va_slen (A := AA G) X.1 X.2.1 hX hbl (by show ¬ gh G ≤ b; omega) hS dL_law_20 ?_
    refine lv_bipush (v := i32 6) X.1 X.2.1 dL_law_21 (by decide) ?_
    refine lv_isub X.1 X.2.1 dL_law_23 ?_
    refine lv_eqv (y := i32 ((L : Int) - 6)) (by rw [i32_ofNat, i32_sub]) ?_
    refine lv_icmp_gt (tgt := 1460) X.1 X.2.1 dL_law_24 (by decide) (fun q => ?_) (fun q => ?_)
    · refine lv_iconst (v := 1) X.1 X.2.1 dL_law_1460 rfl ?_
      refine va_forget (fun q hq => by have := hS.2.2 q hq; show s.heap.size ≤ q.base; rw [← hgh]; exact this) ?_
      refine W.widen (k := 600000) (n := 7302250) (Nat.le_of_ble_eq_true rfl) (Nat.le_of_ble_eq_true rfl) ?_
      exact lw_ret X.1 X.2.1 X.2.2.2.2.2.2.1 X.2.2.2.2.2.1 dL_law_1461
    · have ht : 6 * t + 6 ≤ L := by
        have h2 : ¬ w32 ((L : Int) - 6) < w32 ((6 * t : Nat) : Int) := fun h => q (i32_lt.mpr h)
        rw [hw1, hw2] at h2
        omega
      refine lv_aload_n X.1 X.2.1 dL_law_27 rfl (lv_at hl 1 rfl) ?_
      refine lv_iload_n X.1 X.2.1 dL_law_28 rfl (lv_at hl 0 rfl) ?_
      refine l_ld (j := 6 * t) X hX hbl hgh hS rfl (by omega) hL dL_law_29 ?_
      refine lv_bipush (v := i32 63) X.1 X.2.1 dL_law_30 (by decide) ?_
      refine lv_iand X.1 X.2.1 dL_law_32 ?_
      refine lv_eqv (i32_and _ _) ?_
      have hst := OK.2 σ hI
      have next : ∀ (σ : Mem) (H : Heap) (locs : List Loc) (ls : Array Slot), PW G σ H → Inv σ → va_S (AA G) s.heap H locs → lv_has ls 4 [(3, .int (i32 ((6 * (t + 1) : Nat) : Int))), (0, .ref b), (1, .ref (gh G + 0)), (2, .ref (gh G + 111))] → W p l e room_1 s m #[Value.ref b] below meth c H locs 137 33782 (lw_Z below #[Value.ref b] s) (F0 m 18 ls []) := fun σ H locs ls hP hI hS hl => ih (t + 1) σ H locs ls (by omega) ht hP hI hS hl
      generalize ian (ax xs (6 * t)) 63 = x
      by_cases q0 : w32 x = 0
      · exact lv_tableIn (tgt := 200) (off := 167) X.1 X.2.1 dL_law_33 (by rw [i32_toInt, q0]; decide) (by rw [i32_toInt, q0]; decide) (by rw [i32_toInt, q0]; rfl) (by decide) (law_case_0 X hX hbl hgh hL ht next hP hst.1 hS hl)
      by_cases q1 : w32 x = 1
      · exact lv_tableIn (tgt := 243) (off := 210) X.1 X.2.1 dL_law_33 (by rw [i32_toInt, q1]; decide) (by rw [i32_toInt, q1]; decide) (by rw [i32_toInt, q1]; rfl) (by decide) (law_case_1 X hX hbl hgh hL ht next hP hst.2.1 hS hl)
      by_cases q2 : w32 x = 2
      · exact lv_tableIn (tgt := 276) (off := 243) X.1 X.2.1 dL_law_33 (by rw [i32_toInt, q2]; decide) (by rw [i32_toInt, q2]; decide) (by rw [i32_toInt, q2]; rfl) (by decide) (law_case_2 X hX hbl hgh hL ht next hP hst.2.2.1 hS hl)
      by_cases q3 : w32 x = 3
      · exact lv_tableIn (tgt := 309) (off := 276) X.1 X.2.1 dL_law_33 (by rw [i32_toInt, q3]; decide) (by rw [i32_toInt, q3]; decide) (by rw [i32_toInt, q3]; rfl) (by decide) (law_case_3 X hX hbl hgh hL ht next hP hst.2.2.2.1 hS hl)
      by_cases q4 : w32 x = 4
      · exact lv_tableIn (tgt := 322) (off := 289) X.1 X.2.1 dL_law_33 (by rw [i32_toInt, q4]; decide) (by rw [i32_toInt, q4]; decide) (by rw [i32_toInt, q4]; rfl) (by decide) (law_case_4 X hX hbl hgh hL ht next hP hst.2.2.2.2.1 hS hl)
      by_cases q5 : w32 x = 5
      · exact lv_tableIn (tgt := 345) (off := 312) X.1 X.2.1 dL_law_33 (by rw [i32_toInt, q5]; decide) (by rw [i32_toInt, q5]; decide) (by rw [i32_toInt, q5]; rfl) (by decide) (law_case_5 X hX hbl hgh hL ht next hP hst.2.2.2.2.2.1 hS hl)
      by_cases q6 : w32 x = 6
      · exact lv_tableIn (tgt := 388) (off := 355) X.1 X.2.1 dL_law_33 (by rw [i32_toInt, q6]; decide) (by rw [i32_toInt, q6]; decide) (by rw [i32_toInt, q6]; rfl) (by decide) (law_case_6 X hX hbl hgh hL ht next hP hst.2.2.2.2.2.2.1 hS hl)
      by_cases q7 : w32 x = 7
      · exact lv_tableIn (tgt := 441) (off := 408) X.1 X.2.1 dL_law_33 (by rw [i32_toInt, q7]; decide) (by rw [i32_toInt, q7]; decide) (by rw [i32_toInt, q7]; rfl) (by decide) (law_case_7 X hX hbl hgh hL ht next hP hst.2.2.2.2.2.2.2.1 hS hl)
      by_cases q8 : w32 x = 8
      · exact lv_tableIn (tgt := 484) (off := 451) X.1 X.2.1 dL_law_33 (by rw [i32_toInt, q8]; decide) (by rw [i32_toInt, q8]; decide) (by rw [i32_toInt, q8]; rfl) (by decide) (law_case_8 X hX hbl hgh hL ht next hP hst.2.2.2.2.2.2.2.2.1 hS hl)
      by_cases q9 : w32 x = 9
      · exact lv_tableIn (tgt := 527) (off := 494) X.1 X.2.1 dL_law_33 (by rw [i32_toInt, q9]; decide) (by rw [i32_toInt, q9]; decide) (by rw [i32_toInt, q9]; rfl) (by decide) (law_case_9 X hX hbl hgh hL ht next hP hst.2.2.2.2.2.2.2.2.2.1 hS hl)
      by_cases q10 : w32 x = 10
      · exact lv_tableIn (tgt := 570) (off := 537) X.1 X.2.1 dL_law_33 (by rw [i32_toInt, q10]; decide) (by rw [i32_toInt, q10]; decide) (by rw [i32_toInt, q10]; rfl) (by decide) (law_case_10 X hX hbl hgh hL ht next hP hst.2.2.2.2.2.2.2.2.2.2.1 hS hl)
      by_cases q11 : w32 x = 11
      · exact lv_tableIn (tgt := 623) (off := 590) X.1 X.2.1 dL_law_33 (by rw [i32_toInt, q11]; decide) (by rw [i32_toInt, q11]; decide) (by rw [i32_toInt, q11]; rfl) (by decide) (law_case_11 X hX hbl hgh hL ht next hP hst.2.2.2.2.2.2.2.2.2.2.2.1 hS hl)
      by_cases q12 : w32 x = 12
      · exact lv_tableIn (tgt := 676) (off := 643) X.1 X.2.1 dL_law_33 (by rw [i32_toInt, q12]; decide) (by rw [i32_toInt, q12]; decide) (by rw [i32_toInt, q12]; rfl) (by decide) (law_case_12 X hX hbl hgh hL ht next hP hst.2.2.2.2.2.2.2.2.2.2.2.2.1 hS hl)
      by_cases q13 : w32 x = 13
      · exact lv_tableIn (tgt := 709) (off := 676) X.1 X.2.1 dL_law_33 (by rw [i32_toInt, q13]; decide) (by rw [i32_toInt, q13]; decide) (by rw [i32_toInt, q13]; rfl) (by decide) (law_case_13 X hX hbl hgh hL ht next hP hst.2.2.2.2.2.2.2.2.2.2.2.2.2.1 hS hl)
      by_cases q14 : w32 x = 14
      · exact lv_tableIn (tgt := 752) (off := 719) X.1 X.2.1 dL_law_33 (by rw [i32_toInt, q14]; decide) (by rw [i32_toInt, q14]; decide) (by rw [i32_toInt, q14]; rfl) (by decide) (law_case_14 X hX hbl hgh hL ht next hP hst.2.2.2.2.2.2.2.2.2.2.2.2.2.2.1 hS hl)
      by_cases q15 : w32 x = 15
      · exact lv_tableIn (tgt := 785) (off := 752) X.1 X.2.1 dL_law_33 (by rw [i32_toInt, q15]; decide) (by rw [i32_toInt, q15]; decide) (by rw [i32_toInt, q15]; rfl) (by decide) (law_case_15 X hX hbl hgh hL ht next hP hst.2.2.2.2.2.2.2.2.2.2.2.2.2.2.2.1 hS hl)
      by_cases q16 : w32 x = 16
      · exact lv_tableIn (tgt := 818) (off := 785) X.1 X.2.1 dL_law_33 (by rw [i32_toInt, q16]; decide) (by rw [i32_toInt, q16]; decide) (by rw [i32_toInt, q16]; rfl) (by decide) (law_case_16 X hX hbl hgh hL ht next hP hst.2.2.2.2.2.2.2.2.2.2.2.2.2.2.2.2.1 hS hl)
      by_cases q17 : w32 x = 17
      · exact lv_tableIn (tgt := 841) (off := 808) X.1 X.2.1 dL_law_33 (by rw [i32_toInt, q17]; decide) (by rw [i32_toInt, q17]; decide) (by rw [i32_toInt, q17]; rfl) (by decide) (law_case_17 X hX hbl hgh hL ht next hP hst.2.2.2.2.2.2.2.2.2.2.2.2.2.2.2.2.2.1 hS hl)
      by_cases q18 : w32 x = 18
      · exact lv_tableIn (tgt := 864) (off := 831) X.1 X.2.1 dL_law_33 (by rw [i32_toInt, q18]; decide) (by rw [i32_toInt, q18]; decide) (by rw [i32_toInt, q18]; rfl) (by decide) (law_case_18 X hX hbl hgh hL ht next hP hst.2.2.2.2.2.2.2.2.2.2.2.2.2.2.2.2.2.2.1 hS hl)
      by_cases q19 : w32 x = 19
      · exact lv_tableIn (tgt := 887) (off := 854) X.1 X.2.1 dL_law_33 (by rw [i32_toInt, q19]; decide) (by rw [i32_toInt, q19]; decide) (by rw [i32_toInt, q19]; rfl) (by decide) (law_case_19 X hX hbl hgh hL ht next hP hst.2.2.2.2.2.2.2.2.2.2.2.2.2.2.2.2.2.2.2.1 hS hl)
      by_cases q20 : w32 x = 20
      · exact lv_tableIn (tgt := 920) (off := 887) X.1 X.2.1 dL_law_33 (by rw [i32_toInt, q20]; decide) (by rw [i32_toInt, q20]; decide) (by rw [i32_toInt, q20]; rfl) (by decide) (law_case_20 X hX hbl hgh hL ht next hP hst.2.2.2.2.2.2.2.2.2.2.2.2.2.2.2.2.2.2.2.2.1 hS hl)
      by_cases q21 : w32 x = 21
      · exact lv_tableIn (tgt := 943) (off := 910) X.1 X.2.1 dL_law_33 (by rw [i32_toInt, q21]; decide) (by rw [i32_toInt, q21]; decide) (by rw [i32_toInt, q21]; rfl) (by decide) (law_case_21 X hX hbl hgh hL ht next hP hst.2.2.2.2.2.2.2.2.2.2.2.2.2.2.2.2.2.2.2.2.2.1 hS hl)
      by_cases q22 : w32 x = 22
      · exact lv_tableIn (tgt := 986) (off := 953) X.1 X.2.1 dL_law_33 (by rw [i32_toInt, q22]; decide) (by rw [i32_toInt, q22]; decide) (by rw [i32_toInt, q22]; rfl) (by decide) (law_case_22 X hX hbl hgh hL ht next hP hst.2.2.2.2.2.2.2.2.2.2.2.2.2.2.2.2.2.2.2.2.2.2.1 hS hl)
      by_cases q23 : w32 x = 23
      · exact lv_tableIn (tgt := 1019) (off := 986) X.1 X.2.1 dL_law_33 (by rw [i32_toInt, q23]; decide) (by rw [i32_toInt, q23]; decide) (by rw [i32_toInt, q23]; rfl) (by decide) (law_case_23 X hX hbl hgh hL ht next hP hst.2.2.2.2.2.2.2.2.2.2.2.2.2.2.2.2.2.2.2.2.2.2.2.1 hS hl)
      by_cases q24 : w32 x = 24
      · exact lv_tableIn (tgt := 1042) (off := 1009) X.1 X.2.1 dL_law_33 (by rw [i32_toInt, q24]; decide) (by rw [i32_toInt, q24]; decide) (by rw [i32_toInt, q24]; rfl) (by decide) (law_case_24 X hX hbl hgh hL ht next hP hst.2.2.2.2.2.2.2.2.2.2.2.2.2.2.2.2.2.2.2.2.2.2.2.2.1 hS hl)
      by_cases q25 : w32 x = 25
      · exact lv_tableIn (tgt := 1065) (off := 1032) X.1 X.2.1 dL_law_33 (by rw [i32_toInt, q25]; decide) (by rw [i32_toInt, q25]; decide) (by rw [i32_toInt, q25]; rfl) (by decide) (law_case_25 X hX hbl hgh hL ht next hP hst.2.2.2.2.2.2.2.2.2.2.2.2.2.2.2.2.2.2.2.2.2.2.2.2.2.1 hS hl)
      by_cases q26 : w32 x = 26
      · exact lv_tableIn (tgt := 1088) (off := 1055) X.1 X.2.1 dL_law_33 (by rw [i32_toInt, q26]; decide) (by rw [i32_toInt, q26]; decide) (by rw [i32_toInt, q26]; rfl) (by decide) (law_case_26 X hX hbl hgh hL ht next hP hst.2.2.2.2.2.2.2.2.2.2.2.2.2.2.2.2.2.2.2.2.2.2.2.2.2.2.1 hS hl)
      by_cases q27 : w32 x = 27
      · exact lv_tableIn (tgt := 1121) (off := 1088) X.1 X.2.1 dL_law_33 (by rw [i32_toInt, q27]; decide) (by rw [i32_toInt, q27]; decide) (by rw [i32_toInt, q27]; rfl) (by decide) (law_case_27 X hX hbl hgh hL ht next hP hst.2.2.2.2.2.2.2.2.2.2.2.2.2.2.2.2.2.2.2.2.2.2.2.2.2.2.2.1 hS hl)
      by_cases q28 : w32 x = 28
      · exact lv_tableIn (tgt := 1154) (off := 1121) X.1 X.2.1 dL_law_33 (by rw [i32_toInt, q28]; decide) (by rw [i32_toInt, q28]; decide) (by rw [i32_toInt, q28]; rfl) (by decide) (law_case_28 X hX hbl hgh hL ht next hP hst.2.2.2.2.2.2.2.2.2.2.2.2.2.2.2.2.2.2.2.2.2.2.2.2.2.2.2.2.1 hS hl)
      by_cases q29 : w32 x = 29
      · exact lv_tableIn (tgt := 1197) (off := 1164) X.1 X.2.1 dL_law_33 (by rw [i32_toInt, q29]; decide) (by rw [i32_toInt, q29]; decide) (by rw [i32_toInt, q29]; rfl) (by decide) (law_case_29 X hX hbl hgh hL ht next hP hst.2.2.2.2.2.2.2.2.2.2.2.2.2.2.2.2.2.2.2.2.2.2.2.2.2.2.2.2.2.1 hS hl)
      by_cases q30 : w32 x = 30
      · exact lv_tableIn (tgt := 1240) (off := 1207) X.1 X.2.1 dL_law_33 (by rw [i32_toInt, q30]; decide) (by rw [i32_toInt, q30]; decide) (by rw [i32_toInt, q30]; rfl) (by decide) (law_case_30 X hX hbl hgh hL ht next hP hst.2.2.2.2.2.2.2.2.2.2.2.2.2.2.2.2.2.2.2.2.2.2.2.2.2.2.2.2.2.2.1 hS hl)
      by_cases q31 : w32 x = 31
      · exact lv_tableIn (tgt := 1303) (off := 1270) X.1 X.2.1 dL_law_33 (by rw [i32_toInt, q31]; decide) (by rw [i32_toInt, q31]; decide) (by rw [i32_toInt, q31]; rfl) (by decide) (law_case_31 X hX hbl hgh hL ht next hP hst.2.2.2.2.2.2.2.2.2.2.2.2.2.2.2.2.2.2.2.2.2.2.2.2.2.2.2.2.2.2.2.1 hS hl)
      by_cases q32 : w32 x = 32
      · exact lv_tableIn (tgt := 1336) (off := 1303) X.1 X.2.1 dL_law_33 (by rw [i32_toInt, q32]; decide) (by rw [i32_toInt, q32]; decide) (by rw [i32_toInt, q32]; rfl) (by decide) (law_case_32 X hX hbl hgh hL ht next hP hst.2.2.2.2.2.2.2.2.2.2.2.2.2.2.2.2.2.2.2.2.2.2.2.2.2.2.2.2.2.2.2.2.1 hS hl)
      by_cases q33 : w32 x = 33
      · exact lv_tableIn (tgt := 1369) (off := 1336) X.1 X.2.1 dL_law_33 (by rw [i32_toInt, q33]; decide) (by rw [i32_toInt, q33]; decide) (by rw [i32_toInt, q33]; rfl) (by decide) (law_case_33 X hX hbl hgh hL ht next hP hst.2.2.2.2.2.2.2.2.2.2.2.2.2.2.2.2.2.2.2.2.2.2.2.2.2.2.2.2.2.2.2.2.2.1 hS hl)
      by_cases q34 : w32 x = 34
      · exact lv_tableIn (tgt := 1382) (off := 1349) X.1 X.2.1 dL_law_33 (by rw [i32_toInt, q34]; decide) (by rw [i32_toInt, q34]; decide) (by rw [i32_toInt, q34]; rfl) (by decide) (law_case_34 X hX hbl hgh hL ht next hP hst.2.2.2.2.2.2.2.2.2.2.2.2.2.2.2.2.2.2.2.2.2.2.2.2.2.2.2.2.2.2.2.2.2.2.1 hS hl)
      by_cases q35 : w32 x = 35
      · exact lv_tableIn (tgt := 1395) (off := 1362) X.1 X.2.1 dL_law_33 (by rw [i32_toInt, q35]; decide) (by rw [i32_toInt, q35]; decide) (by rw [i32_toInt, q35]; rfl) (by decide) (law_case_35 X hX hbl hgh hL ht next hP hst.2.2.2.2.2.2.2.2.2.2.2.2.2.2.2.2.2.2.2.2.2.2.2.2.2.2.2.2.2.2.2.2.2.2.2.1 hS hl)
      by_cases q36 : w32 x = 36
      · exact lv_tableIn (tgt := 1408) (off := 1375) X.1 X.2.1 dL_law_33 (by rw [i32_toInt, q36]; decide) (by rw [i32_toInt, q36]; decide) (by rw [i32_toInt, q36]; rfl) (by decide) (law_case_36 X hX hbl hgh hL ht next hP hst.2.2.2.2.2.2.2.2.2.2.2.2.2.2.2.2.2.2.2.2.2.2.2.2.2.2.2.2.2.2.2.2.2.2.2.2.1 hS hl)
      by_cases q37 : w32 x = 37
      · exact lv_tableIn (tgt := 1431) (off := 1398) X.1 X.2.1 dL_law_33 (by rw [i32_toInt, q37]; decide) (by rw [i32_toInt, q37]; decide) (by rw [i32_toInt, q37]; rfl) (by decide) (law_case_37 X hX hbl hgh hL ht next hP hst.2.2.2.2.2.2.2.2.2.2.2.2.2.2.2.2.2.2.2.2.2.2.2.2.2.2.2.2.2.2.2.2.2.2.2.2.2 hS hl)
      refine lv_tableOut (tgt := 1454) X.1 X.2.1 dL_law_33 (by rw [i32_toInt]; omega) (by decide) ?_
      refine lv_iinc (v := i32 ((6 * (t + 1) : Nat) : Int)) (lv' := [(3, .int (i32 ((6 * (t + 1) : Nat) : Int))), (0, .ref b), (1, .ref (gh G + 0)), (2, .ref (gh G + 111))]) X.1 X.2.1 dL_law_1454 hl (k := 0) rfl (i32_add _ _) (by decide) rfl (fun ls hl => ?_)
      refine lv_goto (tgt := 18) X.1 X.2.1 dL_law_1457 (by decide) ?_
      exact next σ H locs ls hP hI hS hl
