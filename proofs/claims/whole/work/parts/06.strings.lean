/-! String.length and String.charAt of the seven texts: the JDK's own bytecode -/
theorem dJ0_length_8abf5_0 : decode cJ0_length_8abf5 0 = .ok (.aload_n 0, 1) := by decide +kernel
theorem dJ0_length_8abf5_1 : decode cJ0_length_8abf5 1 = .ok (.getfield 9, 3) := by decide +kernel
theorem dJ0_length_8abf5_4 : decode cJ0_length_8abf5 4 = .ok (.arraylength, 1) := by decide +kernel
theorem dJ0_length_8abf5_5 : decode cJ0_length_8abf5 5 = .ok (.aload_n 0, 1) := by decide +kernel
theorem dJ0_length_8abf5_6 : decode cJ0_length_8abf5 6 = .ok (.invokevirtual 335, 3) := by decide +kernel
theorem dJ0_length_8abf5_9 : decode cJ0_length_8abf5 9 = .ok (.ishr, 1) := by decide +kernel
theorem dJ0_length_8abf5_10 : decode cJ0_length_8abf5 10 = .ok (.ireturn, 1) := by decide +kernel
theorem dJ0_coder_7d493_0 : decode cJ0_coder_7d493 0 = .ok (.getstatic 38, 3) := by decide +kernel
theorem dJ0_coder_7d493_3 : decode cJ0_coder_7d493 3 = .ok (.ifCond .eq 10, 3) := by decide +kernel
theorem dJ0_coder_7d493_6 : decode cJ0_coder_7d493 6 = .ok (.aload_n 0, 1) := by decide +kernel
theorem dJ0_coder_7d493_7 : decode cJ0_coder_7d493 7 = .ok (.getfield 15, 3) := by decide +kernel
theorem dJ0_coder_7d493_10 : decode cJ0_coder_7d493 10 = .ok (.goto 4, 3) := by decide +kernel
theorem dJ0_coder_7d493_13 : decode cJ0_coder_7d493 13 = .ok (.iconst 1, 1) := by decide +kernel
theorem dJ0_coder_7d493_14 : decode cJ0_coder_7d493 14 = .ok (.ireturn, 1) := by decide +kernel
theorem dJ0_charAt_5068e_0 : decode cJ0_charAt_5068e 0 = .ok (.aload_n 0, 1) := by decide +kernel
theorem dJ0_charAt_5068e_1 : decode cJ0_charAt_5068e 1 = .ok (.invokevirtual 492, 3) := by decide +kernel
theorem dJ0_charAt_5068e_4 : decode cJ0_charAt_5068e 4 = .ok (.ifCond .eq 12, 3) := by decide +kernel
theorem dJ0_charAt_5068e_7 : decode cJ0_charAt_5068e 7 = .ok (.aload_n 0, 1) := by decide +kernel
theorem dJ0_charAt_5068e_8 : decode cJ0_charAt_5068e 8 = .ok (.getfield 9, 3) := by decide +kernel
theorem dJ0_charAt_5068e_11 : decode cJ0_charAt_5068e 11 = .ok (.iload_n 1, 1) := by decide +kernel
theorem dJ0_charAt_5068e_12 : decode cJ0_charAt_5068e 12 = .ok (.invokestatic 495, 3) := by decide +kernel
theorem dJ0_charAt_5068e_15 : decode cJ0_charAt_5068e 15 = .ok (.ireturn, 1) := by decide +kernel
theorem dJ0_isLatin1_aae02_0 : decode cJ0_isLatin1_aae02 0 = .ok (.getstatic 38, 3) := by decide +kernel
theorem dJ0_isLatin1_aae02_3 : decode cJ0_isLatin1_aae02 3 = .ok (.ifCond .eq 14, 3) := by decide +kernel
theorem dJ0_isLatin1_aae02_6 : decode cJ0_isLatin1_aae02 6 = .ok (.aload_n 0, 1) := by decide +kernel
theorem dJ0_isLatin1_aae02_7 : decode cJ0_isLatin1_aae02 7 = .ok (.getfield 15, 3) := by decide +kernel
theorem dJ0_isLatin1_aae02_10 : decode cJ0_isLatin1_aae02 10 = .ok (.ifCond .ne 7, 3) := by decide +kernel
theorem dJ0_isLatin1_aae02_13 : decode cJ0_isLatin1_aae02 13 = .ok (.iconst 1, 1) := by decide +kernel
theorem dJ0_isLatin1_aae02_14 : decode cJ0_isLatin1_aae02 14 = .ok (.goto 4, 3) := by decide +kernel
theorem dJ0_isLatin1_aae02_17 : decode cJ0_isLatin1_aae02 17 = .ok (.iconst 0, 1) := by decide +kernel
theorem dJ0_isLatin1_aae02_18 : decode cJ0_isLatin1_aae02 18 = .ok (.ireturn, 1) := by decide +kernel
theorem dJ1_charAt_3b067_0 : decode cJ1_charAt_3b067 0 = .ok (.iload_n 1, 1) := by decide +kernel
theorem dJ1_charAt_3b067_1 : decode cJ1_charAt_3b067 1 = .ok (.aload_n 0, 1) := by decide +kernel
theorem dJ1_charAt_3b067_2 : decode cJ1_charAt_3b067 2 = .ok (.arraylength, 1) := by decide +kernel
theorem dJ1_charAt_3b067_3 : decode cJ1_charAt_3b067 3 = .ok (.invokestatic 9, 3) := by decide +kernel
theorem dJ1_charAt_3b067_6 : decode cJ1_charAt_3b067 6 = .ok (.aload_n 0, 1) := by decide +kernel
theorem dJ1_charAt_3b067_7 : decode cJ1_charAt_3b067 7 = .ok (.iload_n 1, 1) := by decide +kernel
theorem dJ1_charAt_3b067_8 : decode cJ1_charAt_3b067 8 = .ok (.baload, 1) := by decide +kernel
theorem dJ1_charAt_3b067_9 : decode cJ1_charAt_3b067 9 = .ok (.sipush 255, 3) := by decide +kernel
theorem dJ1_charAt_3b067_12 : decode cJ1_charAt_3b067 12 = .ok (.iand, 1) := by decide +kernel
theorem dJ1_charAt_3b067_13 : decode cJ1_charAt_3b067 13 = .ok (.i2c, 1) := by decide +kernel
theorem dJ1_charAt_3b067_14 : decode cJ1_charAt_3b067 14 = .ok (.ireturn, 1) := by decide +kernel
theorem dJ0_checkIndex_df160_0 : decode cJ0_checkIndex_df160 0 = .ok (.iload_n 0, 1) := by decide +kernel
theorem dJ0_checkIndex_df160_1 : decode cJ0_checkIndex_df160 1 = .ok (.iload_n 1, 1) := by decide +kernel
theorem dJ0_checkIndex_df160_2 : decode cJ0_checkIndex_df160 2 = .ok (.getstatic 1053, 3) := by decide +kernel
theorem dJ0_checkIndex_df160_5 : decode cJ0_checkIndex_df160 5 = .ok (.invokestatic 1059, 3) := by decide +kernel
theorem dJ0_checkIndex_df160_8 : decode cJ0_checkIndex_df160 8 = .ok (.pop, 1) := by decide +kernel
theorem dJ0_checkIndex_df160_9 : decode cJ0_checkIndex_df160 9 = .ok (.return_, 1) := by decide +kernel
theorem dJ3_checkIndex_8e157_0 : decode cJ3_checkIndex_8e157 0 = .ok (.iload_n 0, 1) := by decide +kernel
theorem dJ3_checkIndex_8e157_1 : decode cJ3_checkIndex_8e157 1 = .ok (.ifCond .lt 8, 3) := by decide +kernel
theorem dJ3_checkIndex_8e157_4 : decode cJ3_checkIndex_8e157 4 = .ok (.iload_n 0, 1) := by decide +kernel
theorem dJ3_checkIndex_8e157_5 : decode cJ3_checkIndex_8e157 5 = .ok (.iload_n 1, 1) := by decide +kernel
theorem dJ3_checkIndex_8e157_6 : decode cJ3_checkIndex_8e157 6 = .ok (.if_icmp .lt 10, 3) := by decide +kernel
theorem dJ3_checkIndex_8e157_16 : decode cJ3_checkIndex_8e157 16 = .ok (.iload_n 0, 1) := by decide +kernel
theorem dJ3_checkIndex_8e157_17 : decode cJ3_checkIndex_8e157 17 = .ok (.ireturn, 1) := by decide +kernel
def sln (w : Nat) : Int := ((sLen.getD w 0 : Nat) : Int)
def sch (w j : Nat) : Int := ((sByt.getD w []).getD j 0).toInt
theorem st_of {G : GT} {s : State} (h : ST G s) {w : Nat} (hw : w < 7) : va_OF "java/lang/String" "coder" "B" (.int 0) (gt G (10 + w)) (AA G) s s.heap ∧ va_OF "java/lang/String" "value" "[B" (.ref (gt G (20 + w))) (gt G (10 + w)) (AA G) s s.heap ∧ va_T .byte (gt G (20 + w)) (sLen.getD w 0) (fun j => .int ((sByt.getD w []).getD j 0)) (AA G) s s.heap := (h.2.2.2.2.2.1.1 w hw).2
theorem st_recv {G : GT} {s : State} {H : Heap} {locs : List Loc} (h : ST G s) {w : Nat} (hw : w < 7) (hS : va_S (AA G) s.heap H locs) : ∃ cell : Cell, H[gt G (10 + w)]? = some cell ∧ cell.vm.isStatics = false ∧ s.vm.findClass "java/lang/String" = some cell.cls := vk_recv (adK := fun i => gt G (10 + i)) (i := w) h.2.2.2.2.2.1 hw hS
theorem c_coder {l : Launch} {G : GT} {σ : Mem} {w : Nat} (hw : w < 7) : CT l yJ0_coder_7d493 cJ0_coder_7d493 1 (some FieldType.byte) 1 60 G [.ref (gt G (10 + w))] σ σ (some (.int (i32 0))) := by
  refine CT.mk (own := RJ0) (by decide) rfl (Nat.le_of_ble_eq_true rfl) ?_
  intro p e s m below meth c ls X hP hS hl
  have hl : lv_has ls 1 [(0, .ref (gt G (10 + w)))] := hl
  refine va_gets X.1 X.2.1 X.S.2.2.2.1 hS X.ow (X.ts _ (tb t_518 rfl)) (fun _ h => h) dJ0_coder_7d493_0 ?_
  refine lv_if_eq (tgt := 13) X.1 X.2.1 dJ0_coder_7d493_3 (by decide) (fun h => absurd h (by decide)) (fun _ => ?_)
  refine lv_aload_n X.1 X.2.1 dJ0_coder_7d493_6 rfl (lv_at hl 0 rfl) ?_
  refine vk_getf X.1 X.2.1 (st_of X.S hw).1 hS X.ow (X.ts _ (tb t_1577 rfl)) (fun _ h => h) dJ0_coder_7d493_7 ?_
  refine lv_goto (tgt := 14) X.1 X.2.1 dJ0_coder_7d493_10 (by decide) ?_
  exact W.zret X.1 X.2.1 X.2.2.2.2.2.2.1 rfl (fun t ht _ => ⟨rfl, by rw [ht]; exact hP, hS.F ht⟩) (fun q hq => hS.2.2 q hq) dJ0_coder_7d493_14 X.2.2.2.2.2.1
theorem c_isLatin1 {l : Launch} {G : GT} {σ : Mem} {w : Nat} (hw : w < 7) : CT l yJ0_isLatin1_aae02 cJ0_isLatin1_aae02 1 (some FieldType.boolean) 1 60 G [.ref (gt G (10 + w))] σ σ (some (.int (i32 1))) := by
  refine CT.mk (own := RJ0) (by decide) rfl (Nat.le_of_ble_eq_true rfl) ?_
  intro p e s m below meth c ls X hP hS hl
  have hl : lv_has ls 1 [(0, .ref (gt G (10 + w)))] := hl
  refine va_gets X.1 X.2.1 X.S.2.2.2.1 hS X.ow (X.ts _ (tb t_518 rfl)) (fun _ h => h) dJ0_isLatin1_aae02_0 ?_
  refine lv_if_eq (tgt := 17) X.1 X.2.1 dJ0_isLatin1_aae02_3 (by decide) (fun h => absurd h (by decide)) (fun _ => ?_)
  refine lv_aload_n X.1 X.2.1 dJ0_isLatin1_aae02_6 rfl (lv_at hl 0 rfl) ?_
  refine vk_getf X.1 X.2.1 (st_of X.S hw).1 hS X.ow (X.ts _ (tb t_1577 rfl)) (fun _ h => h) dJ0_isLatin1_aae02_7 ?_
  refine lv_if_ne (tgt := 17) X.1 X.2.1 dJ0_isLatin1_aae02_10 (by decide) (fun h => absurd rfl h) (fun _ => ?_)
  refine r_iconst X 1 dJ0_isLatin1_aae02_13 ?_
  refine lv_goto (tgt := 18) X.1 X.2.1 dJ0_isLatin1_aae02_14 (by decide) ?_
  exact r_zret X hP hS (Or.inr rfl) dJ0_isLatin1_aae02_18
theorem c_slen {l : Launch} {G : GT} {σ : Mem} {w : Nat} (hw : w < 7) : CT l yJ0_length_8abf5 cJ0_length_8abf5 1 (some FieldType.int) 2 90 G [.ref (gt G (10 + w))] σ σ (some (.int (i32 (sln w)))) := by
  refine CT.mk (own := RJ0) (by decide) rfl (Nat.le_of_ble_eq_true rfl) ?_
  intro p e s m below meth c ls X hP hS hl
  have hl : lv_has ls 1 [(0, .ref (gt G (10 + w)))] := hl
  refine lv_aload_n X.1 X.2.1 dJ0_length_8abf5_0 rfl (lv_at hl 0 rfl) ?_
  refine vk_getf X.1 X.2.1 (st_of X.S hw).2.1 hS X.ow (X.ts _ (tb t_1576 rfl)) (fun _ h => h) dJ0_length_8abf5_1 ?_
  refine va_tlen X.1 X.2.1 (st_of X.S hw).2.2 hS (v := i32 (sln w)) rfl dJ0_length_8abf5_4 ?_
  refine lv_aload_n X.1 X.2.1 dJ0_length_8abf5_5 rfl (lv_at hl 0 rfl) ?_
  refine r_callV (n := 0) (As := []) X hP hS hl.1 (c_coder hw) (tb t_514 rfl) (tb t_515 rfl) (tb t_516 rfl) (tb t_88 rfl) (tb t_517 rfl) (by decide +kernel) (by decide) (st_recv X.S hw hS) rfl rfl (Nat.le_of_ble_eq_true rfl) dJ0_length_8abf5_6 (fun H locs hP hS => ?_)
  refine r_ishr X dJ0_length_8abf5_9 ?_
  rw [(by decide +kernel : ∀ w, w < 7 → isr (sln w) 0 = sln w) w hw]
  exact r_iret X hP hS dJ0_length_8abf5_10
theorem c_pck {l : Launch} {G : GT} {σ : Mem} {v : Value} (hv : v = .null ∨ ∃ t : Nat, v = .ref t) {i n : Int} (hi : 0 ≤ w32 i ∧ w32 i < w32 n) : CT l yJ3_checkIndex_8e157 cJ3_checkIndex_8e157 3 (some FieldType.int) 1 60 G [.int (i32 i), .int (i32 n), v] σ σ (some (.int (i32 i))) := by
  rcases hv with rfl | ⟨t, rfl⟩ <;>
  (refine CT.mk (own := RJ3) (by decide) rfl (Nat.le_of_ble_eq_true rfl) ?_
   intro p e s m below meth c ls X hP hS hl
   have hl : lv_has ls 3 [(0, .int (i32 i)), (1, .int (i32 n)), (2, _)] := hl
   refine lv_iload_n X.1 X.2.1 dJ3_checkIndex_8e157_0 rfl (lv_at hl 0 rfl) ?_
   refine r_if_lt (tgt := 9) X dJ3_checkIndex_8e157_1 (by decide) (fun q => absurd q (by omega)) (fun _ => ?_)
   refine lv_iload_n X.1 X.2.1 dJ3_checkIndex_8e157_4 rfl (lv_at hl 0 rfl) ?_
   refine lv_iload_n X.1 X.2.1 dJ3_checkIndex_8e157_5 rfl (lv_at hl 1 rfl) ?_
   refine r_icmp_lt (tgt := 16) X dJ3_checkIndex_8e157_6 (by decide) (fun _ => ?_) (fun q => absurd hi.2 q)
   refine lv_iload_n X.1 X.2.1 dJ3_checkIndex_8e157_16 rfl (lv_at hl 0 rfl) ?_
   exact r_iret X hP hS dJ3_checkIndex_8e157_17)
theorem c_sck {l : Launch} {G : GT} {σ : Mem} {i n : Int} (hi : 0 ≤ w32 i ∧ w32 i < w32 n) : CT l yJ0_checkIndex_df160 cJ0_checkIndex_df160 2 none 2 90 G [.int (i32 i), .int (i32 n)] σ σ none := by
  refine CT.mk (own := RJ0) (by decide) rfl (Nat.le_of_ble_eq_true rfl) ?_
  intro p e s m below meth c ls X hP hS hl
  have hl : lv_has ls 2 [(0, .int (i32 i)), (1, .int (i32 n))] := hl
  refine lv_iload_n X.1 X.2.1 dJ0_checkIndex_df160_0 rfl (lv_at hl 0 rfl) ?_
  refine lv_iload_n X.1 X.2.1 dJ0_checkIndex_df160_1 rfl (lv_at hl 1 rfl) ?_
  rcases X.S.2.2.2.2.2.2 with hz | ⟨t, hz⟩
  · refine va_gets X.1 X.2.1 hz hS X.ow (X.ts _ (tb t_534 rfl)) (fun _ h => h) dJ0_checkIndex_df160_2 ?_
    refine r_callS (n := 3) (As := [.int (i32 i), .int (i32 n), _]) X hP hS hl.1 (c_pck (Or.inl rfl) hi) (tb t_536 rfl) (tb t_537 rfl) (tb t_90 rfl) (tb t_538 rfl) (by decide +kernel) (by decide) rfl rfl (Nat.le_of_ble_eq_true rfl) dJ0_checkIndex_df160_5 (fun H locs hP hS => ?_)
    refine lv_pop X.1 X.2.1 dJ0_checkIndex_df160_8 rfl ?_
    exact r_vret X hP hS dJ0_checkIndex_df160_9
  · refine va_gets X.1 X.2.1 hz hS X.ow (X.ts _ (tb t_534 rfl)) (fun _ h => h) dJ0_checkIndex_df160_2 ?_
    refine r_callS (n := 3) (As := [.int (i32 i), .int (i32 n), _]) X hP hS hl.1 (c_pck (Or.inr ⟨t, rfl⟩) hi) (tb t_536 rfl) (tb t_537 rfl) (tb t_90 rfl) (tb t_538 rfl) (by decide +kernel) (by decide) rfl rfl (Nat.le_of_ble_eq_true rfl) dJ0_checkIndex_df160_5 (fun H locs hP hS => ?_)
    refine lv_pop X.1 X.2.1 dJ0_checkIndex_df160_8 rfl ?_
    exact r_vret X hP hS dJ0_checkIndex_df160_9
theorem sch_ok : ∀ w, w < 7 → ∀ j, j < sLen.getD w 0 → i32 (ic16 (ian (sch w j) 255)) = i32 (sch w j) ∧ narrow .char (.int (i32 (sch w j))) = .int (i32 (sch w j)) ∧ (sByt.getD w []).getD j 0 = i32 (sch w j) := by decide +kernel
theorem sln_w : ∀ w, w < 7 → w32 (sln w) = ((sLen.getD w 0 : Nat) : Int) := by decide +kernel
theorem c_l1ch {l : Launch} {G : GT} {σ : Mem} {w : Nat} (hw : w < 7) {i : Int} {j : Nat} (hi : 0 ≤ w32 i ∧ w32 i < ((sLen.getD w 0 : Nat) : Int)) (hj : (w32 i).toNat = j) : CT l yJ1_charAt_3b067 cJ1_charAt_3b067 2 (some FieldType.char) 3 130 G [.ref (gt G (20 + w)), .int (i32 i)] σ σ (some (.int (i32 (sch w j)))) := by
  refine CT.mk (own := RJ1) (by decide) rfl (Nat.le_of_ble_eq_true rfl) ?_
  intro p e s m below meth c ls X hP hS hl
  have hl : lv_has ls 2 [(0, .ref (gt G (20 + w))), (1, .int (i32 i))] := hl
  have hjl : j < sLen.getD w 0 := by omega
  refine lv_iload_n X.1 X.2.1 dJ1_charAt_3b067_0 rfl (lv_at hl 1 rfl) ?_
  refine lv_aload_n X.1 X.2.1 dJ1_charAt_3b067_1 rfl (lv_at hl 0 rfl) ?_
  refine va_tlen X.1 X.2.1 (st_of X.S hw).2.2 hS (v := i32 (sln w)) rfl dJ1_charAt_3b067_2 ?_
  refine r_callS (n := 2) (As := [.int (i32 i), .int (i32 (sln w))]) X hP hS hl.1 (c_sck (by rw [sln_w w hw]; exact hi)) (tb t_531 rfl) (tb t_532 rfl) (tb t_88 rfl) (tb t_533 rfl) (by decide +kernel) (by decide) rfl rfl (Nat.le_of_ble_eq_true rfl) dJ1_charAt_3b067_3 (fun H locs hP hS => ?_)
  refine lv_aload_n X.1 X.2.1 dJ1_charAt_3b067_6 rfl (lv_at hl 0 rfl) ?_
  refine lv_iload_n X.1 X.2.1 dJ1_charAt_3b067_7 rfl (lv_at hl 1 rfl) ?_
  refine va_tb X.1 X.2.1 (st_of X.S hw).2.2 hS (i32_in.mpr hi) (v := .int (i32 (sch w j))) (by rw [i32_nat, hj, (sch_ok w hw j hjl).2.2]) dJ1_charAt_3b067_8 ?_
  refine r_sipush X 255 (by decide) dJ1_charAt_3b067_9 ?_
  refine r_iand X dJ1_charAt_3b067_12 ?_
  refine r_i2c X dJ1_charAt_3b067_13 ?_
  rw [(sch_ok w hw j hjl).1]
  exact W.zret X.1 X.2.1 X.2.2.2.2.2.2.1 (sch_ok w hw j hjl).2.1 (fun t ht _ => ⟨rfl, by rw [ht]; exact hP, hS.F ht⟩) (fun q hq => hS.2.2 q hq) dJ1_charAt_3b067_14 X.2.2.2.2.2.1
theorem c_schar {l : Launch} {G : GT} {σ : Mem} {w : Nat} (hw : w < 7) {i : Int} {j : Nat} (hi : 0 ≤ w32 i ∧ w32 i < ((sLen.getD w 0 : Nat) : Int)) (hj : (w32 i).toNat = j) : CT l yJ0_charAt_5068e cJ0_charAt_5068e 2 (some FieldType.char) 4 170 G [.ref (gt G (10 + w)), .int (i32 i)] σ σ (some (.int (i32 (sch w j)))) := by
  refine CT.mk (own := RJ0) (by decide) rfl (Nat.le_of_ble_eq_true rfl) ?_
  intro p e s m below meth c ls X hP hS hl
  have hl : lv_has ls 2 [(0, .ref (gt G (10 + w))), (1, .int (i32 i))] := hl
  have hjl : j < sLen.getD w 0 := by omega
  refine lv_aload_n X.1 X.2.1 dJ0_charAt_5068e_0 rfl (lv_at hl 0 rfl) ?_
  refine r_callV (n := 0) (As := []) X hP hS hl.1 (c_isLatin1 hw) (tb t_524 rfl) (tb t_525 rfl) (tb t_526 rfl) (tb t_88 rfl) (tb t_527 rfl) (by decide +kernel) (by decide) (st_recv X.S hw hS) rfl rfl (Nat.le_of_ble_eq_true rfl) dJ0_charAt_5068e_1 (fun H locs hP hS => ?_)
  refine r_if_eq (tgt := 16) X dJ0_charAt_5068e_4 (by decide) (fun q => absurd q (by decide)) (fun _ => ?_)
  refine lv_aload_n X.1 X.2.1 dJ0_charAt_5068e_7 rfl (lv_at hl 0 rfl) ?_
  refine vk_getf X.1 X.2.1 (st_of X.S hw).2.1 hS X.ow (X.ts _ (tb t_1576 rfl)) (fun _ h => h) dJ0_charAt_5068e_8 ?_
  refine lv_iload_n X.1 X.2.1 dJ0_charAt_5068e_11 rfl (lv_at hl 1 rfl) ?_
  refine r_callS (n := 2) (As := [.ref (gt G (20 + w)), .int (i32 i)]) X hP hS hl.1 (c_l1ch hw hi hj) (tb t_528 rfl) (tb t_529 rfl) (tb t_89 rfl) (tb t_530 rfl) (by decide +kernel) (by decide) rfl rfl (Nat.le_of_ble_eq_true rfl) dJ0_charAt_5068e_12 (fun H locs hP hS => ?_)
  exact W.zret X.1 X.2.1 X.2.2.2.2.2.2.1 (sch_ok w hw j hjl).2.1 (fun t ht _ => ⟨rfl, by rw [ht]; exact hP, hS.F ht⟩) (fun q hq => hS.2.2 q hq) dJ0_charAt_5068e_15 X.2.2.2.2.2.1
section Strs
variable {p : Program} {l : Launch} {e : Env} {R : Room} {s : State} {m : MethodId} {args : Array Value} {below : List Frame} {meth : Method} {c : Code} {H : Heap} {locs : List Loc} {Q : State → Prop}
variable {cc : ByteArray} {nL : Nat} {own : String} {ret : Option FieldType} {fF fL : Nat} {G : GT} {pc : Nat} {ls : Array Slot} {rest : List Value} {σ : Mem}
theorem r_slen (X : CX p R s m args meth c cc nL own ret fF fL G) (hP : PW G σ H) (hS : va_S (AA G) s.heap H locs) (hls : ls.size = nL) {w idx : Nat} (hw : w < 7) (h1 : Cond.methodLink own idx yJ0_length_8abf5 ∈ TB) (hR : 6 ≤ fF ∧ 300 ≤ fL) (hW : (rest.map fun v => v.category).sum ≤ 8) (hd : decode cc pc = .ok (.invokevirtual idx, 3)) (kk : ∀ (H1 : Heap) (locs1 : List Loc), PW G σ H1 → va_S (AA G) s.heap H1 locs1 → W p l e R s m args below meth c H1 locs1 0 0 Q (F0 m (pc + 3) ls (.int (i32 (sln w)) :: rest))) : W p l e R s m args below meth c H locs 0 0 Q (F0 m (pc) ls (.ref (gt G (10 + w)) :: rest)) := r_callV (n := 0) (As := []) X hP hS hls (c_slen hw) h1 (tb t_511 rfl) (tb t_512 rfl) (tb t_88 rfl) (tb t_513 rfl) (by decide +kernel) ⟨by omega, by omega⟩ (st_recv X.S hw hS) rfl rfl hW hd kk
theorem r_schar (X : CX p R s m args meth c cc nL own ret fF fL G) (hP : PW G σ H) (hS : va_S (AA G) s.heap H locs) (hls : ls.size = nL) {w idx j : Nat} {i : Int} (hw : w < 7) (hi : 0 ≤ w32 i ∧ w32 i < ((sLen.getD w 0 : Nat) : Int)) (hj : (w32 i).toNat = j) (h1 : Cond.methodLink own idx yJ0_charAt_5068e ∈ TB) (hR : 6 ≤ fF ∧ 300 ≤ fL) (hW : (rest.map fun v => v.category).sum ≤ 8) (hd : decode cc pc = .ok (.invokevirtual idx, 3)) (kk : ∀ (H1 : Heap) (locs1 : List Loc), PW G σ H1 → va_S (AA G) s.heap H1 locs1 → W p l e R s m args below meth c H1 locs1 0 0 Q (F0 m (pc + 3) ls (.int (i32 (sch w j)) :: rest))) : W p l e R s m args below meth c H locs 0 0 Q (F0 m (pc) ls (.int (i32 i) :: .ref (gt G (10 + w)) :: rest)) := r_callV (n := 1) (As := [.int (i32 i)]) X hP hS hls (c_schar hw hi hj) h1 (tb t_521 rfl) (tb t_522 rfl) (tb t_88 rfl) (tb t_523 rfl) (by decide +kernel) ⟨by omega, by omega⟩ (st_recv X.S hw hS) rfl rfl hW hd kk
end Strs
