/-! X11_spelt -/
theorem dX11_spelt_0 : decode cX11_spelt 0 = .ok (.iload_n 0, 1) := by decide +kernel
theorem dX11_spelt_1 : decode cX11_spelt 1 = .ok (.i2l, 1) := by decide +kernel
theorem dX11_spelt_2 : decode cX11_spelt 2 = .ok (.bipush 25, 2) := by decide +kernel
theorem dX11_spelt_4 : decode cX11_spelt 4 = .ok (.lshl, 1) := by decide +kernel
theorem dX11_spelt_5 : decode cX11_spelt 5 = .ok (.iload_n 1, 1) := by decide +kernel
theorem dX11_spelt_6 : decode cX11_spelt 6 = .ok (.bipush 20, 2) := by decide +kernel
theorem dX11_spelt_8 : decode cX11_spelt 8 = .ok (.ishl, 1) := by decide +kernel
theorem dX11_spelt_9 : decode cX11_spelt 9 = .ok (.i2l, 1) := by decide +kernel
theorem dX11_spelt_10 : decode cX11_spelt 10 = .ok (.lor, 1) := by decide +kernel
theorem dX11_spelt_11 : decode cX11_spelt 11 = .ok (.iload_n 2, 1) := by decide +kernel
theorem dX11_spelt_12 : decode cX11_spelt 12 = .ok (.bipush 15, 2) := by decide +kernel
theorem dX11_spelt_14 : decode cX11_spelt 14 = .ok (.ishl, 1) := by decide +kernel
theorem dX11_spelt_15 : decode cX11_spelt 15 = .ok (.i2l, 1) := by decide +kernel
theorem dX11_spelt_16 : decode cX11_spelt 16 = .ok (.lor, 1) := by decide +kernel
theorem dX11_spelt_17 : decode cX11_spelt 17 = .ok (.iload_n 3, 1) := by decide +kernel
theorem dX11_spelt_18 : decode cX11_spelt 18 = .ok (.bipush 10, 2) := by decide +kernel
theorem dX11_spelt_20 : decode cX11_spelt 20 = .ok (.ishl, 1) := by decide +kernel
theorem dX11_spelt_21 : decode cX11_spelt 21 = .ok (.i2l, 1) := by decide +kernel
theorem dX11_spelt_22 : decode cX11_spelt 22 = .ok (.lor, 1) := by decide +kernel
theorem dX11_spelt_23 : decode cX11_spelt 23 = .ok (.iload 4, 2) := by decide +kernel
theorem dX11_spelt_25 : decode cX11_spelt 25 = .ok (.iconst 5, 1) := by decide +kernel
theorem dX11_spelt_26 : decode cX11_spelt 26 = .ok (.ishl, 1) := by decide +kernel
theorem dX11_spelt_27 : decode cX11_spelt 27 = .ok (.i2l, 1) := by decide +kernel
theorem dX11_spelt_28 : decode cX11_spelt 28 = .ok (.lor, 1) := by decide +kernel
theorem dX11_spelt_29 : decode cX11_spelt 29 = .ok (.iload 5, 2) := by decide +kernel
theorem dX11_spelt_31 : decode cX11_spelt 31 = .ok (.i2l, 1) := by decide +kernel
theorem dX11_spelt_32 : decode cX11_spelt 32 = .ok (.lor, 1) := by decide +kernel
theorem dX11_spelt_33 : decode cX11_spelt 33 = .ok (.lreturn, 1) := by decide +kernel
def X11_spelt (σ : Mem) (l0 : Int) (l1 : Int) (l2 : Int) (l3 : Int) (l4 : Int) (l5 : Int) : Option (Int) :=
  some (lro (lro (lro (lro (lro (lsl (w32 l0) 25) (w32 (isl l1 20))) (w32 (isl l2 15))) (w32 (isl l3 10))) (w32 (isl l4 5))) (w32 l5))
def S_X11_spelt_0 (fn : Int → Int → Int → Int → Int → Int → Option (Int)) (p : Program) (l : Launch) (e : Env) (R : Room) (s : State) (m : MethodId) (args : Array Value) (below : List Frame) (meth : Method) (c : Code) (G : GT) (σ : Mem) (res : Int) : Prop := ∀ (H : Heap) (locs : List Loc) (ls : Array Slot) (l0 : Int) (l1 : Int) (l2 : Int) (l3 : Int) (l4 : Int) (l5 : Int), PW G σ H → va_S (AA G) s.heap H locs → fn l0 l1 l2 l3 l4 l5 = some res → lv_has ls 6 [(0, .int (i32 l0)), (1, .int (i32 l1)), (2, .int (i32 l2)), (3, .int (i32 l3)), (4, .int (i32 l4)), (5, .int (i32 l5))] → W p l e R s m args below meth c H locs 0 0 (MQ below (QM G (some (.long (i64 res))) σ) args s 0 0 (AA G)) (F0 m 0 ls [])
set_option maxHeartbeats 4000000 in
theorem a_X11_spelt_0 {p : Program} {l : Launch} {e : Env} {R : Room} {s : State} {m : MethodId} {args : Array Value} {below : List Frame} {meth : Method} {c : Code} {G : GT} {σ : Mem} {res : Int} (X : CX p R s m args meth c cX11_spelt 6 RX11 (some FieldType.long) 1 60 G) : S_X11_spelt_0 (X11_spelt σ) p l e R s m args below meth c G σ res := by
  intro H locs ls l0 l1 l2 l3 l4 l5 hP hS hf hl
  unfold X11_spelt at hf
  refine lv_iload_n X.1 X.2.1 dX11_spelt_0 rfl (lv_at hl 0 rfl) ?_
  refine r_i2l X dX11_spelt_1 ?_
  refine r_bipush X 25 (by decide) dX11_spelt_2 ?_
  refine r_lshl X dX11_spelt_4 ?_
  refine lv_iload_n X.1 X.2.1 dX11_spelt_5 rfl (lv_at hl 1 rfl) ?_
  refine r_bipush X 20 (by decide) dX11_spelt_6 ?_
  refine r_ishl X dX11_spelt_8 ?_
  refine r_i2l X dX11_spelt_9 ?_
  refine r_lor X dX11_spelt_10 ?_
  refine lv_iload_n X.1 X.2.1 dX11_spelt_11 rfl (lv_at hl 2 rfl) ?_
  refine r_bipush X 15 (by decide) dX11_spelt_12 ?_
  refine r_ishl X dX11_spelt_14 ?_
  refine r_i2l X dX11_spelt_15 ?_
  refine r_lor X dX11_spelt_16 ?_
  refine lv_iload_n X.1 X.2.1 dX11_spelt_17 rfl (lv_at hl 3 rfl) ?_
  refine r_bipush X 10 (by decide) dX11_spelt_18 ?_
  refine r_ishl X dX11_spelt_20 ?_
  refine r_i2l X dX11_spelt_21 ?_
  refine r_lor X dX11_spelt_22 ?_
  refine lv_iload X.1 X.2.1 dX11_spelt_23 (lv_at hl 4 rfl) ?_
  refine r_iconst X 5 dX11_spelt_25 ?_
  refine r_ishl X dX11_spelt_26 ?_
  refine r_i2l X dX11_spelt_27 ?_
  refine r_lor X dX11_spelt_28 ?_
  refine lv_iload X.1 X.2.1 dX11_spelt_29 (lv_at hl 5 rfl) ?_
  refine r_i2l X dX11_spelt_31 ?_
  refine r_lor X dX11_spelt_32 ?_
  cases so_inv hf
  exact r_lret X hP hS dX11_spelt_33
set_option maxHeartbeats 4000000 in
theorem c_X11_spelt {l : Launch} {G : GT} {σ : Mem} {res : Int} {l0 : Int} {l1 : Int} {l2 : Int} {l3 : Int} {l4 : Int} {l5 : Int} (hf : X11_spelt σ l0 l1 l2 l3 l4 l5 = some res) : CT l yX11_spelt cX11_spelt 6 (some FieldType.long) 1 60 G [.int (i32 l0), .int (i32 l1), .int (i32 l2), .int (i32 l3), .int (i32 l4), .int (i32 l5)] σ σ (some (.long (i64 res))) := by
  refine CT.mk (own := RX11) (by decide) rfl (Nat.le_of_ble_eq_true rfl) ?_
  intro p e s m below meth c ls X hP hS hl
  have hl : lv_has ls 6 [(0, .int (i32 l0)), (1, .int (i32 l1)), (2, .int (i32 l2)), (3, .int (i32 l3)), (4, .int (i32 l4)), (5, .int (i32 l5))] := hl
  exact a_X11_spelt_0 X  s.heap [] ls l0 l1 l2 l3 l4 l5 hP hS hf hl
theorem k_X11_spelt {p : Program} {l : Launch} {e : Env} {R : Room} {s : State} {m : MethodId} {args : Array Value} {below : List Frame} {meth : Method} {c : Code} {H : Heap} {locs : List Loc} {Q : State → Prop} {cc : ByteArray} {nL : Nat} {own : String} {ret : Option FieldType} {fF fL : Nat} {G : GT} {pc idx : Nat} {ls : Array Slot} {rest : List Value} {σ : Mem} {res : Int} {l0 : Int} {l1 : Int} {l2 : Int} {l3 : Int} {l4 : Int} {l5 : Int} (X : CX p R s m args meth c cc nL own ret fF fL G) (hP : PW G σ H) (hS : va_S (AA G) s.heap H locs) (hls : ls.size = nL) (hf : X11_spelt σ l0 l1 l2 l3 l4 l5 = some res) (h1 : Cond.methodLink own idx yX11_spelt ∈ TB) (hR : 1 + 1 ≤ fF ∧ 8 + (6 + 11) + 60 ≤ fL) (hW : (rest.map fun v => v.category).sum ≤ 8) (hd : decode cc pc = .ok (.invokestatic idx, 3)) (kk : ∀ (H1 : Heap) (locs1 : List Loc), PW G σ H1 → va_S (AA G) s.heap H1 locs1 → W p l e R s m args below meth c H1 locs1 0 0 Q (F0 m (pc + 3) ls (.long (i64 res) :: rest))) : W p l e R s m args below meth c H locs 0 0 Q (F0 m pc ls (.int (i32 l5) :: .int (i32 l4) :: .int (i32 l3) :: .int (i32 l2) :: .int (i32 l1) :: .int (i32 l0) :: rest)) := r_callS (n := 6) X hP hS hls (c_X11_spelt hf) h1 (tb t_1260 rfl) (tb t_87 rfl) (tb t_1261 rfl) (by decide +kernel) hR rfl rfl hW hd kk
theorem kn_X11_spelt {p : Program} {l : Launch} {e : Env} {R : Room} {s : State} {m : MethodId} {args : Array Value} {below : List Frame} {meth : Method} {c : Code} {H : Heap} {locs : List Loc} {Q : State → Prop} {cc : ByteArray} {nL : Nat} {own : String} {ret : Option FieldType} {fF fL : Nat} {G : GT} {pc idx : Nat} {ls : Array Slot} {rest : List Value} {σ : Mem} {res : Int} {l0 : Int} {l1 : Int} {l2 : Int} {l3 : Int} {l4 : Int} {l5 : Int} (X : CX p R s m args meth c cc nL own ret fF fL G) (hP : PW G σ H) (hS : va_S (AA G) s.heap H locs) (hls : ls.size = nL) (hf : X11_spelt σ l0 l1 l2 l3 l4 l5 = some res) {host : String} (h1 : Cond.methodLinkNest own idx yX11_spelt host ∈ NWl) (hR : 1 + 1 ≤ fF ∧ 8 + (6 + 11) + 60 ≤ fL) (hW : (rest.map fun v => v.category).sum ≤ 8) (hd : decode cc pc = .ok (.invokestatic idx, 3)) (kk : ∀ (H1 : Heap) (locs1 : List Loc), PW G σ H1 → va_S (AA G) s.heap H1 locs1 → W p l e R s m args below meth c H1 locs1 0 0 Q (F0 m (pc + 3) ls (.long (i64 res) :: rest))) : W p l e R s m args below meth c H locs 0 0 Q (F0 m pc ls (.int (i32 l5) :: .int (i32 l4) :: .int (i32 l3) :: .int (i32 l2) :: .int (i32 l1) :: .int (i32 l0) :: rest)) := r_callSN (n := 6) X hP hS hls (c_X11_spelt hf) h1 (tb t_1260 rfl) (tb t_87 rfl) (tb t_1261 rfl) (by decide +kernel) hR rfl rfl hW hd kk
/-! X11_wordOf -/
theorem dX11_wordOf_0 : decode cX11_wordOf 0 = .ok (.lload_n 0, 1) := by decide +kernel
theorem dX11_wordOf_1 : decode cX11_wordOf 1 = .ok (.iconst 0, 1) := by decide +kernel
theorem dX11_wordOf_2 : decode cX11_wordOf 2 = .ok (.iconst 0, 1) := by decide +kernel
theorem dX11_wordOf_3 : decode cX11_wordOf 3 = .ok (.iconst 2, 1) := by decide +kernel
theorem dX11_wordOf_4 : decode cX11_wordOf 4 = .ok (.bipush 21, 2) := by decide +kernel
theorem dX11_wordOf_6 : decode cX11_wordOf 6 = .ok (.bipush 19, 2) := by decide +kernel
theorem dX11_wordOf_8 : decode cX11_wordOf 8 = .ok (.bipush 25, 2) := by decide +kernel
theorem dX11_wordOf_10 : decode cX11_wordOf 10 = .ok (.invokestatic 149, 3) := by decide +kernel
theorem dX11_wordOf_13 : decode cX11_wordOf 13 = .ok (.lcmp, 1) := by decide +kernel
theorem dX11_wordOf_14 : decode cX11_wordOf 14 = .ok (.ifCond .ne 5, 3) := by decide +kernel
theorem dX11_wordOf_17 : decode cX11_wordOf 17 = .ok (.iconst 0, 1) := by decide +kernel
theorem dX11_wordOf_18 : decode cX11_wordOf 18 = .ok (.ireturn, 1) := by decide +kernel
theorem dX11_wordOf_19 : decode cX11_wordOf 19 = .ok (.lload_n 0, 1) := by decide +kernel
theorem dX11_wordOf_20 : decode cX11_wordOf 20 = .ok (.iconst 0, 1) := by decide +kernel
theorem dX11_wordOf_21 : decode cX11_wordOf 21 = .ok (.iconst 0, 1) := by decide +kernel
theorem dX11_wordOf_22 : decode cX11_wordOf 22 = .ok (.bipush 8, 2) := by decide +kernel
theorem dX11_wordOf_24 : decode cX11_wordOf 24 = .ok (.iconst 1, 1) := by decide +kernel
theorem dX11_wordOf_25 : decode cX11_wordOf 25 = .ok (.bipush 12, 2) := by decide +kernel
theorem dX11_wordOf_27 : decode cX11_wordOf 27 = .ok (.bipush 6, 2) := by decide +kernel
theorem dX11_wordOf_29 : decode cX11_wordOf 29 = .ok (.invokestatic 149, 3) := by decide +kernel
theorem dX11_wordOf_32 : decode cX11_wordOf 32 = .ok (.lcmp, 1) := by decide +kernel
theorem dX11_wordOf_33 : decode cX11_wordOf 33 = .ok (.ifCond .ne 5, 3) := by decide +kernel
theorem dX11_wordOf_36 : decode cX11_wordOf 36 = .ok (.iconst 1, 1) := by decide +kernel
theorem dX11_wordOf_37 : decode cX11_wordOf 37 = .ok (.ireturn, 1) := by decide +kernel
theorem dX11_wordOf_38 : decode cX11_wordOf 38 = .ok (.lload_n 0, 1) := by decide +kernel
theorem dX11_wordOf_39 : decode cX11_wordOf 39 = .ok (.iconst 0, 1) := by decide +kernel
theorem dX11_wordOf_40 : decode cX11_wordOf 40 = .ok (.iconst 0, 1) := by decide +kernel
theorem dX11_wordOf_41 : decode cX11_wordOf 41 = .ok (.bipush 6, 2) := by decide +kernel
theorem dX11_wordOf_43 : decode cX11_wordOf 43 = .ok (.bipush 18, 2) := by decide +kernel
theorem dX11_wordOf_45 : decode cX11_wordOf 45 = .ok (.iconst 5, 1) := by decide +kernel
theorem dX11_wordOf_46 : decode cX11_wordOf 46 = .ok (.iconst 5, 1) := by decide +kernel
theorem dX11_wordOf_47 : decode cX11_wordOf 47 = .ok (.invokestatic 149, 3) := by decide +kernel
theorem dX11_wordOf_50 : decode cX11_wordOf 50 = .ok (.lcmp, 1) := by decide +kernel
theorem dX11_wordOf_51 : decode cX11_wordOf 51 = .ok (.ifCond .ne 5, 3) := by decide +kernel
theorem dX11_wordOf_54 : decode cX11_wordOf 54 = .ok (.iconst 2, 1) := by decide +kernel
theorem dX11_wordOf_55 : decode cX11_wordOf 55 = .ok (.ireturn, 1) := by decide +kernel
theorem dX11_wordOf_56 : decode cX11_wordOf 56 = .ok (.lload_n 0, 1) := by decide +kernel
theorem dX11_wordOf_57 : decode cX11_wordOf 57 = .ok (.iconst 0, 1) := by decide +kernel
theorem dX11_wordOf_58 : decode cX11_wordOf 58 = .ok (.iconst 2, 1) := by decide +kernel
theorem dX11_wordOf_59 : decode cX11_wordOf 59 = .ok (.iconst 5, 1) := by decide +kernel
theorem dX11_wordOf_60 : decode cX11_wordOf 60 = .ok (.iconst 1, 1) := by decide +kernel
theorem dX11_wordOf_61 : decode cX11_wordOf 61 = .ok (.bipush 20, 2) := by decide +kernel
theorem dX11_wordOf_63 : decode cX11_wordOf 63 = .ok (.bipush 19, 2) := by decide +kernel
theorem dX11_wordOf_65 : decode cX11_wordOf 65 = .ok (.invokestatic 149, 3) := by decide +kernel
theorem dX11_wordOf_68 : decode cX11_wordOf 68 = .ok (.lcmp, 1) := by decide +kernel
theorem dX11_wordOf_69 : decode cX11_wordOf 69 = .ok (.ifCond .ne 5, 3) := by decide +kernel
theorem dX11_wordOf_72 : decode cX11_wordOf 72 = .ok (.iconst 3, 1) := by decide +kernel
theorem dX11_wordOf_73 : decode cX11_wordOf 73 = .ok (.ireturn, 1) := by decide +kernel
theorem dX11_wordOf_74 : decode cX11_wordOf 74 = .ok (.lload_n 0, 1) := by decide +kernel
theorem dX11_wordOf_75 : decode cX11_wordOf 75 = .ok (.iconst 0, 1) := by decide +kernel
theorem dX11_wordOf_76 : decode cX11_wordOf 76 = .ok (.iconst 0, 1) := by decide +kernel
theorem dX11_wordOf_77 : decode cX11_wordOf 77 = .ok (.bipush 11, 2) := by decide +kernel
theorem dX11_wordOf_79 : decode cX11_wordOf 79 = .ok (.iconst 5, 1) := by decide +kernel
theorem dX11_wordOf_80 : decode cX11_wordOf 80 = .ok (.iconst 5, 1) := by decide +kernel
theorem dX11_wordOf_81 : decode cX11_wordOf 81 = .ok (.bipush 16, 2) := by decide +kernel
theorem dX11_wordOf_83 : decode cX11_wordOf 83 = .ok (.invokestatic 149, 3) := by decide +kernel
theorem dX11_wordOf_86 : decode cX11_wordOf 86 = .ok (.lcmp, 1) := by decide +kernel
theorem dX11_wordOf_87 : decode cX11_wordOf 87 = .ok (.ifCond .ne 5, 3) := by decide +kernel
theorem dX11_wordOf_90 : decode cX11_wordOf 90 = .ok (.iconst 4, 1) := by decide +kernel
theorem dX11_wordOf_91 : decode cX11_wordOf 91 = .ok (.ireturn, 1) := by decide +kernel
theorem dX11_wordOf_92 : decode cX11_wordOf 92 = .ok (.lload_n 0, 1) := by decide +kernel
theorem dX11_wordOf_93 : decode cX11_wordOf 93 = .ok (.bipush 12, 2) := by decide +kernel
theorem dX11_wordOf_95 : decode cX11_wordOf 95 = .ok (.iconst 5, 1) := by decide +kernel
theorem dX11_wordOf_96 : decode cX11_wordOf 96 = .ok (.bipush 20, 2) := by decide +kernel
theorem dX11_wordOf_98 : decode cX11_wordOf 98 = .ok (.bipush 20, 2) := by decide +kernel
theorem dX11_wordOf_100 : decode cX11_wordOf 100 = .ok (.iconst 5, 1) := by decide +kernel
theorem dX11_wordOf_101 : decode cX11_wordOf 101 = .ok (.bipush 18, 2) := by decide +kernel
theorem dX11_wordOf_103 : decode cX11_wordOf 103 = .ok (.invokestatic 149, 3) := by decide +kernel
theorem dX11_wordOf_106 : decode cX11_wordOf 106 = .ok (.lcmp, 1) := by decide +kernel
theorem dX11_wordOf_107 : decode cX11_wordOf 107 = .ok (.ifCond .ne 5, 3) := by decide +kernel
theorem dX11_wordOf_110 : decode cX11_wordOf 110 = .ok (.iconst 5, 1) := by decide +kernel
theorem dX11_wordOf_111 : decode cX11_wordOf 111 = .ok (.ireturn, 1) := by decide +kernel
theorem dX11_wordOf_112 : decode cX11_wordOf 112 = .ok (.lload_n 0, 1) := by decide +kernel
theorem dX11_wordOf_113 : decode cX11_wordOf 113 = .ok (.iconst 0, 1) := by decide +kernel
theorem dX11_wordOf_114 : decode cX11_wordOf 114 = .ok (.iconst 0, 1) := by decide +kernel
theorem dX11_wordOf_115 : decode cX11_wordOf 115 = .ok (.bipush 23, 2) := by decide +kernel
theorem dX11_wordOf_117 : decode cX11_wordOf 117 = .ok (.bipush 9, 2) := by decide +kernel
theorem dX11_wordOf_119 : decode cX11_wordOf 119 = .ok (.bipush 19, 2) := by decide +kernel
theorem dX11_wordOf_121 : decode cX11_wordOf 121 = .ok (.bipush 8, 2) := by decide +kernel
theorem dX11_wordOf_123 : decode cX11_wordOf 123 = .ok (.invokestatic 149, 3) := by decide +kernel
theorem dX11_wordOf_126 : decode cX11_wordOf 126 = .ok (.lcmp, 1) := by decide +kernel
theorem dX11_wordOf_127 : decode cX11_wordOf 127 = .ok (.ifCond .ne 8, 3) := by decide +kernel
theorem dX11_wordOf_130 : decode cX11_wordOf 130 = .ok (.bipush 6, 2) := by decide +kernel
theorem dX11_wordOf_132 : decode cX11_wordOf 132 = .ok (.goto 4, 3) := by decide +kernel
theorem dX11_wordOf_135 : decode cX11_wordOf 135 = .ok (.iconst (-1), 1) := by decide +kernel
theorem dX11_wordOf_136 : decode cX11_wordOf 136 = .ok (.ireturn, 1) := by decide +kernel
def X11_wordOf (σ : Mem) (l0 : Int) : Option (Int) :=
  bd (X11_spelt σ 0 0 2 21 19 25) fun r1 =>
  if w64 l0 ≠ w64 r1 then
    bd (X11_spelt σ 0 0 8 1 12 6) fun r2 =>
    if w64 l0 ≠ w64 r2 then
      bd (X11_spelt σ 0 0 6 18 5 5) fun r3 =>
      if w64 l0 ≠ w64 r3 then
        bd (X11_spelt σ 0 2 5 1 20 19) fun r4 =>
        if w64 l0 ≠ w64 r4 then
          bd (X11_spelt σ 0 0 11 5 5 16) fun r5 =>
          if w64 l0 ≠ w64 r5 then
            bd (X11_spelt σ 12 5 20 20 5 18) fun r6 =>
            if w64 l0 ≠ w64 r6 then
              bd (X11_spelt σ 0 0 23 9 19 8) fun r7 =>
              if w64 l0 ≠ w64 r7 then
                some (-1)
              else
              some 6
            else
            some 5
          else
          some 4
        else
        some 3
      else
      some 2
    else
    some 1
  else
  some 0
def S_X11_wordOf_0 (fn : Int → Option (Int)) (p : Program) (l : Launch) (e : Env) (R : Room) (s : State) (m : MethodId) (args : Array Value) (below : List Frame) (meth : Method) (c : Code) (G : GT) (σ : Mem) (res : Int) : Prop := ∀ (H : Heap) (locs : List Loc) (ls : Array Slot) (l0 : Int), PW G σ H → va_S (AA G) s.heap H locs → fn l0 = some res → lv_has ls 2 [(0, .long (i64 l0))] → W p l e R s m args below meth c H locs 0 0 (MQ below (QM G (some (.int (i32 res))) σ) args s 0 0 (AA G)) (F0 m 0 ls [])
set_option maxHeartbeats 4000000 in
theorem a_X11_wordOf_0 {p : Program} {l : Launch} {e : Env} {R : Room} {s : State} {m : MethodId} {args : Array Value} {below : List Frame} {meth : Method} {c : Code} {G : GT} {σ : Mem} {res : Int} (X : CX p R s m args meth c cX11_wordOf 2 RX11 (some FieldType.int) 2 85 G) : S_X11_wordOf_0 (X11_wordOf σ) p l e R s m args below meth c G σ res := by
  intro H locs ls l0 hP hS hf hl
  unfold X11_wordOf at hf
  refine lv_lload_n X.1 X.2.1 dX11_wordOf_0 rfl (lv_at hl 0 rfl) ?_
  refine r_iconst X 0 dX11_wordOf_1 ?_
  refine r_iconst X 0 dX11_wordOf_2 ?_
  refine r_iconst X 2 dX11_wordOf_3 ?_
  refine r_bipush X 21 (by decide) dX11_wordOf_4 ?_
  refine r_bipush X 19 (by decide) dX11_wordOf_6 ?_
  refine r_bipush X 25 (by decide) dX11_wordOf_8 ?_
  obtain ⟨r1, hr1, hf⟩ := bd_inv hf
  refine k_X11_spelt X hP hS hl.1  hr1 (tb t_1259 rfl) (by decide) (Nat.le_of_ble_eq_true rfl) dX11_wordOf_10 (fun H locs hP hS => ?_)
  refine r_lcmp_ne (tgt := 19) X dX11_wordOf_13 dX11_wordOf_14 (by decide) (fun q => ?_) (fun q => ?_)
  · replace hf := it_inv q hf
    refine lv_lload_n X.1 X.2.1 dX11_wordOf_19 rfl (lv_at hl 0 rfl) ?_
    refine r_iconst X 0 dX11_wordOf_20 ?_
    refine r_iconst X 0 dX11_wordOf_21 ?_
    refine r_bipush X 8 (by decide) dX11_wordOf_22 ?_
    refine r_iconst X 1 dX11_wordOf_24 ?_
    refine r_bipush X 12 (by decide) dX11_wordOf_25 ?_
    refine r_bipush X 6 (by decide) dX11_wordOf_27 ?_
    obtain ⟨r2, hr2, hf⟩ := bd_inv hf
    refine k_X11_spelt X hP hS hl.1  hr2 (tb t_1259 rfl) (by decide) (Nat.le_of_ble_eq_true rfl) dX11_wordOf_29 (fun H locs hP hS => ?_)
    refine r_lcmp_ne (tgt := 38) X dX11_wordOf_32 dX11_wordOf_33 (by decide) (fun q => ?_) (fun q => ?_)
    · replace hf := it_inv q hf
      refine lv_lload_n X.1 X.2.1 dX11_wordOf_38 rfl (lv_at hl 0 rfl) ?_
      refine r_iconst X 0 dX11_wordOf_39 ?_
      refine r_iconst X 0 dX11_wordOf_40 ?_
      refine r_bipush X 6 (by decide) dX11_wordOf_41 ?_
      refine r_bipush X 18 (by decide) dX11_wordOf_43 ?_
      refine r_iconst X 5 dX11_wordOf_45 ?_
      refine r_iconst X 5 dX11_wordOf_46 ?_
      obtain ⟨r3, hr3, hf⟩ := bd_inv hf
      refine k_X11_spelt X hP hS hl.1  hr3 (tb t_1259 rfl) (by decide) (Nat.le_of_ble_eq_true rfl) dX11_wordOf_47 (fun H locs hP hS => ?_)
      refine r_lcmp_ne (tgt := 56) X dX11_wordOf_50 dX11_wordOf_51 (by decide) (fun q => ?_) (fun q => ?_)
      · replace hf := it_inv q hf
        refine lv_lload_n X.1 X.2.1 dX11_wordOf_56 rfl (lv_at hl 0 rfl) ?_
        refine r_iconst X 0 dX11_wordOf_57 ?_
        refine r_iconst X 2 dX11_wordOf_58 ?_
        refine r_iconst X 5 dX11_wordOf_59 ?_
        refine r_iconst X 1 dX11_wordOf_60 ?_
        refine r_bipush X 20 (by decide) dX11_wordOf_61 ?_
        refine r_bipush X 19 (by decide) dX11_wordOf_63 ?_
        obtain ⟨r4, hr4, hf⟩ := bd_inv hf
        refine k_X11_spelt X hP hS hl.1  hr4 (tb t_1259 rfl) (by decide) (Nat.le_of_ble_eq_true rfl) dX11_wordOf_65 (fun H locs hP hS => ?_)
        refine r_lcmp_ne (tgt := 74) X dX11_wordOf_68 dX11_wordOf_69 (by decide) (fun q => ?_) (fun q => ?_)
        · replace hf := it_inv q hf
          refine lv_lload_n X.1 X.2.1 dX11_wordOf_74 rfl (lv_at hl 0 rfl) ?_
          refine r_iconst X 0 dX11_wordOf_75 ?_
          refine r_iconst X 0 dX11_wordOf_76 ?_
          refine r_bipush X 11 (by decide) dX11_wordOf_77 ?_
          refine r_iconst X 5 dX11_wordOf_79 ?_
          refine r_iconst X 5 dX11_wordOf_80 ?_
          refine r_bipush X 16 (by decide) dX11_wordOf_81 ?_
          obtain ⟨r5, hr5, hf⟩ := bd_inv hf
          refine k_X11_spelt X hP hS hl.1  hr5 (tb t_1259 rfl) (by decide) (Nat.le_of_ble_eq_true rfl) dX11_wordOf_83 (fun H locs hP hS => ?_)
          refine r_lcmp_ne (tgt := 92) X dX11_wordOf_86 dX11_wordOf_87 (by decide) (fun q => ?_) (fun q => ?_)
          · replace hf := it_inv q hf
            refine lv_lload_n X.1 X.2.1 dX11_wordOf_92 rfl (lv_at hl 0 rfl) ?_
            refine r_bipush X 12 (by decide) dX11_wordOf_93 ?_
            refine r_iconst X 5 dX11_wordOf_95 ?_
            refine r_bipush X 20 (by decide) dX11_wordOf_96 ?_
            refine r_bipush X 20 (by decide) dX11_wordOf_98 ?_
            refine r_iconst X 5 dX11_wordOf_100 ?_
            refine r_bipush X 18 (by decide) dX11_wordOf_101 ?_
            obtain ⟨r6, hr6, hf⟩ := bd_inv hf
            refine k_X11_spelt X hP hS hl.1  hr6 (tb t_1259 rfl) (by decide) (Nat.le_of_ble_eq_true rfl) dX11_wordOf_103 (fun H locs hP hS => ?_)
            refine r_lcmp_ne (tgt := 112) X dX11_wordOf_106 dX11_wordOf_107 (by decide) (fun q => ?_) (fun q => ?_)
            · replace hf := it_inv q hf
              refine lv_lload_n X.1 X.2.1 dX11_wordOf_112 rfl (lv_at hl 0 rfl) ?_
              refine r_iconst X 0 dX11_wordOf_113 ?_
              refine r_iconst X 0 dX11_wordOf_114 ?_
              refine r_bipush X 23 (by decide) dX11_wordOf_115 ?_
              refine r_bipush X 9 (by decide) dX11_wordOf_117 ?_
              refine r_bipush X 19 (by decide) dX11_wordOf_119 ?_
              refine r_bipush X 8 (by decide) dX11_wordOf_121 ?_
              obtain ⟨r7, hr7, hf⟩ := bd_inv hf
              refine k_X11_spelt X hP hS hl.1  hr7 (tb t_1259 rfl) (by decide) (Nat.le_of_ble_eq_true rfl) dX11_wordOf_123 (fun H locs hP hS => ?_)
              refine r_lcmp_ne (tgt := 135) X dX11_wordOf_126 dX11_wordOf_127 (by decide) (fun q => ?_) (fun q => ?_)
              · replace hf := it_inv q hf
                refine r_iconst X (-1) dX11_wordOf_135 ?_
                cases so_inv hf
                exact r_iret X hP hS dX11_wordOf_136
              · replace hf := ie_inv q hf
                refine r_bipush X 6 (by decide) dX11_wordOf_130 ?_
                refine lv_goto (tgt := 136) X.1 X.2.1 dX11_wordOf_132 (by decide) ?_
                cases so_inv hf
                exact r_iret X hP hS dX11_wordOf_136
            · replace hf := ie_inv q hf
              refine r_iconst X 5 dX11_wordOf_110 ?_
              cases so_inv hf
              exact r_iret X hP hS dX11_wordOf_111
          · replace hf := ie_inv q hf
            refine r_iconst X 4 dX11_wordOf_90 ?_
            cases so_inv hf
            exact r_iret X hP hS dX11_wordOf_91
        · replace hf := ie_inv q hf
          refine r_iconst X 3 dX11_wordOf_72 ?_
          cases so_inv hf
          exact r_iret X hP hS dX11_wordOf_73
      · replace hf := ie_inv q hf
        refine r_iconst X 2 dX11_wordOf_54 ?_
        cases so_inv hf
        exact r_iret X hP hS dX11_wordOf_55
    · replace hf := ie_inv q hf
      refine r_iconst X 1 dX11_wordOf_36 ?_
      cases so_inv hf
      exact r_iret X hP hS dX11_wordOf_37
  · replace hf := ie_inv q hf
    refine r_iconst X 0 dX11_wordOf_17 ?_
    cases so_inv hf
    exact r_iret X hP hS dX11_wordOf_18
set_option maxHeartbeats 4000000 in
theorem c_X11_wordOf {l : Launch} {G : GT} {σ : Mem} {res : Int} {l0 : Int} (hf : X11_wordOf σ l0 = some res) : CT l yX11_wordOf cX11_wordOf 2 (some FieldType.int) 2 85 G [.long (i64 l0)] σ σ (some (.int (i32 res))) := by
  refine CT.mk (own := RX11) (by decide) rfl (Nat.le_of_ble_eq_true rfl) ?_
  intro p e s m below meth c ls X hP hS hl
  have hl : lv_has ls 2 [(0, .long (i64 l0))] := hl
  exact a_X11_wordOf_0 X  s.heap [] ls l0 hP hS hf hl
theorem k_X11_wordOf {p : Program} {l : Launch} {e : Env} {R : Room} {s : State} {m : MethodId} {args : Array Value} {below : List Frame} {meth : Method} {c : Code} {H : Heap} {locs : List Loc} {Q : State → Prop} {cc : ByteArray} {nL : Nat} {own : String} {ret : Option FieldType} {fF fL : Nat} {G : GT} {pc idx : Nat} {ls : Array Slot} {rest : List Value} {σ : Mem} {res : Int} {l0 : Int} (X : CX p R s m args meth c cc nL own ret fF fL G) (hP : PW G σ H) (hS : va_S (AA G) s.heap H locs) (hls : ls.size = nL) (hf : X11_wordOf σ l0 = some res) (h1 : Cond.methodLink own idx yX11_wordOf ∈ TB) (hR : 2 + 1 ≤ fF ∧ 8 + (2 + 11) + 85 ≤ fL) (hW : (rest.map fun v => v.category).sum ≤ 8) (hd : decode cc pc = .ok (.invokestatic idx, 3)) (kk : ∀ (H1 : Heap) (locs1 : List Loc), PW G σ H1 → va_S (AA G) s.heap H1 locs1 → W p l e R s m args below meth c H1 locs1 0 0 Q (F0 m (pc + 3) ls (.int (i32 res) :: rest))) : W p l e R s m args below meth c H locs 0 0 Q (F0 m pc ls (.long (i64 l0) :: rest)) := r_callS (n := 1) X hP hS hls (c_X11_wordOf hf) h1 (tb t_1257 rfl) (tb t_87 rfl) (tb t_1258 rfl) (by decide +kernel) hR rfl rfl hW hd kk
theorem kn_X11_wordOf {p : Program} {l : Launch} {e : Env} {R : Room} {s : State} {m : MethodId} {args : Array Value} {below : List Frame} {meth : Method} {c : Code} {H : Heap} {locs : List Loc} {Q : State → Prop} {cc : ByteArray} {nL : Nat} {own : String} {ret : Option FieldType} {fF fL : Nat} {G : GT} {pc idx : Nat} {ls : Array Slot} {rest : List Value} {σ : Mem} {res : Int} {l0 : Int} (X : CX p R s m args meth c cc nL own ret fF fL G) (hP : PW G σ H) (hS : va_S (AA G) s.heap H locs) (hls : ls.size = nL) (hf : X11_wordOf σ l0 = some res) {host : String} (h1 : Cond.methodLinkNest own idx yX11_wordOf host ∈ NWl) (hR : 2 + 1 ≤ fF ∧ 8 + (2 + 11) + 85 ≤ fL) (hW : (rest.map fun v => v.category).sum ≤ 8) (hd : decode cc pc = .ok (.invokestatic idx, 3)) (kk : ∀ (H1 : Heap) (locs1 : List Loc), PW G σ H1 → va_S (AA G) s.heap H1 locs1 → W p l e R s m args below meth c H1 locs1 0 0 Q (F0 m (pc + 3) ls (.int (i32 res) :: rest))) : W p l e R s m args below meth c H locs 0 0 Q (F0 m pc ls (.long (i64 l0) :: rest)) := r_callSN (n := 1) X hP hS hls (c_X11_wordOf hf) h1 (tb t_1257 rfl) (tb t_87 rfl) (tb t_1258 rfl) (by decide +kernel) hR rfl rfl hW hd kk
/-! X11_step -/
theorem dX11_step_0 : decode cX11_step 0 = .ok (.aload_n 0, 1) := by decide +kernel
theorem dX11_step_1 : decode cX11_step 1 = .ok (.aload_n 0, 1) := by decide +kernel
theorem dX11_step_2 : decode cX11_step 2 = .ok (.getfield 153, 3) := by decide +kernel
theorem dX11_step_5 : decode cX11_step 5 = .ok (.putfield 156, 3) := by decide +kernel
theorem dX11_step_8 : decode cX11_step 8 = .ok (.aload_n 0, 1) := by decide +kernel
theorem dX11_step_9 : decode cX11_step 9 = .ok (.getfield 156, 3) := by decide +kernel
theorem dX11_step_12 : decode cX11_step 12 = .ok (.aload_n 0, 1) := by decide +kernel
theorem dX11_step_13 : decode cX11_step 13 = .ok (.getfield 137, 3) := by decide +kernel
theorem dX11_step_16 : decode cX11_step 16 = .ok (.if_icmp .ge 30, 3) := by decide +kernel
theorem dX11_step_19 : decode cX11_step 19 = .ok (.aload_n 0, 1) := by decide +kernel
theorem dX11_step_20 : decode cX11_step 20 = .ok (.getfield 19, 3) := by decide +kernel
theorem dX11_step_23 : decode cX11_step 23 = .ok (.aload_n 0, 1) := by decide +kernel
theorem dX11_step_24 : decode cX11_step 24 = .ok (.getfield 156, 3) := by decide +kernel
theorem dX11_step_27 : decode cX11_step 27 = .ok (.iaload, 1) := by decide +kernel
theorem dX11_step_28 : decode cX11_step 28 = .ok (.bipush 32, 2) := by decide +kernel
theorem dX11_step_30 : decode cX11_step 30 = .ok (.if_icmp .ne 16, 3) := by decide +kernel
theorem dX11_step_33 : decode cX11_step 33 = .ok (.aload_n 0, 1) := by decide +kernel
theorem dX11_step_34 : decode cX11_step 34 = .ok (.dup, 1) := by decide +kernel
theorem dX11_step_35 : decode cX11_step 35 = .ok (.getfield 156, 3) := by decide +kernel
theorem dX11_step_38 : decode cX11_step 38 = .ok (.iconst 1, 1) := by decide +kernel
theorem dX11_step_39 : decode cX11_step 39 = .ok (.iadd, 1) := by decide +kernel
theorem dX11_step_40 : decode cX11_step 40 = .ok (.putfield 156, 3) := by decide +kernel
theorem dX11_step_43 : decode cX11_step 43 = .ok (.goto (-35), 3) := by decide +kernel
theorem dX11_step_46 : decode cX11_step 46 = .ok (.aload_n 0, 1) := by decide +kernel
theorem dX11_step_47 : decode cX11_step 47 = .ok (.aload_n 0, 1) := by decide +kernel
theorem dX11_step_48 : decode cX11_step 48 = .ok (.getfield 156, 3) := by decide +kernel
theorem dX11_step_51 : decode cX11_step 51 = .ok (.putfield 153, 3) := by decide +kernel
theorem dX11_step_54 : decode cX11_step 54 = .ok (.aload_n 0, 1) := by decide +kernel
theorem dX11_step_55 : decode cX11_step 55 = .ok (.getfield 156, 3) := by decide +kernel
theorem dX11_step_58 : decode cX11_step 58 = .ok (.aload_n 0, 1) := by decide +kernel
theorem dX11_step_59 : decode cX11_step 59 = .ok (.getfield 137, 3) := by decide +kernel
theorem dX11_step_62 : decode cX11_step 62 = .ok (.if_icmp .ne 11, 3) := by decide +kernel
theorem dX11_step_65 : decode cX11_step 65 = .ok (.aload_n 0, 1) := by decide +kernel
theorem dX11_step_66 : decode cX11_step 66 = .ok (.iconst 0, 1) := by decide +kernel
theorem dX11_step_67 : decode cX11_step 67 = .ok (.putfield 159, 3) := by decide +kernel
theorem dX11_step_70 : decode cX11_step 70 = .ok (.goto 247, 3) := by decide +kernel
theorem dX11_step_73 : decode cX11_step 73 = .ok (.aload_n 0, 1) := by decide +kernel
theorem dX11_step_74 : decode cX11_step 74 = .ok (.aload_n 0, 1) := by decide +kernel
theorem dX11_step_75 : decode cX11_step 75 = .ok (.getfield 156, 3) := by decide +kernel
theorem dX11_step_78 : decode cX11_step 78 = .ok (.invokevirtual 162, 3) := by decide +kernel
theorem dX11_step_81 : decode cX11_step 81 = .ok (.ifCond .eq 99, 3) := by decide +kernel
theorem dX11_step_84 : decode cX11_step 84 = .ok (.lconst 0, 1) := by decide +kernel
theorem dX11_step_85 : decode cX11_step 85 = .ok (.lstore_n 1, 1) := by decide +kernel
theorem dX11_step_86 : decode cX11_step 86 = .ok (.aload_n 0, 1) := by decide +kernel
theorem dX11_step_87 : decode cX11_step 87 = .ok (.aload_n 0, 1) := by decide +kernel
theorem dX11_step_88 : decode cX11_step 88 = .ok (.getfield 153, 3) := by decide +kernel
theorem dX11_step_91 : decode cX11_step 91 = .ok (.invokevirtual 162, 3) := by decide +kernel
theorem dX11_step_94 : decode cX11_step 94 = .ok (.ifCond .eq 52, 3) := by decide +kernel
theorem dX11_step_97 : decode cX11_step 97 = .ok (.aload_n 0, 1) := by decide +kernel
theorem dX11_step_98 : decode cX11_step 98 = .ok (.getfield 153, 3) := by decide +kernel
theorem dX11_step_101 : decode cX11_step 101 = .ok (.aload_n 0, 1) := by decide +kernel
theorem dX11_step_102 : decode cX11_step 102 = .ok (.getfield 156, 3) := by decide +kernel
theorem dX11_step_105 : decode cX11_step 105 = .ok (.isub, 1) := by decide +kernel
theorem dX11_step_106 : decode cX11_step 106 = .ok (.bipush 7, 2) := by decide +kernel
theorem dX11_step_108 : decode cX11_step 108 = .ok (.if_icmp .ge 23, 3) := by decide +kernel
theorem dX11_step_111 : decode cX11_step 111 = .ok (.lload_n 1, 1) := by decide +kernel
theorem dX11_step_112 : decode cX11_step 112 = .ok (.iconst 5, 1) := by decide +kernel
theorem dX11_step_113 : decode cX11_step 113 = .ok (.lshl, 1) := by decide +kernel
theorem dX11_step_114 : decode cX11_step 114 = .ok (.aload_n 0, 1) := by decide +kernel
theorem dX11_step_115 : decode cX11_step 115 = .ok (.getfield 19, 3) := by decide +kernel
theorem dX11_step_118 : decode cX11_step 118 = .ok (.aload_n 0, 1) := by decide +kernel
theorem dX11_step_119 : decode cX11_step 119 = .ok (.getfield 153, 3) := by decide +kernel
theorem dX11_step_122 : decode cX11_step 122 = .ok (.iaload, 1) := by decide +kernel
theorem dX11_step_123 : decode cX11_step 123 = .ok (.bipush 96, 2) := by decide +kernel
theorem dX11_step_125 : decode cX11_step 125 = .ok (.isub, 1) := by decide +kernel
theorem dX11_step_126 : decode cX11_step 126 = .ok (.i2l, 1) := by decide +kernel
theorem dX11_step_127 : decode cX11_step 127 = .ok (.lor, 1) := by decide +kernel
theorem dX11_step_128 : decode cX11_step 128 = .ok (.goto 4, 3) := by decide +kernel
theorem dX11_step_131 : decode cX11_step 131 = .ok (.lload_n 1, 1) := by decide +kernel
theorem dX11_step_132 : decode cX11_step 132 = .ok (.lstore_n 1, 1) := by decide +kernel
theorem dX11_step_133 : decode cX11_step 133 = .ok (.aload_n 0, 1) := by decide +kernel
theorem dX11_step_134 : decode cX11_step 134 = .ok (.dup, 1) := by decide +kernel
theorem dX11_step_135 : decode cX11_step 135 = .ok (.getfield 153, 3) := by decide +kernel
theorem dX11_step_138 : decode cX11_step 138 = .ok (.iconst 1, 1) := by decide +kernel
theorem dX11_step_139 : decode cX11_step 139 = .ok (.iadd, 1) := by decide +kernel
theorem dX11_step_140 : decode cX11_step 140 = .ok (.putfield 153, 3) := by decide +kernel
theorem dX11_step_143 : decode cX11_step 143 = .ok (.goto (-57), 3) := by decide +kernel
theorem dX11_step_146 : decode cX11_step 146 = .ok (.aload_n 0, 1) := by decide +kernel
theorem dX11_step_147 : decode cX11_step 147 = .ok (.iconst 1, 1) := by decide +kernel
theorem dX11_step_148 : decode cX11_step 148 = .ok (.putfield 159, 3) := by decide +kernel
theorem dX11_step_151 : decode cX11_step 151 = .ok (.aload_n 0, 1) := by decide +kernel
theorem dX11_step_152 : decode cX11_step 152 = .ok (.aload_n 0, 1) := by decide +kernel
theorem dX11_step_153 : decode cX11_step 153 = .ok (.getfield 153, 3) := by decide +kernel
theorem dX11_step_156 : decode cX11_step 156 = .ok (.aload_n 0, 1) := by decide +kernel
theorem dX11_step_157 : decode cX11_step 157 = .ok (.getfield 156, 3) := by decide +kernel
theorem dX11_step_160 : decode cX11_step 160 = .ok (.isub, 1) := by decide +kernel
theorem dX11_step_161 : decode cX11_step 161 = .ok (.bipush 6, 2) := by decide +kernel
theorem dX11_step_163 : decode cX11_step 163 = .ok (.if_icmp .le 7, 3) := by decide +kernel
theorem dX11_step_166 : decode cX11_step 166 = .ok (.iconst (-1), 1) := by decide +kernel
theorem dX11_step_167 : decode cX11_step 167 = .ok (.goto 7, 3) := by decide +kernel
theorem dX11_step_170 : decode cX11_step 170 = .ok (.lload_n 1, 1) := by decide +kernel
theorem dX11_step_171 : decode cX11_step 171 = .ok (.invokestatic 165, 3) := by decide +kernel
theorem dX11_step_174 : decode cX11_step 174 = .ok (.putfield 169, 3) := by decide +kernel
theorem dX11_step_177 : decode cX11_step 177 = .ok (.goto 140, 3) := by decide +kernel
theorem dX11_step_180 : decode cX11_step 180 = .ok (.aload_n 0, 1) := by decide +kernel
theorem dX11_step_181 : decode cX11_step 181 = .ok (.aload_n 0, 1) := by decide +kernel
theorem dX11_step_182 : decode cX11_step 182 = .ok (.getfield 156, 3) := by decide +kernel
theorem dX11_step_185 : decode cX11_step 185 = .ok (.invokevirtual 172, 3) := by decide +kernel
theorem dX11_step_188 : decode cX11_step 188 = .ok (.ifCond .eq 78, 3) := by decide +kernel
theorem dX11_step_191 : decode cX11_step 191 = .ok (.aload_n 0, 1) := by decide +kernel
theorem dX11_step_192 : decode cX11_step 192 = .ok (.iconst 2, 1) := by decide +kernel
theorem dX11_step_193 : decode cX11_step 193 = .ok (.putfield 159, 3) := by decide +kernel
theorem dX11_step_196 : decode cX11_step 196 = .ok (.aload_n 0, 1) := by decide +kernel
theorem dX11_step_197 : decode cX11_step 197 = .ok (.iconst 0, 1) := by decide +kernel
theorem dX11_step_198 : decode cX11_step 198 = .ok (.putfield 169, 3) := by decide +kernel
theorem dX11_step_201 : decode cX11_step 201 = .ok (.aload_n 0, 1) := by decide +kernel
theorem dX11_step_202 : decode cX11_step 202 = .ok (.aload_n 0, 1) := by decide +kernel
theorem dX11_step_203 : decode cX11_step 203 = .ok (.getfield 153, 3) := by decide +kernel
theorem dX11_step_206 : decode cX11_step 206 = .ok (.invokevirtual 172, 3) := by decide +kernel
theorem dX11_step_209 : decode cX11_step 209 = .ok (.ifCond .eq 108, 3) := by decide +kernel
theorem dX11_step_212 : decode cX11_step 212 = .ok (.aload_n 0, 1) := by decide +kernel
theorem dX11_step_213 : decode cX11_step 213 = .ok (.aload_n 0, 1) := by decide +kernel
theorem dX11_step_214 : decode cX11_step 214 = .ok (.getfield 169, 3) := by decide +kernel
theorem dX11_step_217 : decode cX11_step 217 = .ok (.sipush 9999, 3) := by decide +kernel
theorem dX11_step_220 : decode cX11_step 220 = .ok (.if_icmp .le 10, 3) := by decide +kernel
theorem dX11_step_223 : decode cX11_step 223 = .ok (.aload_n 0, 1) := by decide +kernel
theorem dX11_step_224 : decode cX11_step 224 = .ok (.getfield 169, 3) := by decide +kernel
theorem dX11_step_227 : decode cX11_step 227 = .ok (.goto 23, 3) := by decide +kernel
theorem dX11_step_230 : decode cX11_step 230 = .ok (.bipush 10, 2) := by decide +kernel
theorem dX11_step_232 : decode cX11_step 232 = .ok (.aload_n 0, 1) := by decide +kernel
theorem dX11_step_233 : decode cX11_step 233 = .ok (.getfield 169, 3) := by decide +kernel
theorem dX11_step_236 : decode cX11_step 236 = .ok (.imul, 1) := by decide +kernel
theorem dX11_step_237 : decode cX11_step 237 = .ok (.aload_n 0, 1) := by decide +kernel
theorem dX11_step_238 : decode cX11_step 238 = .ok (.getfield 19, 3) := by decide +kernel
theorem dX11_step_241 : decode cX11_step 241 = .ok (.aload_n 0, 1) := by decide +kernel
theorem dX11_step_242 : decode cX11_step 242 = .ok (.getfield 153, 3) := by decide +kernel
theorem dX11_step_245 : decode cX11_step 245 = .ok (.iaload, 1) := by decide +kernel
theorem dX11_step_246 : decode cX11_step 246 = .ok (.iadd, 1) := by decide +kernel
theorem dX11_step_247 : decode cX11_step 247 = .ok (.bipush 48, 2) := by decide +kernel
theorem dX11_step_249 : decode cX11_step 249 = .ok (.isub, 1) := by decide +kernel
theorem dX11_step_250 : decode cX11_step 250 = .ok (.putfield 169, 3) := by decide +kernel
theorem dX11_step_253 : decode cX11_step 253 = .ok (.aload_n 0, 1) := by decide +kernel
theorem dX11_step_254 : decode cX11_step 254 = .ok (.dup, 1) := by decide +kernel
theorem dX11_step_255 : decode cX11_step 255 = .ok (.getfield 153, 3) := by decide +kernel
theorem dX11_step_258 : decode cX11_step 258 = .ok (.iconst 1, 1) := by decide +kernel
theorem dX11_step_259 : decode cX11_step 259 = .ok (.iadd, 1) := by decide +kernel
theorem dX11_step_260 : decode cX11_step 260 = .ok (.putfield 153, 3) := by decide +kernel
theorem dX11_step_263 : decode cX11_step 263 = .ok (.goto (-62), 3) := by decide +kernel
theorem dX11_step_266 : decode cX11_step 266 = .ok (.aload_n 0, 1) := by decide +kernel
theorem dX11_step_267 : decode cX11_step 267 = .ok (.aload_n 0, 1) := by decide +kernel
theorem dX11_step_268 : decode cX11_step 268 = .ok (.getfield 19, 3) := by decide +kernel
theorem dX11_step_271 : decode cX11_step 271 = .ok (.aload_n 0, 1) := by decide +kernel
theorem dX11_step_272 : decode cX11_step 272 = .ok (.getfield 156, 3) := by decide +kernel
theorem dX11_step_275 : decode cX11_step 275 = .ok (.iaload, 1) := by decide +kernel
theorem dX11_step_276 : decode cX11_step 276 = .ok (.bipush 40, 2) := by decide +kernel
theorem dX11_step_278 : decode cX11_step 278 = .ok (.if_icmp .ne 7, 3) := by decide +kernel
theorem dX11_step_281 : decode cX11_step 281 = .ok (.iconst 3, 1) := by decide +kernel
theorem dX11_step_282 : decode cX11_step 282 = .ok (.goto 22, 3) := by decide +kernel
theorem dX11_step_285 : decode cX11_step 285 = .ok (.aload_n 0, 1) := by decide +kernel
theorem dX11_step_286 : decode cX11_step 286 = .ok (.getfield 19, 3) := by decide +kernel
theorem dX11_step_289 : decode cX11_step 289 = .ok (.aload_n 0, 1) := by decide +kernel
theorem dX11_step_290 : decode cX11_step 290 = .ok (.getfield 156, 3) := by decide +kernel
theorem dX11_step_293 : decode cX11_step 293 = .ok (.iaload, 1) := by decide +kernel
theorem dX11_step_294 : decode cX11_step 294 = .ok (.bipush 41, 2) := by decide +kernel
theorem dX11_step_296 : decode cX11_step 296 = .ok (.if_icmp .ne 7, 3) := by decide +kernel
theorem dX11_step_299 : decode cX11_step 299 = .ok (.iconst 4, 1) := by decide +kernel
theorem dX11_step_300 : decode cX11_step 300 = .ok (.goto 4, 3) := by decide +kernel
theorem dX11_step_303 : decode cX11_step 303 = .ok (.iconst 5, 1) := by decide +kernel
theorem dX11_step_304 : decode cX11_step 304 = .ok (.putfield 159, 3) := by decide +kernel
theorem dX11_step_307 : decode cX11_step 307 = .ok (.aload_n 0, 1) := by decide +kernel
theorem dX11_step_308 : decode cX11_step 308 = .ok (.dup, 1) := by decide +kernel
theorem dX11_step_309 : decode cX11_step 309 = .ok (.getfield 153, 3) := by decide +kernel
theorem dX11_step_312 : decode cX11_step 312 = .ok (.iconst 1, 1) := by decide +kernel
theorem dX11_step_313 : decode cX11_step 313 = .ok (.iadd, 1) := by decide +kernel
theorem dX11_step_314 : decode cX11_step 314 = .ok (.putfield 153, 3) := by decide +kernel
theorem dX11_step_317 : decode cX11_step 317 = .ok (.return_, 1) := by decide +kernel
def S_X11_step_8 (fn : Mem → Option (Mem)) (p : Program) (l : Launch) (e : Env) (R : Room) (s : State) (m : MethodId) (args : Array Value) (below : List Frame) (meth : Method) (c : Code) (G : GT) (τ : Mem) : Prop := ∀ (σ : Mem) (H : Heap) (locs : List Loc) (ls : Array Slot), PW G σ H → va_S (AA G) s.heap H locs → fn σ = some τ → lv_has ls 3 [(0, .ref (gh G + 111))] → W p l e R s m args below meth c H locs 0 0 (MQ below (QM G none τ) args s 0 0 (AA G)) (F0 m 8 ls [])
def S_X11_step_86 (fn : Mem → Int → Option (Mem)) (p : Program) (l : Launch) (e : Env) (R : Room) (s : State) (m : MethodId) (args : Array Value) (below : List Frame) (meth : Method) (c : Code) (G : GT) (τ : Mem) : Prop := ∀ (σ : Mem) (H : Heap) (locs : List Loc) (ls : Array Slot) (l1 : Int), PW G σ H → va_S (AA G) s.heap H locs → fn σ l1 = some τ → lv_has ls 3 [(0, .ref (gh G + 111)), (1, .long (i64 l1))] → W p l e R s m args below meth c H locs 0 0 (MQ below (QM G none τ) args s 0 0 (AA G)) (F0 m 86 ls [])
def S_X11_step_201 (fn : Mem → Option (Mem)) (p : Program) (l : Launch) (e : Env) (R : Room) (s : State) (m : MethodId) (args : Array Value) (below : List Frame) (meth : Method) (c : Code) (G : GT) (τ : Mem) : Prop := ∀ (σ : Mem) (H : Heap) (locs : List Loc) (ls : Array Slot), PW G σ H → va_S (AA G) s.heap H locs → fn σ = some τ → lv_has ls 3 [(0, .ref (gh G + 111))] → W p l e R s m args below meth c H locs 0 0 (MQ below (QM G none τ) args s 0 0 (AA G)) (F0 m 201 ls [])
def X11_step_B304 (σ : Mem) (k1 : Int) : Option (Mem) :=
  lt (st σ 111 8 k1) fun s1 =>
  lt (st s1 111 7 ((s1 111 7) + 1)) fun s2 =>
  some s2
def S_X11_step_304 (fn : Mem → Int → Option (Mem)) (p : Program) (l : Launch) (e : Env) (R : Room) (s : State) (m : MethodId) (args : Array Value) (below : List Frame) (meth : Method) (c : Code) (G : GT) (τ : Mem) : Prop := ∀ (σ : Mem) (H : Heap) (locs : List Loc) (ls : Array Slot) (k1 : Int), PW G σ H → va_S (AA G) s.heap H locs → fn σ k1 = some τ → lv_has ls 3 [(0, .ref (gh G + 111))] → W p l e R s m args below meth c H locs 0 0 (MQ below (QM G none τ) args s 0 0 (AA G)) (F0 m 304 ls [.int (i32 k1), .ref (gh G + 111)])
def X11_step_B250 (rec201 : Mem → Option (Mem)) (σ : Mem) (k1 : Int) : Option (Mem) :=
  lt (st σ 111 9 k1) fun s1 =>
  lt (st s1 111 7 ((s1 111 7) + 1)) fun s2 =>
  rec201 s2
def S_X11_step_250 (fn : Mem → Int → Option (Mem)) (p : Program) (l : Launch) (e : Env) (R : Room) (s : State) (m : MethodId) (args : Array Value) (below : List Frame) (meth : Method) (c : Code) (G : GT) (τ : Mem) : Prop := ∀ (σ : Mem) (H : Heap) (locs : List Loc) (ls : Array Slot) (k1 : Int), PW G σ H → va_S (AA G) s.heap H locs → fn σ k1 = some τ → lv_has ls 3 [(0, .ref (gh G + 111))] → W p l e R s m args below meth c H locs 0 0 (MQ below (QM G none τ) args s 0 0 (AA G)) (F0 m 250 ls [.int (i32 k1), .ref (gh G + 111)])
def X11_step_B201 (rec201 : Mem → Option (Mem)) (σ : Mem) : Option (Mem) :=
  bd (X11_isDigit σ (σ 111 7)) fun r1 =>
  if w32 r1 = 0 then
    some σ
  else
  if w32 (σ 111 9) ≤ w32 9999 then
    ag 120 (σ 111 7) fun j2 =>
    X11_step_B250 rec201 σ (((10 * (σ 111 9)) + (σ 115 j2)) - 48)
  else
  X11_step_B250 rec201 σ (σ 111 9)
def X11_step_L201 : Nat → Mem → Option (Mem)
  | 0 => fun _ => none
  | n + 1 => X11_step_B201 (X11_step_L201 n)
def X11_step_B132 (rec86 : Mem → Int → Option (Mem)) (σ : Mem) (k0 : Int) : Option (Mem) :=
  lt (st σ 111 7 ((σ 111 7) + 1)) fun s1 =>
  rec86 s1 k0
def S_X11_step_132 (fn : Mem → Int → Option (Mem)) (p : Program) (l : Launch) (e : Env) (R : Room) (s : State) (m : MethodId) (args : Array Value) (below : List Frame) (meth : Method) (c : Code) (G : GT) (τ : Mem) : Prop := ∀ (σ : Mem) (H : Heap) (locs : List Loc) (ls : Array Slot) (k0 : Int), PW G σ H → va_S (AA G) s.heap H locs → fn σ k0 = some τ → lv_has ls 3 [(0, .ref (gh G + 111))] → W p l e R s m args below meth c H locs 0 0 (MQ below (QM G none τ) args s 0 0 (AA G)) (F0 m 132 ls [.long (i64 k0)])
def X11_step_B86 (rec86 : Mem → Int → Option (Mem)) (σ : Mem) (l1 : Int) : Option (Mem) :=
  bd (X11_isLetter σ (σ 111 7)) fun r1 =>
  if w32 r1 = 0 then
    lt (st σ 111 8 1) fun s2 =>
    if w32 ((s2 111 7) - (s2 111 6)) ≤ w32 6 then
      bd (X11_wordOf s2 l1) fun r3 =>
      lt (st s2 111 9 r3) fun s4 =>
      some s4
    else
    lt (st s2 111 9 (-1)) fun s5 =>
    some s5
  else
  if w32 7 ≤ w32 ((σ 111 7) - (σ 111 6)) then
    X11_step_B132 rec86 σ l1
  else
  ag 120 (σ 111 7) fun j6 =>
  X11_step_B132 rec86 σ (lro (lsl l1 5) (w32 ((σ 115 j6) - 96)))
def X11_step_L86 : Nat → Mem → Int → Option (Mem)
  | 0 => fun _ _ => none
  | n + 1 => X11_step_B86 (X11_step_L86 n)
def X11_step_B46 (σ : Mem) : Option (Mem) :=
  lt (st σ 111 7 (σ 111 6)) fun s1 =>
  if w32 (s1 111 6) ≠ w32 (s1 111 5) then
    bd (X11_isLetter s1 (s1 111 6)) fun r2 =>
    if w32 r2 = 0 then
      bd (X11_isDigit s1 (s1 111 6)) fun r3 =>
      if w32 r3 = 0 then
        ag 120 (s1 111 6) fun j4 =>
        if w32 (s1 115 j4) ≠ w32 40 then
          ag 120 (s1 111 6) fun j5 =>
          if w32 (s1 115 j5) ≠ w32 41 then
            X11_step_B304 s1 5
          else
          X11_step_B304 s1 4
        else
        X11_step_B304 s1 3
      else
      lt (st s1 111 8 2) fun s6 =>
      lt (st s6 111 9 0) fun s7 =>
      X11_step_L201 5000 s7
    else
    X11_step_L86 5000 s1 0
  else
  lt (st s1 111 8 0) fun s8 =>
  some s8
def S_X11_step_46 (fn : Mem → Option (Mem)) (p : Program) (l : Launch) (e : Env) (R : Room) (s : State) (m : MethodId) (args : Array Value) (below : List Frame) (meth : Method) (c : Code) (G : GT) (τ : Mem) : Prop := ∀ (σ : Mem) (H : Heap) (locs : List Loc) (ls : Array Slot), PW G σ H → va_S (AA G) s.heap H locs → fn σ = some τ → lv_has ls 3 [(0, .ref (gh G + 111))] → W p l e R s m args below meth c H locs 0 0 (MQ below (QM G none τ) args s 0 0 (AA G)) (F0 m 46 ls [])
def X11_step_B8 (rec8 : Mem → Option (Mem)) (σ : Mem) : Option (Mem) :=
  if w32 (σ 111 5) ≤ w32 (σ 111 6) then
    X11_step_B46 σ
  else
  ag 120 (σ 111 6) fun j1 =>
  if w32 (σ 115 j1) ≠ w32 32 then
    X11_step_B46 σ
  else
  lt (st σ 111 6 ((σ 111 6) + 1)) fun s2 =>
  rec8 s2
def X11_step_L8 : Nat → Mem → Option (Mem)
  | 0 => fun _ => none
  | n + 1 => X11_step_B8 (X11_step_L8 n)
def X11_step (σ : Mem) : Option (Mem) :=
  lt (st σ 111 6 (σ 111 7)) fun s1 =>
  X11_step_L8 5000 s1
def S_X11_step_0 (fn : Mem → Option (Mem)) (p : Program) (l : Launch) (e : Env) (R : Room) (s : State) (m : MethodId) (args : Array Value) (below : List Frame) (meth : Method) (c : Code) (G : GT) (τ : Mem) : Prop := ∀ (σ : Mem) (H : Heap) (locs : List Loc) (ls : Array Slot), PW G σ H → va_S (AA G) s.heap H locs → fn σ = some τ → lv_has ls 3 [(0, .ref (gh G + 111))] → W p l e R s m args below meth c H locs 0 0 (MQ below (QM G none τ) args s 0 0 (AA G)) (F0 m 0 ls [])
set_option maxHeartbeats 4000000 in
theorem a_X11_step_304 {p : Program} {l : Launch} {e : Env} {R : Room} {s : State} {m : MethodId} {args : Array Value} {below : List Frame} {meth : Method} {c : Code} {G : GT} {τ : Mem} (X : CX p R s m args meth c cX11_step 3 RX11 none 3 106 G) : S_X11_step_304 (X11_step_B304) p l e R s m args below meth c G τ := by
  intro σ H locs ls k1 hP hS hf hl
  unfold X11_step_B304 at hf
  refine p_11_8 X hP hS ks_11 (tb t_1095 rfl) dX11_step_304 (fun H locs hP hS => ?_)
  obtain ⟨s1, es1, hf⟩ := lt_inv hf
  rw [es1] at hP
  refine lv_aload_n X.1 X.2.1 dX11_step_307 rfl (lv_at hl 0 rfl) ?_
  refine lv_dup X.1 X.2.1 dX11_step_308 rfl ?_
  refine g_11_7 X hP ks_11 (tb t_1094 rfl) dX11_step_309 ?_
  refine r_iconst X 1 dX11_step_312 ?_
  refine r_iadd X dX11_step_313 ?_
  refine p_11_7 X hP hS ks_11 (tb t_1094 rfl) dX11_step_314 (fun H locs hP hS => ?_)
  obtain ⟨s2, es2, hf⟩ := lt_inv hf
  rw [es2] at hP
  cases so_inv hf
  exact r_vret X hP hS dX11_step_317
set_option maxHeartbeats 4000000 in
theorem a_X11_step_250 {p : Program} {l : Launch} {e : Env} {R : Room} {s : State} {m : MethodId} {args : Array Value} {below : List Frame} {meth : Method} {c : Code} {G : GT} {τ : Mem} {rec201 : Mem → Option (Mem)} (X : CX p R s m args meth c cX11_step 3 RX11 none 3 106 G) (h201 : S_X11_step_201 rec201 p l e R s m args below meth c G τ) : S_X11_step_250 (X11_step_B250 rec201) p l e R s m args below meth c G τ := by
  intro σ H locs ls k1 hP hS hf hl
  unfold X11_step_B250 at hf
  refine p_11_9 X hP hS ks_11 (tb t_1096 rfl) dX11_step_250 (fun H locs hP hS => ?_)
  obtain ⟨s1, es1, hf⟩ := lt_inv hf
  rw [es1] at hP
  refine lv_aload_n X.1 X.2.1 dX11_step_253 rfl (lv_at hl 0 rfl) ?_
  refine lv_dup X.1 X.2.1 dX11_step_254 rfl ?_
  refine g_11_7 X hP ks_11 (tb t_1094 rfl) dX11_step_255 ?_
  refine r_iconst X 1 dX11_step_258 ?_
  refine r_iadd X dX11_step_259 ?_
  refine p_11_7 X hP hS ks_11 (tb t_1094 rfl) dX11_step_260 (fun H locs hP hS => ?_)
  obtain ⟨s2, es2, hf⟩ := lt_inv hf
  rw [es2] at hP
  refine lv_goto (tgt := 201) X.1 X.2.1 dX11_step_263 (by decide) ?_
  exact h201 s2 H locs ls  hP hS hf hl
set_option maxHeartbeats 4000000 in
theorem a_X11_step_201 {p : Program} {l : Launch} {e : Env} {R : Room} {s : State} {m : MethodId} {args : Array Value} {below : List Frame} {meth : Method} {c : Code} {G : GT} {τ : Mem} {rec201 : Mem → Option (Mem)} (X : CX p R s m args meth c cX11_step 3 RX11 none 3 106 G) (h201 : S_X11_step_201 rec201 p l e R s m args below meth c G τ) : S_X11_step_201 (X11_step_B201 rec201) p l e R s m args below meth c G τ := by
  intro σ H locs ls hP hS hf hl
  unfold X11_step_B201 at hf
  refine lv_aload_n X.1 X.2.1 dX11_step_201 rfl (lv_at hl 0 rfl) ?_
  refine lv_aload_n X.1 X.2.1 dX11_step_202 rfl (lv_at hl 0 rfl) ?_
  refine g_11_7 X hP ks_11 (tb t_1094 rfl) dX11_step_203 ?_
  obtain ⟨r1, hr1, hf⟩ := bd_inv hf
  refine k_X11_isDigit X hP hS hl.1  hr1 (tb t_1262 rfl) (by decide) (Nat.le_of_ble_eq_true rfl) dX11_step_206 (fun H locs hP hS => ?_)
  refine r_if_eq (tgt := 317) X dX11_step_209 (by decide) (fun q => ?_) (fun q => ?_)
  · replace hf := it_inv q hf
    cases so_inv hf
    exact r_vret X hP hS dX11_step_317
  · replace hf := ie_inv q hf
    refine lv_aload_n X.1 X.2.1 dX11_step_212 rfl (lv_at hl 0 rfl) ?_
    refine lv_aload_n X.1 X.2.1 dX11_step_213 rfl (lv_at hl 0 rfl) ?_
    refine g_11_9 X hP ks_11 (tb t_1096 rfl) dX11_step_214 ?_
    refine r_sipush X 9999 (by decide) dX11_step_217 ?_
    refine r_icmp_le (tgt := 230) X dX11_step_220 (by decide) (fun q => ?_) (fun q => ?_)
    · replace hf := it_inv q hf
      refine r_bipush X 10 (by decide) dX11_step_230 ?_
      refine lv_aload_n X.1 X.2.1 dX11_step_232 rfl (lv_at hl 0 rfl) ?_
      refine g_11_9 X hP ks_11 (tb t_1096 rfl) dX11_step_233 ?_
      refine r_imul X dX11_step_236 ?_
      refine lv_aload_n X.1 X.2.1 dX11_step_237 rfl (lv_at hl 0 rfl) ?_
      refine g_11_4 (r := 115) X hP ks_11 rfl (tb t_1091 rfl) dX11_step_238 ?_
      refine lv_aload_n X.1 X.2.1 dX11_step_241 rfl (lv_at hl 0 rfl) ?_
      refine g_11_7 X hP ks_11 (tb t_1094 rfl) dX11_step_242 ?_
      obtain ⟨j2, hij2, hjj2, hlj2, hf⟩ := ag_inv hf
      refine r_iald X hP (ch_11_4 ks_11).1 (ch_11_4 ks_11).2 hij2 hjj2 dX11_step_245 ?_
      refine r_iadd X dX11_step_246 ?_
      refine r_bipush X 48 (by decide) dX11_step_247 ?_
      refine r_isub X dX11_step_249 ?_
      exact a_X11_step_250 X h201 σ H locs ls (((10 * (σ 111 9)) + (σ 115 j2)) - 48) hP hS hf hl
    · replace hf := ie_inv q hf
      refine lv_aload_n X.1 X.2.1 dX11_step_223 rfl (lv_at hl 0 rfl) ?_
      refine g_11_9 X hP ks_11 (tb t_1096 rfl) dX11_step_224 ?_
      refine lv_goto (tgt := 250) X.1 X.2.1 dX11_step_227 (by decide) ?_
      exact a_X11_step_250 X h201 σ H locs ls (σ 111 9) hP hS hf hl
theorem al_X11_step_201 {p : Program} {l : Launch} {e : Env} {R : Room} {s : State} {m : MethodId} {args : Array Value} {below : List Frame} {meth : Method} {c : Code} {G : GT} {τ : Mem} (X : CX p R s m args meth c cX11_step 3 RX11 none 3 106 G) : ∀ n, S_X11_step_201 (X11_step_L201 n) p l e R s m args below meth c G τ := by
  intro n
  induction n with
  | zero =>
    intro σ H locs ls hP hS hf hl
    cases hf
  | succ n ih => exact a_X11_step_201 X ih
set_option maxHeartbeats 4000000 in
theorem a_X11_step_132 {p : Program} {l : Launch} {e : Env} {R : Room} {s : State} {m : MethodId} {args : Array Value} {below : List Frame} {meth : Method} {c : Code} {G : GT} {τ : Mem} {rec86 : Mem → Int → Option (Mem)} (X : CX p R s m args meth c cX11_step 3 RX11 none 3 106 G) (h86 : S_X11_step_86 rec86 p l e R s m args below meth c G τ) : S_X11_step_132 (X11_step_B132 rec86) p l e R s m args below meth c G τ := by
  intro σ H locs ls k0 hP hS hf hl
  unfold X11_step_B132 at hf
  refine lv_lstore_n (lv' := [(1, .long (i64 k0)), (0, .ref (gh G + 111))]) X.1 X.2.1 dX11_step_132 rfl hl (by decide) rfl (fun ls hl => ?_)
  refine lv_aload_n X.1 X.2.1 dX11_step_133 rfl (lv_at hl 1 rfl) ?_
  refine lv_dup X.1 X.2.1 dX11_step_134 rfl ?_
  refine g_11_7 X hP ks_11 (tb t_1094 rfl) dX11_step_135 ?_
  refine r_iconst X 1 dX11_step_138 ?_
  refine r_iadd X dX11_step_139 ?_
  refine p_11_7 X hP hS ks_11 (tb t_1094 rfl) dX11_step_140 (fun H locs hP hS => ?_)
  obtain ⟨s1, es1, hf⟩ := lt_inv hf
  rw [es1] at hP
  refine lv_goto (tgt := 86) X.1 X.2.1 dX11_step_143 (by decide) ?_
  exact h86 s1 H locs ls k0 hP hS hf (lv_sub hl [1, 0] rfl)
set_option maxHeartbeats 4000000 in
theorem a_X11_step_86 {p : Program} {l : Launch} {e : Env} {R : Room} {s : State} {m : MethodId} {args : Array Value} {below : List Frame} {meth : Method} {c : Code} {G : GT} {τ : Mem} {rec86 : Mem → Int → Option (Mem)} (X : CX p R s m args meth c cX11_step 3 RX11 none 3 106 G) (h86 : S_X11_step_86 rec86 p l e R s m args below meth c G τ) : S_X11_step_86 (X11_step_B86 rec86) p l e R s m args below meth c G τ := by
  intro σ H locs ls l1 hP hS hf hl
  unfold X11_step_B86 at hf
  refine lv_aload_n X.1 X.2.1 dX11_step_86 rfl (lv_at hl 0 rfl) ?_
  refine lv_aload_n X.1 X.2.1 dX11_step_87 rfl (lv_at hl 0 rfl) ?_
  refine g_11_7 X hP ks_11 (tb t_1094 rfl) dX11_step_88 ?_
  obtain ⟨r1, hr1, hf⟩ := bd_inv hf
  refine k_X11_isLetter X hP hS hl.1  hr1 (tb t_1250 rfl) (by decide) (Nat.le_of_ble_eq_true rfl) dX11_step_91 (fun H locs hP hS => ?_)
  refine r_if_eq (tgt := 146) X dX11_step_94 (by decide) (fun q => ?_) (fun q => ?_)
  · replace hf := it_inv q hf
    refine lv_aload_n X.1 X.2.1 dX11_step_146 rfl (lv_at hl 0 rfl) ?_
    refine r_iconst X 1 dX11_step_147 ?_
    refine p_11_8 X hP hS ks_11 (tb t_1095 rfl) dX11_step_148 (fun H locs hP hS => ?_)
    obtain ⟨s2, es2, hf⟩ := lt_inv hf
    rw [es2] at hP
    refine lv_aload_n X.1 X.2.1 dX11_step_151 rfl (lv_at hl 0 rfl) ?_
    refine lv_aload_n X.1 X.2.1 dX11_step_152 rfl (lv_at hl 0 rfl) ?_
    refine g_11_7 X hP ks_11 (tb t_1094 rfl) dX11_step_153 ?_
    refine lv_aload_n X.1 X.2.1 dX11_step_156 rfl (lv_at hl 0 rfl) ?_
    refine g_11_6 X hP ks_11 (tb t_1093 rfl) dX11_step_157 ?_
    refine r_isub X dX11_step_160 ?_
    refine r_bipush X 6 (by decide) dX11_step_161 ?_
    refine r_icmp_le (tgt := 170) X dX11_step_163 (by decide) (fun q => ?_) (fun q => ?_)
    · replace hf := it_inv q hf
      refine lv_lload_n X.1 X.2.1 dX11_step_170 rfl (lv_at hl 1 rfl) ?_
      obtain ⟨r3, hr3, hf⟩ := bd_inv hf
      refine k_X11_wordOf X hP hS hl.1  hr3 (tb t_1256 rfl) (by decide) (Nat.le_of_ble_eq_true rfl) dX11_step_171 (fun H locs hP hS => ?_)
      refine p_11_9 X hP hS ks_11 (tb t_1096 rfl) dX11_step_174 (fun H locs hP hS => ?_)
      obtain ⟨s4, es4, hf⟩ := lt_inv hf
      rw [es4] at hP
      refine lv_goto (tgt := 317) X.1 X.2.1 dX11_step_177 (by decide) ?_
      cases so_inv hf
      exact r_vret X hP hS dX11_step_317
    · replace hf := ie_inv q hf
      refine r_iconst X (-1) dX11_step_166 ?_
      refine lv_goto (tgt := 174) X.1 X.2.1 dX11_step_167 (by decide) ?_
      refine p_11_9 X hP hS ks_11 (tb t_1096 rfl) dX11_step_174 (fun H locs hP hS => ?_)
      obtain ⟨s5, es5, hf⟩ := lt_inv hf
      rw [es5] at hP
      refine lv_goto (tgt := 317) X.1 X.2.1 dX11_step_177 (by decide) ?_
      cases so_inv hf
      exact r_vret X hP hS dX11_step_317
  · replace hf := ie_inv q hf
    refine lv_aload_n X.1 X.2.1 dX11_step_97 rfl (lv_at hl 0 rfl) ?_
    refine g_11_7 X hP ks_11 (tb t_1094 rfl) dX11_step_98 ?_
    refine lv_aload_n X.1 X.2.1 dX11_step_101 rfl (lv_at hl 0 rfl) ?_
    refine g_11_6 X hP ks_11 (tb t_1093 rfl) dX11_step_102 ?_
    refine r_isub X dX11_step_105 ?_
    refine r_bipush X 7 (by decide) dX11_step_106 ?_
    refine r_icmp_ge (tgt := 131) X dX11_step_108 (by decide) (fun q => ?_) (fun q => ?_)
    · replace hf := it_inv q hf
      refine lv_lload_n X.1 X.2.1 dX11_step_131 rfl (lv_at hl 1 rfl) ?_
      exact a_X11_step_132 X h86 σ H locs ls l1 hP hS hf (lv_sub hl [0] rfl)
    · replace hf := ie_inv q hf
      refine lv_lload_n X.1 X.2.1 dX11_step_111 rfl (lv_at hl 1 rfl) ?_
      refine r_iconst X 5 dX11_step_112 ?_
      refine r_lshl X dX11_step_113 ?_
      refine lv_aload_n X.1 X.2.1 dX11_step_114 rfl (lv_at hl 0 rfl) ?_
      refine g_11_4 (r := 115) X hP ks_11 rfl (tb t_1091 rfl) dX11_step_115 ?_
      refine lv_aload_n X.1 X.2.1 dX11_step_118 rfl (lv_at hl 0 rfl) ?_
      refine g_11_7 X hP ks_11 (tb t_1094 rfl) dX11_step_119 ?_
      obtain ⟨j6, hij6, hjj6, hlj6, hf⟩ := ag_inv hf
      refine r_iald X hP (ch_11_4 ks_11).1 (ch_11_4 ks_11).2 hij6 hjj6 dX11_step_122 ?_
      refine r_bipush X 96 (by decide) dX11_step_123 ?_
      refine r_isub X dX11_step_125 ?_
      refine r_i2l X dX11_step_126 ?_
      refine r_lor X dX11_step_127 ?_
      refine lv_goto (tgt := 132) X.1 X.2.1 dX11_step_128 (by decide) ?_
      exact a_X11_step_132 X h86 σ H locs ls (lro (lsl l1 5) (w32 ((σ 115 j6) - 96))) hP hS hf (lv_sub hl [0] rfl)
theorem al_X11_step_86 {p : Program} {l : Launch} {e : Env} {R : Room} {s : State} {m : MethodId} {args : Array Value} {below : List Frame} {meth : Method} {c : Code} {G : GT} {τ : Mem} (X : CX p R s m args meth c cX11_step 3 RX11 none 3 106 G) : ∀ n, S_X11_step_86 (X11_step_L86 n) p l e R s m args below meth c G τ := by
  intro n
  induction n with
  | zero =>
    intro σ H locs ls l1 hP hS hf hl
    cases hf
  | succ n ih => exact a_X11_step_86 X ih
set_option maxHeartbeats 4000000 in
theorem a_X11_step_46 {p : Program} {l : Launch} {e : Env} {R : Room} {s : State} {m : MethodId} {args : Array Value} {below : List Frame} {meth : Method} {c : Code} {G : GT} {τ : Mem} (X : CX p R s m args meth c cX11_step 3 RX11 none 3 106 G) : S_X11_step_46 (X11_step_B46) p l e R s m args below meth c G τ := by
  intro σ H locs ls hP hS hf hl
  unfold X11_step_B46 at hf
  refine lv_aload_n X.1 X.2.1 dX11_step_46 rfl (lv_at hl 0 rfl) ?_
  refine lv_aload_n X.1 X.2.1 dX11_step_47 rfl (lv_at hl 0 rfl) ?_
  refine g_11_6 X hP ks_11 (tb t_1093 rfl) dX11_step_48 ?_
  refine p_11_7 X hP hS ks_11 (tb t_1094 rfl) dX11_step_51 (fun H locs hP hS => ?_)
  obtain ⟨s1, es1, hf⟩ := lt_inv hf
  rw [es1] at hP
  refine lv_aload_n X.1 X.2.1 dX11_step_54 rfl (lv_at hl 0 rfl) ?_
  refine g_11_6 X hP ks_11 (tb t_1093 rfl) dX11_step_55 ?_
  refine lv_aload_n X.1 X.2.1 dX11_step_58 rfl (lv_at hl 0 rfl) ?_
  refine g_11_5 X hP ks_11 (tb t_1092 rfl) dX11_step_59 ?_
  refine r_icmp_ne (tgt := 73) X dX11_step_62 (by decide) (fun q => ?_) (fun q => ?_)
  · replace hf := it_inv q hf
    refine lv_aload_n X.1 X.2.1 dX11_step_73 rfl (lv_at hl 0 rfl) ?_
    refine lv_aload_n X.1 X.2.1 dX11_step_74 rfl (lv_at hl 0 rfl) ?_
    refine g_11_6 X hP ks_11 (tb t_1093 rfl) dX11_step_75 ?_
    obtain ⟨r2, hr2, hf⟩ := bd_inv hf
    refine k_X11_isLetter X hP hS hl.1  hr2 (tb t_1250 rfl) (by decide) (Nat.le_of_ble_eq_true rfl) dX11_step_78 (fun H locs hP hS => ?_)
    refine r_if_eq (tgt := 180) X dX11_step_81 (by decide) (fun q => ?_) (fun q => ?_)
    · replace hf := it_inv q hf
      refine lv_aload_n X.1 X.2.1 dX11_step_180 rfl (lv_at hl 0 rfl) ?_
      refine lv_aload_n X.1 X.2.1 dX11_step_181 rfl (lv_at hl 0 rfl) ?_
      refine g_11_6 X hP ks_11 (tb t_1093 rfl) dX11_step_182 ?_
      obtain ⟨r3, hr3, hf⟩ := bd_inv hf
      refine k_X11_isDigit X hP hS hl.1  hr3 (tb t_1262 rfl) (by decide) (Nat.le_of_ble_eq_true rfl) dX11_step_185 (fun H locs hP hS => ?_)
      refine r_if_eq (tgt := 266) X dX11_step_188 (by decide) (fun q => ?_) (fun q => ?_)
      · replace hf := it_inv q hf
        refine lv_aload_n X.1 X.2.1 dX11_step_266 rfl (lv_at hl 0 rfl) ?_
        refine lv_aload_n X.1 X.2.1 dX11_step_267 rfl (lv_at hl 0 rfl) ?_
        refine g_11_4 (r := 115) X hP ks_11 rfl (tb t_1091 rfl) dX11_step_268 ?_
        refine lv_aload_n X.1 X.2.1 dX11_step_271 rfl (lv_at hl 0 rfl) ?_
        refine g_11_6 X hP ks_11 (tb t_1093 rfl) dX11_step_272 ?_
        obtain ⟨j4, hij4, hjj4, hlj4, hf⟩ := ag_inv hf
        refine r_iald X hP (ch_11_4 ks_11).1 (ch_11_4 ks_11).2 hij4 hjj4 dX11_step_275 ?_
        refine r_bipush X 40 (by decide) dX11_step_276 ?_
        refine r_icmp_ne (tgt := 285) X dX11_step_278 (by decide) (fun q => ?_) (fun q => ?_)
        · replace hf := it_inv q hf
          refine lv_aload_n X.1 X.2.1 dX11_step_285 rfl (lv_at hl 0 rfl) ?_
          refine g_11_4 (r := 115) X hP ks_11 rfl (tb t_1091 rfl) dX11_step_286 ?_
          refine lv_aload_n X.1 X.2.1 dX11_step_289 rfl (lv_at hl 0 rfl) ?_
          refine g_11_6 X hP ks_11 (tb t_1093 rfl) dX11_step_290 ?_
          obtain ⟨j5, hij5, hjj5, hlj5, hf⟩ := ag_inv hf
          refine r_iald X hP (ch_11_4 ks_11).1 (ch_11_4 ks_11).2 hij5 hjj5 dX11_step_293 ?_
          refine r_bipush X 41 (by decide) dX11_step_294 ?_
          refine r_icmp_ne (tgt := 303) X dX11_step_296 (by decide) (fun q => ?_) (fun q => ?_)
          · replace hf := it_inv q hf
            refine r_iconst X 5 dX11_step_303 ?_
            exact a_X11_step_304 X s1 H locs ls 5 hP hS hf hl
          · replace hf := ie_inv q hf
            refine r_iconst X 4 dX11_step_299 ?_
            refine lv_goto (tgt := 304) X.1 X.2.1 dX11_step_300 (by decide) ?_
            exact a_X11_step_304 X s1 H locs ls 4 hP hS hf hl
        · replace hf := ie_inv q hf
          refine r_iconst X 3 dX11_step_281 ?_
          refine lv_goto (tgt := 304) X.1 X.2.1 dX11_step_282 (by decide) ?_
          exact a_X11_step_304 X s1 H locs ls 3 hP hS hf hl
      · replace hf := ie_inv q hf
        refine lv_aload_n X.1 X.2.1 dX11_step_191 rfl (lv_at hl 0 rfl) ?_
        refine r_iconst X 2 dX11_step_192 ?_
        refine p_11_8 X hP hS ks_11 (tb t_1095 rfl) dX11_step_193 (fun H locs hP hS => ?_)
        obtain ⟨s6, es6, hf⟩ := lt_inv hf
        rw [es6] at hP
        refine lv_aload_n X.1 X.2.1 dX11_step_196 rfl (lv_at hl 0 rfl) ?_
        refine r_iconst X 0 dX11_step_197 ?_
        refine p_11_9 X hP hS ks_11 (tb t_1096 rfl) dX11_step_198 (fun H locs hP hS => ?_)
        obtain ⟨s7, es7, hf⟩ := lt_inv hf
        rw [es7] at hP
        exact al_X11_step_201 X 5000 s7 H locs ls  hP hS hf hl
    · replace hf := ie_inv q hf
      refine r_lconst X 0 0 (by decide) dX11_step_84 ?_
      refine lv_lstore_n (lv' := [(1, .long (i64 0)), (0, .ref (gh G + 111))]) X.1 X.2.1 dX11_step_85 rfl hl (by decide) rfl (fun ls hl => ?_)
      exact al_X11_step_86 X 5000 s1 H locs ls 0 hP hS hf (lv_sub hl [1, 0] rfl)
  · replace hf := ie_inv q hf
    refine lv_aload_n X.1 X.2.1 dX11_step_65 rfl (lv_at hl 0 rfl) ?_
    refine r_iconst X 0 dX11_step_66 ?_
    refine p_11_8 X hP hS ks_11 (tb t_1095 rfl) dX11_step_67 (fun H locs hP hS => ?_)
    obtain ⟨s8, es8, hf⟩ := lt_inv hf
    rw [es8] at hP
    refine lv_goto (tgt := 317) X.1 X.2.1 dX11_step_70 (by decide) ?_
    cases so_inv hf
    exact r_vret X hP hS dX11_step_317
set_option maxHeartbeats 4000000 in
theorem a_X11_step_8 {p : Program} {l : Launch} {e : Env} {R : Room} {s : State} {m : MethodId} {args : Array Value} {below : List Frame} {meth : Method} {c : Code} {G : GT} {τ : Mem} {rec8 : Mem → Option (Mem)} (X : CX p R s m args meth c cX11_step 3 RX11 none 3 106 G) (h8 : S_X11_step_8 rec8 p l e R s m args below meth c G τ) : S_X11_step_8 (X11_step_B8 rec8) p l e R s m args below meth c G τ := by
  intro σ H locs ls hP hS hf hl
  unfold X11_step_B8 at hf
  refine lv_aload_n X.1 X.2.1 dX11_step_8 rfl (lv_at hl 0 rfl) ?_
  refine g_11_6 X hP ks_11 (tb t_1093 rfl) dX11_step_9 ?_
  refine lv_aload_n X.1 X.2.1 dX11_step_12 rfl (lv_at hl 0 rfl) ?_
  refine g_11_5 X hP ks_11 (tb t_1092 rfl) dX11_step_13 ?_
  refine r_icmp_ge (tgt := 46) X dX11_step_16 (by decide) (fun q => ?_) (fun q => ?_)
  · replace hf := it_inv q hf
    exact a_X11_step_46 X σ H locs ls  hP hS hf hl
  · replace hf := ie_inv q hf
    refine lv_aload_n X.1 X.2.1 dX11_step_19 rfl (lv_at hl 0 rfl) ?_
    refine g_11_4 (r := 115) X hP ks_11 rfl (tb t_1091 rfl) dX11_step_20 ?_
    refine lv_aload_n X.1 X.2.1 dX11_step_23 rfl (lv_at hl 0 rfl) ?_
    refine g_11_6 X hP ks_11 (tb t_1093 rfl) dX11_step_24 ?_
    obtain ⟨j1, hij1, hjj1, hlj1, hf⟩ := ag_inv hf
    refine r_iald X hP (ch_11_4 ks_11).1 (ch_11_4 ks_11).2 hij1 hjj1 dX11_step_27 ?_
    refine r_bipush X 32 (by decide) dX11_step_28 ?_
    refine r_icmp_ne (tgt := 46) X dX11_step_30 (by decide) (fun q => ?_) (fun q => ?_)
    · replace hf := it_inv q hf
      exact a_X11_step_46 X σ H locs ls  hP hS hf hl
    · replace hf := ie_inv q hf
      refine lv_aload_n X.1 X.2.1 dX11_step_33 rfl (lv_at hl 0 rfl) ?_
      refine lv_dup X.1 X.2.1 dX11_step_34 rfl ?_
      refine g_11_6 X hP ks_11 (tb t_1093 rfl) dX11_step_35 ?_
      refine r_iconst X 1 dX11_step_38 ?_
      refine r_iadd X dX11_step_39 ?_
      refine p_11_6 X hP hS ks_11 (tb t_1093 rfl) dX11_step_40 (fun H locs hP hS => ?_)
      obtain ⟨s2, es2, hf⟩ := lt_inv hf
      rw [es2] at hP
      refine lv_goto (tgt := 8) X.1 X.2.1 dX11_step_43 (by decide) ?_
      exact h8 s2 H locs ls  hP hS hf hl
theorem al_X11_step_8 {p : Program} {l : Launch} {e : Env} {R : Room} {s : State} {m : MethodId} {args : Array Value} {below : List Frame} {meth : Method} {c : Code} {G : GT} {τ : Mem} (X : CX p R s m args meth c cX11_step 3 RX11 none 3 106 G) : ∀ n, S_X11_step_8 (X11_step_L8 n) p l e R s m args below meth c G τ := by
  intro n
  induction n with
  | zero =>
    intro σ H locs ls hP hS hf hl
    cases hf
  | succ n ih => exact a_X11_step_8 X ih
set_option maxHeartbeats 4000000 in
theorem a_X11_step_0 {p : Program} {l : Launch} {e : Env} {R : Room} {s : State} {m : MethodId} {args : Array Value} {below : List Frame} {meth : Method} {c : Code} {G : GT} {τ : Mem} (X : CX p R s m args meth c cX11_step 3 RX11 none 3 106 G) : S_X11_step_0 (X11_step) p l e R s m args below meth c G τ := by
  intro σ H locs ls hP hS hf hl
  unfold X11_step at hf
  refine lv_aload_n X.1 X.2.1 dX11_step_0 rfl (lv_at hl 0 rfl) ?_
  refine lv_aload_n X.1 X.2.1 dX11_step_1 rfl (lv_at hl 0 rfl) ?_
  refine g_11_7 X hP ks_11 (tb t_1094 rfl) dX11_step_2 ?_
  refine p_11_6 X hP hS ks_11 (tb t_1093 rfl) dX11_step_5 (fun H locs hP hS => ?_)
  obtain ⟨s1, es1, hf⟩ := lt_inv hf
  rw [es1] at hP
  exact al_X11_step_8 X 5000 s1 H locs ls  hP hS hf hl
set_option maxHeartbeats 4000000 in
theorem c_X11_step {l : Launch} {G : GT} {σ τ : Mem} (hf : X11_step σ = some τ) : CT l yX11_step cX11_step 3 none 3 106 G [.ref (gh G + 111)] σ τ none := by
  refine CT.mk (own := RX11) (by decide) rfl (Nat.le_of_ble_eq_true rfl) ?_
  intro p e s m below meth c ls X hP hS hl
  have hl : lv_has ls 3 [(0, .ref (gh G + 111))] := hl
  exact a_X11_step_0 X σ s.heap [] ls hP hS hf hl
theorem k_X11_step {p : Program} {l : Launch} {e : Env} {R : Room} {s : State} {m : MethodId} {args : Array Value} {below : List Frame} {meth : Method} {c : Code} {H : Heap} {locs : List Loc} {Q : State → Prop} {cc : ByteArray} {nL : Nat} {own : String} {ret : Option FieldType} {fF fL : Nat} {G : GT} {pc idx : Nat} {ls : Array Slot} {rest : List Value} {σ τ : Mem} (X : CX p R s m args meth c cc nL own ret fF fL G) (hP : PW G σ H) (hS : va_S (AA G) s.heap H locs) (hls : ls.size = nL) (hf : X11_step σ = some τ) (h1 : Cond.methodLink own idx yX11_step ∈ TB) (hR : 3 + 1 ≤ fF ∧ 8 + (3 + 11) + 106 ≤ fL) (hW : (rest.map fun v => v.category).sum ≤ 8) (hd : decode cc pc = .ok (.invokevirtual idx, 3)) (kk : ∀ (H1 : Heap) (locs1 : List Loc), PW G τ H1 → va_S (AA G) s.heap H1 locs1 → W p l e R s m args below meth c H1 locs1 0 0 Q (F0 m (pc + 3) ls (rest))) : W p l e R s m args below meth c H locs 0 0 Q (F0 m pc ls (.ref (gh G + 111) :: rest)) := r_callV (n := 0) X hP hS hls (c_X11_step hf) h1 (tb t_1248 rfl) (tb t_33 rfl) (tb t_87 rfl) (tb t_1249 rfl) (by decide +kernel) hR (r_recv X hP (kd_lt ks_11 (by decide)) (cE_11 ks_11) rfl) rfl rfl hW hd kk
/-! X11_need -/
theorem dX11_need_0 : decode cX11_need 0 = .ok (.iload_n 1, 1) := by decide +kernel
theorem dX11_need_1 : decode cX11_need 1 = .ok (.ifCond .ne 8, 3) := by decide +kernel
theorem dX11_need_4 : decode cX11_need 4 = .ok (.aload_n 0, 1) := by decide +kernel
theorem dX11_need_5 : decode cX11_need 5 = .ok (.iconst 1, 1) := by decide +kernel
theorem dX11_need_6 : decode cX11_need 6 = .ok (.putfield 175, 3) := by decide +kernel
theorem dX11_need_9 : decode cX11_need 9 = .ok (.aload_n 0, 1) := by decide +kernel
theorem dX11_need_10 : decode cX11_need 10 = .ok (.getfield 175, 3) := by decide +kernel
theorem dX11_need_13 : decode cX11_need 13 = .ok (.ifCond .ne 7, 3) := by decide +kernel
theorem dX11_need_16 : decode cX11_need 16 = .ok (.aload_n 0, 1) := by decide +kernel
theorem dX11_need_17 : decode cX11_need 17 = .ok (.invokevirtual 179, 3) := by decide +kernel
theorem dX11_need_20 : decode cX11_need 20 = .ok (.return_, 1) := by decide +kernel
def X11_need_B9 (σ : Mem) : Option (Mem) :=
  if w32 (σ 111 11) ≠ 0 then
    some σ
  else
  bd (X11_step σ) fun s2 =>
  some s2
def S_X11_need_9 (fn : Mem → Option (Mem)) (p : Program) (l : Launch) (e : Env) (R : Room) (s : State) (m : MethodId) (args : Array Value) (below : List Frame) (meth : Method) (c : Code) (G : GT) (τ : Mem) : Prop := ∀ (σ : Mem) (H : Heap) (locs : List Loc) (ls : Array Slot), PW G σ H → va_S (AA G) s.heap H locs → fn σ = some τ → lv_has ls 2 [(0, .ref (gh G + 111))] → W p l e R s m args below meth c H locs 0 0 (MQ below (QM G none τ) args s 0 0 (AA G)) (F0 m 9 ls [])
def X11_need (σ : Mem) (l1 : Int) : Option (Mem) :=
  if w32 l1 ≠ 0 then
    X11_need_B9 σ
  else
  lt (st σ 111 11 1) fun s1 =>
  X11_need_B9 s1
def S_X11_need_0 (fn : Mem → Int → Option (Mem)) (p : Program) (l : Launch) (e : Env) (R : Room) (s : State) (m : MethodId) (args : Array Value) (below : List Frame) (meth : Method) (c : Code) (G : GT) (τ : Mem) : Prop := ∀ (σ : Mem) (H : Heap) (locs : List Loc) (ls : Array Slot) (l1 : Int), PW G σ H → va_S (AA G) s.heap H locs → fn σ l1 = some τ → lv_has ls 2 [(0, .ref (gh G + 111)), (1, .int (i32 l1))] → W p l e R s m args below meth c H locs 0 0 (MQ below (QM G none τ) args s 0 0 (AA G)) (F0 m 0 ls [])
set_option maxHeartbeats 4000000 in
theorem a_X11_need_9 {p : Program} {l : Launch} {e : Env} {R : Room} {s : State} {m : MethodId} {args : Array Value} {below : List Frame} {meth : Method} {c : Code} {G : GT} {τ : Mem} (X : CX p R s m args meth c cX11_need 2 RX11 none 4 128 G) : S_X11_need_9 (X11_need_B9) p l e R s m args below meth c G τ := by
  intro σ H locs ls hP hS hf hl
  unfold X11_need_B9 at hf
  refine lv_aload_n X.1 X.2.1 dX11_need_9 rfl (lv_at hl 0 rfl) ?_
  refine g_11_11 X hP ks_11 (tb t_1098 rfl) dX11_need_10 ?_
  refine r_if_ne (tgt := 20) X dX11_need_13 (by decide) (fun q => ?_) (fun q => ?_)
  · replace hf := it_inv q hf
    cases so_inv hf
    exact r_vret X hP hS dX11_need_20
  · replace hf := ie_inv q hf
    refine lv_aload_n X.1 X.2.1 dX11_need_16 rfl (lv_at hl 0 rfl) ?_
    obtain ⟨s2, hr1, hf⟩ := bd_inv hf
    refine k_X11_step X hP hS hl.1  hr1 (tb t_1246 rfl) (by decide) (Nat.le_of_ble_eq_true rfl) dX11_need_17 (fun H locs hP hS => ?_)
    cases so_inv hf
    exact r_vret X hP hS dX11_need_20
set_option maxHeartbeats 4000000 in
theorem a_X11_need_0 {p : Program} {l : Launch} {e : Env} {R : Room} {s : State} {m : MethodId} {args : Array Value} {below : List Frame} {meth : Method} {c : Code} {G : GT} {τ : Mem} (X : CX p R s m args meth c cX11_need 2 RX11 none 4 128 G) : S_X11_need_0 (X11_need) p l e R s m args below meth c G τ := by
  intro σ H locs ls l1 hP hS hf hl
  unfold X11_need at hf
  refine lv_iload_n X.1 X.2.1 dX11_need_0 rfl (lv_at hl 1 rfl) ?_
  refine r_if_ne (tgt := 9) X dX11_need_1 (by decide) (fun q => ?_) (fun q => ?_)
  · replace hf := it_inv q hf
    exact a_X11_need_9 X σ H locs ls  hP hS hf (lv_sub hl [0] rfl)
  · replace hf := ie_inv q hf
    refine lv_aload_n X.1 X.2.1 dX11_need_4 rfl (lv_at hl 0 rfl) ?_
    refine r_iconst X 1 dX11_need_5 ?_
    refine p_11_11 X hP hS (Or.inr rfl) ks_11 (tb t_1098 rfl) dX11_need_6 (fun H locs hP hS => ?_)
    obtain ⟨s1, es1, hf⟩ := lt_inv hf
    rw [es1] at hP
    exact a_X11_need_9 X s1 H locs ls  hP hS hf (lv_sub hl [0] rfl)
set_option maxHeartbeats 4000000 in
theorem c_X11_need {l : Launch} {G : GT} {σ τ : Mem} {l1 : Int} (hf : X11_need σ l1 = some τ) : CT l yX11_need cX11_need 2 none 4 128 G [.ref (gh G + 111), .int (i32 l1)] σ τ none := by
  refine CT.mk (own := RX11) (by decide) rfl (Nat.le_of_ble_eq_true rfl) ?_
  intro p e s m below meth c ls X hP hS hl
  have hl : lv_has ls 2 [(0, .ref (gh G + 111)), (1, .int (i32 l1))] := hl
  exact a_X11_need_0 X σ s.heap [] ls l1 hP hS hf hl
theorem k_X11_need {p : Program} {l : Launch} {e : Env} {R : Room} {s : State} {m : MethodId} {args : Array Value} {below : List Frame} {meth : Method} {c : Code} {H : Heap} {locs : List Loc} {Q : State → Prop} {cc : ByteArray} {nL : Nat} {own : String} {ret : Option FieldType} {fF fL : Nat} {G : GT} {pc idx : Nat} {ls : Array Slot} {rest : List Value} {σ τ : Mem} {l1 : Int} (X : CX p R s m args meth c cc nL own ret fF fL G) (hP : PW G σ H) (hS : va_S (AA G) s.heap H locs) (hls : ls.size = nL) (hf : X11_need σ l1 = some τ) (h1 : Cond.methodLink own idx yX11_need ∈ TB) (hR : 4 + 1 ≤ fF ∧ 8 + (2 + 11) + 128 ≤ fL) (hW : (rest.map fun v => v.category).sum ≤ 8) (hd : decode cc pc = .ok (.invokevirtual idx, 3)) (kk : ∀ (H1 : Heap) (locs1 : List Loc), PW G τ H1 → va_S (AA G) s.heap H1 locs1 → W p l e R s m args below meth c H1 locs1 0 0 Q (F0 m (pc + 3) ls (rest))) : W p l e R s m args below meth c H locs 0 0 Q (F0 m pc ls (.int (i32 l1) :: .ref (gh G + 111) :: rest)) := r_callV (n := 1) X hP hS hls (c_X11_need hf) h1 (tb t_1290 rfl) (tb t_41 rfl) (tb t_87 rfl) (tb t_1291 rfl) (by decide +kernel) hR (r_recv X hP (kd_lt ks_11 (by decide)) (cE_11 ks_11) rfl) rfl rfl hW hd kk
/-! X11_needs -/
theorem dX11_needs_0 : decode cX11_needs 0 = .ok (.iload_n 1, 1) := by decide +kernel
theorem dX11_needs_1 : decode cX11_needs 1 = .ok (.invokestatic 97, 3) := by decide +kernel
theorem dX11_needs_4 : decode cX11_needs 4 = .ok (.ifCond .ne 9, 3) := by decide +kernel
theorem dX11_needs_7 : decode cX11_needs 7 = .ok (.aload_n 0, 1) := by decide +kernel
theorem dX11_needs_8 : decode cX11_needs 8 = .ok (.iconst 0, 1) := by decide +kernel
theorem dX11_needs_9 : decode cX11_needs 9 = .ok (.invokevirtual 122, 3) := by decide +kernel
theorem dX11_needs_12 : decode cX11_needs 12 = .ok (.ireturn, 1) := by decide +kernel
theorem dX11_needs_13 : decode cX11_needs 13 = .ok (.aload_n 0, 1) := by decide +kernel
theorem dX11_needs_14 : decode cX11_needs 14 = .ok (.iload_n 1, 1) := by decide +kernel
theorem dX11_needs_15 : decode cX11_needs 15 = .ok (.invokevirtual 283, 3) := by decide +kernel
theorem dX11_needs_18 : decode cX11_needs 18 = .ok (.aload_n 0, 1) := by decide +kernel
theorem dX11_needs_19 : decode cX11_needs 19 = .ok (.getfield 9, 3) := by decide +kernel
theorem dX11_needs_22 : decode cX11_needs 22 = .ok (.iconst 2, 1) := by decide +kernel
theorem dX11_needs_23 : decode cX11_needs 23 = .ok (.iaload, 1) := by decide +kernel
theorem dX11_needs_24 : decode cX11_needs 24 = .ok (.istore_n 2, 1) := by decide +kernel
theorem dX11_needs_25 : decode cX11_needs 25 = .ok (.iconst 1, 1) := by decide +kernel
theorem dX11_needs_26 : decode cX11_needs 26 = .ok (.istore_n 3, 1) := by decide +kernel
theorem dX11_needs_27 : decode cX11_needs 27 = .ok (.sipush 1000, 3) := by decide +kernel
theorem dX11_needs_30 : decode cX11_needs 30 = .ok (.istore 4, 2) := by decide +kernel
theorem dX11_needs_32 : decode cX11_needs 32 = .ok (.iload_n 3, 1) := by decide +kernel
theorem dX11_needs_33 : decode cX11_needs 33 = .ok (.iload 4, 2) := by decide +kernel
theorem dX11_needs_35 : decode cX11_needs 35 = .ok (.if_icmp .ge 42, 3) := by decide +kernel
theorem dX11_needs_38 : decode cX11_needs 38 = .ok (.iload_n 3, 1) := by decide +kernel
theorem dX11_needs_39 : decode cX11_needs 39 = .ok (.iload 4, 2) := by decide +kernel
theorem dX11_needs_41 : decode cX11_needs 41 = .ok (.iadd, 1) := by decide +kernel
theorem dX11_needs_42 : decode cX11_needs 42 = .ok (.iconst 2, 1) := by decide +kernel
theorem dX11_needs_43 : decode cX11_needs 43 = .ok (.idiv, 1) := by decide +kernel
theorem dX11_needs_44 : decode cX11_needs 44 = .ok (.istore 5, 2) := by decide +kernel
theorem dX11_needs_46 : decode cX11_needs 46 = .ok (.aload_n 0, 1) := by decide +kernel
theorem dX11_needs_47 : decode cX11_needs 47 = .ok (.getfield 9, 3) := by decide +kernel
theorem dX11_needs_50 : decode cX11_needs 50 = .ok (.iconst 2, 1) := by decide +kernel
theorem dX11_needs_51 : decode cX11_needs 51 = .ok (.iload 5, 2) := by decide +kernel
theorem dX11_needs_53 : decode cX11_needs 53 = .ok (.iastore, 1) := by decide +kernel
theorem dX11_needs_54 : decode cX11_needs 54 = .ok (.aload_n 0, 1) := by decide +kernel
theorem dX11_needs_55 : decode cX11_needs 55 = .ok (.iload_n 1, 1) := by decide +kernel
theorem dX11_needs_56 : decode cX11_needs 56 = .ok (.invokevirtual 303, 3) := by decide +kernel
theorem dX11_needs_59 : decode cX11_needs 59 = .ok (.ifCond .le 10, 3) := by decide +kernel
theorem dX11_needs_62 : decode cX11_needs 62 = .ok (.iload 5, 2) := by decide +kernel
theorem dX11_needs_64 : decode cX11_needs 64 = .ok (.istore 4, 2) := by decide +kernel
theorem dX11_needs_66 : decode cX11_needs 66 = .ok (.goto 8, 3) := by decide +kernel
theorem dX11_needs_69 : decode cX11_needs 69 = .ok (.iload 5, 2) := by decide +kernel
theorem dX11_needs_71 : decode cX11_needs 71 = .ok (.iconst 1, 1) := by decide +kernel
theorem dX11_needs_72 : decode cX11_needs 72 = .ok (.iadd, 1) := by decide +kernel
theorem dX11_needs_73 : decode cX11_needs 73 = .ok (.istore_n 3, 1) := by decide +kernel
theorem dX11_needs_74 : decode cX11_needs 74 = .ok (.goto (-42), 3) := by decide +kernel
theorem dX11_needs_77 : decode cX11_needs 77 = .ok (.aload_n 0, 1) := by decide +kernel
theorem dX11_needs_78 : decode cX11_needs 78 = .ok (.getfield 9, 3) := by decide +kernel
theorem dX11_needs_81 : decode cX11_needs 81 = .ok (.iconst 2, 1) := by decide +kernel
theorem dX11_needs_82 : decode cX11_needs 82 = .ok (.iload_n 2, 1) := by decide +kernel
theorem dX11_needs_83 : decode cX11_needs 83 = .ok (.iastore, 1) := by decide +kernel
theorem dX11_needs_84 : decode cX11_needs 84 = .ok (.iload_n 3, 1) := by decide +kernel
theorem dX11_needs_85 : decode cX11_needs 85 = .ok (.sipush 999, 3) := by decide +kernel
theorem dX11_needs_88 : decode cX11_needs 88 = .ok (.if_icmp .le 11, 3) := by decide +kernel
theorem dX11_needs_91 : decode cX11_needs 91 = .ok (.aload_n 0, 1) := by decide +kernel
theorem dX11_needs_92 : decode cX11_needs 92 = .ok (.iconst 3, 1) := by decide +kernel
theorem dX11_needs_93 : decode cX11_needs 93 = .ok (.invokevirtual 122, 3) := by decide +kernel
theorem dX11_needs_96 : decode cX11_needs 96 = .ok (.goto 4, 3) := by decide +kernel
theorem dX11_needs_99 : decode cX11_needs 99 = .ok (.iload_n 3, 1) := by decide +kernel
theorem dX11_needs_100 : decode cX11_needs 100 = .ok (.ireturn, 1) := by decide +kernel
def S_X11_needs_32 (fn : Mem → Int → Int → Int → Int → Option (Int × Mem)) (p : Program) (l : Launch) (e : Env) (R : Room) (s : State) (m : MethodId) (args : Array Value) (below : List Frame) (meth : Method) (c : Code) (G : GT) (τ : Mem) (res : Int) : Prop := ∀ (σ : Mem) (H : Heap) (locs : List Loc) (ls : Array Slot) (l1 : Int) (l2 : Int) (l3 : Int) (l4 : Int), PW G σ H → va_S (AA G) s.heap H locs → fn σ l1 l2 l3 l4 = some (res, τ) → lv_has ls 6 [(0, .ref (gh G + 111)), (1, .int (i32 l1)), (2, .int (i32 l2)), (3, .int (i32 l3)), (4, .int (i32 l4))] → W p l e R s m args below meth c H locs 0 0 (MQ below (QM G (some (.int (i32 res))) τ) args s 0 0 (AA G)) (F0 m 32 ls [])
def X11_needs_B74 (rec32 : Mem → Int → Int → Int → Int → Option (Int × Mem)) (σ : Mem) (l1 : Int) (l2 : Int) (l3 : Int) (l4 : Int) : Option (Int × Mem) :=
  rec32 σ l1 l2 l3 l4
def S_X11_needs_74 (fn : Mem → Int → Int → Int → Int → Option (Int × Mem)) (p : Program) (l : Launch) (e : Env) (R : Room) (s : State) (m : MethodId) (args : Array Value) (below : List Frame) (meth : Method) (c : Code) (G : GT) (τ : Mem) (res : Int) : Prop := ∀ (σ : Mem) (H : Heap) (locs : List Loc) (ls : Array Slot) (l1 : Int) (l2 : Int) (l3 : Int) (l4 : Int), PW G σ H → va_S (AA G) s.heap H locs → fn σ l1 l2 l3 l4 = some (res, τ) → lv_has ls 6 [(0, .ref (gh G + 111)), (1, .int (i32 l1)), (2, .int (i32 l2)), (3, .int (i32 l3)), (4, .int (i32 l4))] → W p l e R s m args below meth c H locs 0 0 (MQ below (QM G (some (.int (i32 res))) τ) args s 0 0 (AA G)) (F0 m 74 ls [])
def X11_needs_B32 (rec32 : Mem → Int → Int → Int → Int → Option (Int × Mem)) (σ : Mem) (l1 : Int) (l2 : Int) (l3 : Int) (l4 : Int) : Option (Int × Mem) :=
  if w32 l4 ≤ w32 l3 then
    ag 766 2 fun j1 =>
    lt (st σ 112 j1 l2) fun s2 =>
    if w32 l3 ≤ w32 999 then
      some (l3, s2)
    else
    bd2 (X11_finds s2 3) fun r3 s4 =>
    some (r3, s4)
  else
  dg 2 <|
  lt (idv (l3 + l4) 2) fun l5_6 =>
  ag 766 2 fun j7 =>
  lt (st σ 112 j7 l5_6) fun s8 =>
  bd2 (X11_stopsOf s8 l1) fun r9 s10 =>
  if w32 r9 ≤ 0 then
    lt (l5_6 + 1) fun l3_11 =>
    X11_needs_B74 rec32 s10 l1 l2 l3_11 l4
  else
  X11_needs_B74 rec32 s10 l1 l2 l3 l5_6
def X11_needs_L32 : Nat → Mem → Int → Int → Int → Int → Option (Int × Mem)
  | 0 => fun _ _ _ _ _ => none
  | n + 1 => X11_needs_B32 (X11_needs_L32 n)
def X11_needs (σ : Mem) (l1 : Int) : Option (Int × Mem) :=
  bd (X11_isPart σ l1) fun r1 =>
  if w32 r1 ≠ 0 then
    bd (X11_findPages σ l1) fun s3 =>
    ag 766 2 fun j4 =>
    lt (s3 112 j4) fun l2_5 =>
    X11_needs_L32 5000 s3 l1 l2_5 1 1000
  else
  bd2 (X11_finds σ 0) fun r6 s7 =>
  some (r6, s7)
def S_X11_needs_0 (fn : Mem → Int → Option (Int × Mem)) (p : Program) (l : Launch) (e : Env) (R : Room) (s : State) (m : MethodId) (args : Array Value) (below : List Frame) (meth : Method) (c : Code) (G : GT) (τ : Mem) (res : Int) : Prop := ∀ (σ : Mem) (H : Heap) (locs : List Loc) (ls : Array Slot) (l1 : Int), PW G σ H → va_S (AA G) s.heap H locs → fn σ l1 = some (res, τ) → lv_has ls 6 [(0, .ref (gh G + 111)), (1, .int (i32 l1))] → W p l e R s m args below meth c H locs 0 0 (MQ below (QM G (some (.int (i32 res))) τ) args s 0 0 (AA G)) (F0 m 0 ls [])
set_option maxHeartbeats 4000000 in
theorem a_X11_needs_74 {p : Program} {l : Launch} {e : Env} {R : Room} {s : State} {m : MethodId} {args : Array Value} {below : List Frame} {meth : Method} {c : Code} {G : GT} {τ : Mem} {res : Int} {rec32 : Mem → Int → Int → Int → Int → Option (Int × Mem)} (X : CX p R s m args meth c cX11_needs 6 RX11 (some FieldType.int) 10 266 G) (h32 : S_X11_needs_32 rec32 p l e R s m args below meth c G τ res) : S_X11_needs_74 (X11_needs_B74 rec32) p l e R s m args below meth c G τ res := by
  intro σ H locs ls l1 l2 l3 l4 hP hS hf hl
  unfold X11_needs_B74 at hf
  refine lv_goto (tgt := 32) X.1 X.2.1 dX11_needs_74 (by decide) ?_
  exact h32 σ H locs ls l1 l2 l3 l4 hP hS hf hl
set_option maxHeartbeats 4000000 in
theorem a_X11_needs_32 {p : Program} {l : Launch} {e : Env} {R : Room} {s : State} {m : MethodId} {args : Array Value} {below : List Frame} {meth : Method} {c : Code} {G : GT} {τ : Mem} {res : Int} {rec32 : Mem → Int → Int → Int → Int → Option (Int × Mem)} (X : CX p R s m args meth c cX11_needs 6 RX11 (some FieldType.int) 10 266 G) (h32 : S_X11_needs_32 rec32 p l e R s m args below meth c G τ res) : S_X11_needs_32 (X11_needs_B32 rec32) p l e R s m args below meth c G τ res := by
  intro σ H locs ls l1 l2 l3 l4 hP hS hf hl
  unfold X11_needs_B32 at hf
  refine lv_iload_n X.1 X.2.1 dX11_needs_32 rfl (lv_at hl 3 rfl) ?_
  refine lv_iload X.1 X.2.1 dX11_needs_33 (lv_at hl 4 rfl) ?_
  refine r_icmp_ge (tgt := 77) X dX11_needs_35 (by decide) (fun q => ?_) (fun q => ?_)
  · replace hf := it_inv q hf
    refine lv_aload_n X.1 X.2.1 dX11_needs_77 rfl (lv_at hl 0 rfl) ?_
    refine g_11_0 (r := 112) X hP ks_11 rfl (tb t_1087 rfl) dX11_needs_78 ?_
    refine r_iconst X 2 dX11_needs_81 ?_
    refine lv_iload_n X.1 X.2.1 dX11_needs_82 rfl (lv_at hl 2 rfl) ?_
    obtain ⟨j1, hij1, hjj1, hlj1, hf⟩ := ag_inv hf
    refine r_iast X hP hS (ch_11_0 ks_11).1 (ch_11_0 ks_11).2 hij1 hjj1 dX11_needs_83 (fun H locs hP hS => ?_)
    obtain ⟨s2, es2, hf⟩ := lt_inv hf
    rw [es2] at hP
    refine lv_iload_n X.1 X.2.1 dX11_needs_84 rfl (lv_at hl 3 rfl) ?_
    refine r_sipush X 999 (by decide) dX11_needs_85 ?_
    refine r_icmp_le (tgt := 99) X dX11_needs_88 (by decide) (fun q => ?_) (fun q => ?_)
    · replace hf := it_inv q hf
      refine lv_iload_n X.1 X.2.1 dX11_needs_99 rfl (lv_at hl 3 rfl) ?_
      obtain ⟨rfl, rfl⟩ := so2_inv hf
      exact r_iret X hP hS dX11_needs_100
    · replace hf := ie_inv q hf
      refine lv_aload_n X.1 X.2.1 dX11_needs_91 rfl (lv_at hl 0 rfl) ?_
      refine r_iconst X 3 dX11_needs_92 ?_
      obtain ⟨r3, s4, hr3, hf⟩ := bd2_inv hf
      refine k_X11_finds X hP hS hl.1  hr3 (tb t_1219 rfl) (by decide) (Nat.le_of_ble_eq_true rfl) dX11_needs_93 (fun H locs hP hS => ?_)
      refine lv_goto (tgt := 100) X.1 X.2.1 dX11_needs_96 (by decide) ?_
      obtain ⟨rfl, rfl⟩ := so2_inv hf
      exact r_iret X hP hS dX11_needs_100
  · replace hf := ie_inv q hf
    refine lv_iload_n X.1 X.2.1 dX11_needs_38 rfl (lv_at hl 3 rfl) ?_
    refine lv_iload X.1 X.2.1 dX11_needs_39 (lv_at hl 4 rfl) ?_
    refine r_iadd X dX11_needs_41 ?_
    refine r_iconst X 2 dX11_needs_42 ?_
    obtain ⟨hz5, hf⟩ := dg_inv hf
    refine r_idiv X hz5 dX11_needs_43 ?_
    obtain ⟨l5_6, el5_6, hf⟩ := lt_inv hf
    refine r_eqi el5_6 ?_
    refine lv_istore (lv' := [(5, .int (i32 l5_6)), (0, .ref (gh G + 111)), (1, .int (i32 l1)), (2, .int (i32 l2)), (3, .int (i32 l3)), (4, .int (i32 l4))]) X.1 X.2.1 dX11_needs_44 hl (by decide) rfl (fun ls hl => ?_)
    refine lv_aload_n X.1 X.2.1 dX11_needs_46 rfl (lv_at hl 1 rfl) ?_
    refine g_11_0 (r := 112) X hP ks_11 rfl (tb t_1087 rfl) dX11_needs_47 ?_
    refine r_iconst X 2 dX11_needs_50 ?_
    refine lv_iload X.1 X.2.1 dX11_needs_51 (lv_at hl 0 rfl) ?_
    obtain ⟨j7, hij7, hjj7, hlj7, hf⟩ := ag_inv hf
    refine r_iast X hP hS (ch_11_0 ks_11).1 (ch_11_0 ks_11).2 hij7 hjj7 dX11_needs_53 (fun H locs hP hS => ?_)
    obtain ⟨s8, es8, hf⟩ := lt_inv hf
    rw [es8] at hP
    refine lv_aload_n X.1 X.2.1 dX11_needs_54 rfl (lv_at hl 1 rfl) ?_
    refine lv_iload_n X.1 X.2.1 dX11_needs_55 rfl (lv_at hl 2 rfl) ?_
    obtain ⟨r9, s10, hr9, hf⟩ := bd2_inv hf
    refine k_X11_stopsOf X hP hS hl.1  hr9 (tb t_1442 rfl) (by decide) (Nat.le_of_ble_eq_true rfl) dX11_needs_56 (fun H locs hP hS => ?_)
    refine r_if_le (tgt := 69) X dX11_needs_59 (by decide) (fun q => ?_) (fun q => ?_)
    · replace hf := it_inv q hf
      refine lv_iload X.1 X.2.1 dX11_needs_69 (lv_at hl 0 rfl) ?_
      refine r_iconst X 1 dX11_needs_71 ?_
      refine r_iadd X dX11_needs_72 ?_
      obtain ⟨l3_11, el3_11, hf⟩ := lt_inv hf
      refine r_eqi el3_11 ?_
      refine lv_istore_n (lv' := [(3, .int (i32 l3_11)), (5, .int (i32 l5_6)), (0, .ref (gh G + 111)), (1, .int (i32 l1)), (2, .int (i32 l2)), (4, .int (i32 l4))]) X.1 X.2.1 dX11_needs_73 rfl hl (by decide) rfl (fun ls hl => ?_)
      exact a_X11_needs_74 X h32 s10 H locs ls l1 l2 l3_11 l4 hP hS hf (lv_sub hl [2, 3, 4, 0, 5] rfl)
    · replace hf := ie_inv q hf
      refine lv_iload X.1 X.2.1 dX11_needs_62 (lv_at hl 0 rfl) ?_
      refine lv_istore (lv' := [(4, .int (i32 l5_6)), (5, .int (i32 l5_6)), (0, .ref (gh G + 111)), (1, .int (i32 l1)), (2, .int (i32 l2)), (3, .int (i32 l3))]) X.1 X.2.1 dX11_needs_64 hl (by decide) rfl (fun ls hl => ?_)
      refine lv_goto (tgt := 74) X.1 X.2.1 dX11_needs_66 (by decide) ?_
      exact a_X11_needs_74 X h32 s10 H locs ls l1 l2 l3 l5_6 hP hS hf (lv_sub hl [2, 3, 4, 5, 0] rfl)
theorem al_X11_needs_32 {p : Program} {l : Launch} {e : Env} {R : Room} {s : State} {m : MethodId} {args : Array Value} {below : List Frame} {meth : Method} {c : Code} {G : GT} {τ : Mem} {res : Int} (X : CX p R s m args meth c cX11_needs 6 RX11 (some FieldType.int) 10 266 G) : ∀ n, S_X11_needs_32 (X11_needs_L32 n) p l e R s m args below meth c G τ res := by
  intro n
  induction n with
  | zero =>
    intro σ H locs ls l1 l2 l3 l4 hP hS hf hl
    cases hf
  | succ n ih => exact a_X11_needs_32 X ih
set_option maxHeartbeats 4000000 in
theorem a_X11_needs_0 {p : Program} {l : Launch} {e : Env} {R : Room} {s : State} {m : MethodId} {args : Array Value} {below : List Frame} {meth : Method} {c : Code} {G : GT} {τ : Mem} {res : Int} (X : CX p R s m args meth c cX11_needs 6 RX11 (some FieldType.int) 10 266 G) : S_X11_needs_0 (X11_needs) p l e R s m args below meth c G τ res := by
  intro σ H locs ls l1 hP hS hf hl
  unfold X11_needs at hf
  refine lv_iload_n X.1 X.2.1 dX11_needs_0 rfl (lv_at hl 1 rfl) ?_
  obtain ⟨r1, hr1, hf⟩ := bd_inv hf
  refine k_X11_isPart X hP hS hl.1  hr1 (tb t_1204 rfl) (by decide) (Nat.le_of_ble_eq_true rfl) dX11_needs_1 (fun H locs hP hS => ?_)
  refine r_if_ne (tgt := 13) X dX11_needs_4 (by decide) (fun q => ?_) (fun q => ?_)
  · replace hf := it_inv q hf
    refine lv_aload_n X.1 X.2.1 dX11_needs_13 rfl (lv_at hl 0 rfl) ?_
    refine lv_iload_n X.1 X.2.1 dX11_needs_14 rfl (lv_at hl 1 rfl) ?_
    obtain ⟨s3, hr2, hf⟩ := bd_inv hf
    refine k_X11_findPages X hP hS hl.1  hr2 (tb t_1397 rfl) (by decide) (Nat.le_of_ble_eq_true rfl) dX11_needs_15 (fun H locs hP hS => ?_)
    refine lv_aload_n X.1 X.2.1 dX11_needs_18 rfl (lv_at hl 0 rfl) ?_
    refine g_11_0 (r := 112) X hP ks_11 rfl (tb t_1087 rfl) dX11_needs_19 ?_
    refine r_iconst X 2 dX11_needs_22 ?_
    obtain ⟨j4, hij4, hjj4, hlj4, hf⟩ := ag_inv hf
    refine r_iald X hP (ch_11_0 ks_11).1 (ch_11_0 ks_11).2 hij4 hjj4 dX11_needs_23 ?_
    obtain ⟨l2_5, el2_5, hf⟩ := lt_inv hf
    refine r_eqi el2_5 ?_
    refine lv_istore_n (lv' := [(2, .int (i32 l2_5)), (0, .ref (gh G + 111)), (1, .int (i32 l1))]) X.1 X.2.1 dX11_needs_24 rfl hl (by decide) rfl (fun ls hl => ?_)
    refine r_iconst X 1 dX11_needs_25 ?_
    refine lv_istore_n (lv' := [(3, .int (i32 1)), (2, .int (i32 l2_5)), (0, .ref (gh G + 111)), (1, .int (i32 l1))]) X.1 X.2.1 dX11_needs_26 rfl hl (by decide) rfl (fun ls hl => ?_)
    refine r_sipush X 1000 (by decide) dX11_needs_27 ?_
    refine lv_istore (lv' := [(4, .int (i32 1000)), (3, .int (i32 1)), (2, .int (i32 l2_5)), (0, .ref (gh G + 111)), (1, .int (i32 l1))]) X.1 X.2.1 dX11_needs_30 hl (by decide) rfl (fun ls hl => ?_)
    exact al_X11_needs_32 X 5000 s3 H locs ls l1 l2_5 1 1000 hP hS hf (lv_sub hl [3, 4, 2, 1, 0] rfl)
  · replace hf := ie_inv q hf
    refine lv_aload_n X.1 X.2.1 dX11_needs_7 rfl (lv_at hl 0 rfl) ?_
    refine r_iconst X 0 dX11_needs_8 ?_
    obtain ⟨r6, s7, hr6, hf⟩ := bd2_inv hf
    refine k_X11_finds X hP hS hl.1  hr6 (tb t_1219 rfl) (by decide) (Nat.le_of_ble_eq_true rfl) dX11_needs_9 (fun H locs hP hS => ?_)
    obtain ⟨rfl, rfl⟩ := so2_inv hf
    exact r_iret X hP hS dX11_needs_12
set_option maxHeartbeats 4000000 in
theorem c_X11_needs {l : Launch} {G : GT} {σ τ : Mem} {res : Int} {l1 : Int} (hf : X11_needs σ l1 = some (res, τ)) : CT l yX11_needs cX11_needs 6 (some FieldType.int) 10 266 G [.ref (gh G + 111), .int (i32 l1)] σ τ (some (.int (i32 res))) := by
  refine CT.mk (own := RX11) (by decide) rfl (Nat.le_of_ble_eq_true rfl) ?_
  intro p e s m below meth c ls X hP hS hl
  have hl : lv_has ls 6 [(0, .ref (gh G + 111)), (1, .int (i32 l1))] := hl
  exact a_X11_needs_0 X σ s.heap [] ls l1 hP hS hf hl
theorem k_X11_needs {p : Program} {l : Launch} {e : Env} {R : Room} {s : State} {m : MethodId} {args : Array Value} {below : List Frame} {meth : Method} {c : Code} {H : Heap} {locs : List Loc} {Q : State → Prop} {cc : ByteArray} {nL : Nat} {own : String} {ret : Option FieldType} {fF fL : Nat} {G : GT} {pc idx : Nat} {ls : Array Slot} {rest : List Value} {σ τ : Mem} {res : Int} {l1 : Int} (X : CX p R s m args meth c cc nL own ret fF fL G) (hP : PW G σ H) (hS : va_S (AA G) s.heap H locs) (hls : ls.size = nL) (hf : X11_needs σ l1 = some (res, τ)) (h1 : Cond.methodLink own idx yX11_needs ∈ TB) (hR : 10 + 1 ≤ fF ∧ 8 + (6 + 11) + 266 ≤ fL) (hW : (rest.map fun v => v.category).sum ≤ 8) (hd : decode cc pc = .ok (.invokevirtual idx, 3)) (kk : ∀ (H1 : Heap) (locs1 : List Loc), PW G τ H1 → va_S (AA G) s.heap H1 locs1 → W p l e R s m args below meth c H1 locs1 0 0 Q (F0 m (pc + 3) ls (.int (i32 res) :: rest))) : W p l e R s m args below meth c H locs 0 0 Q (F0 m pc ls (.int (i32 l1) :: .ref (gh G + 111) :: rest)) := r_callV (n := 1) X hP hS hls (c_X11_needs hf) h1 (tb t_1454 rfl) (tb t_1455 rfl) (tb t_87 rfl) (tb t_1456 rfl) (by decide +kernel) hR (r_recv X hP (kd_lt ks_11 (by decide)) (cE_11 ks_11) rfl) rfl rfl hW hd kk
/-! X11_page -/
theorem dX11_page_0 : decode cX11_page 0 = .ok (.aload_n 0, 1) := by decide +kernel
theorem dX11_page_1 : decode cX11_page 1 = .ok (.iload_n 1, 1) := by decide +kernel
theorem dX11_page_2 : decode cX11_page 2 = .ok (.iload_n 2, 1) := by decide +kernel
theorem dX11_page_3 : decode cX11_page 3 = .ok (.iload_n 3, 1) := by decide +kernel
theorem dX11_page_4 : decode cX11_page 4 = .ok (.iload 4, 2) := by decide +kernel
theorem dX11_page_6 : decode cX11_page 6 = .ok (.invokevirtual 240, 3) := by decide +kernel
theorem dX11_page_9 : decode cX11_page 9 = .ok (.ifCond .ne 9, 3) := by decide +kernel
theorem dX11_page_12 : decode cX11_page 12 = .ok (.aload_n 0, 1) := by decide +kernel
theorem dX11_page_13 : decode cX11_page 13 = .ok (.iconst 0, 1) := by decide +kernel
theorem dX11_page_14 : decode cX11_page 14 = .ok (.invokevirtual 122, 3) := by decide +kernel
theorem dX11_page_17 : decode cX11_page 17 = .ok (.ireturn, 1) := by decide +kernel
theorem dX11_page_18 : decode cX11_page 18 = .ok (.aload_n 0, 1) := by decide +kernel
theorem dX11_page_19 : decode cX11_page 19 = .ok (.iload_n 1, 1) := by decide +kernel
theorem dX11_page_20 : decode cX11_page 20 = .ok (.iload 4, 2) := by decide +kernel
theorem dX11_page_22 : decode cX11_page 22 = .ok (.invokevirtual 259, 3) := by decide +kernel
theorem dX11_page_25 : decode cX11_page 25 = .ok (.aload_n 0, 1) := by decide +kernel
theorem dX11_page_26 : decode cX11_page 26 = .ok (.iload 4, 2) := by decide +kernel
theorem dX11_page_28 : decode cX11_page 28 = .ok (.iload_n 3, 1) := by decide +kernel
theorem dX11_page_29 : decode cX11_page 29 = .ok (.invokevirtual 263, 3) := by decide +kernel
theorem dX11_page_32 : decode cX11_page 32 = .ok (.aload_n 0, 1) := by decide +kernel
theorem dX11_page_33 : decode cX11_page 33 = .ok (.getfield 31, 3) := by decide +kernel
theorem dX11_page_36 : decode cX11_page 36 = .ok (.bipush 41, 2) := by decide +kernel
theorem dX11_page_38 : decode cX11_page 38 = .ok (.aload_n 0, 1) := by decide +kernel
theorem dX11_page_39 : decode cX11_page 39 = .ok (.getfield 9, 3) := by decide +kernel
theorem dX11_page_42 : decode cX11_page 42 = .ok (.iconst 1, 1) := by decide +kernel
theorem dX11_page_43 : decode cX11_page 43 = .ok (.iaload, 1) := by decide +kernel
theorem dX11_page_44 : decode cX11_page 44 = .ok (.imul, 1) := by decide +kernel
theorem dX11_page_45 : decode cX11_page 45 = .ok (.iload_n 2, 1) := by decide +kernel
theorem dX11_page_46 : decode cX11_page 46 = .ok (.iadd, 1) := by decide +kernel
theorem dX11_page_47 : decode cX11_page 47 = .ok (.iaload, 1) := by decide +kernel
theorem dX11_page_48 : decode cX11_page 48 = .ok (.istore 5, 2) := by decide +kernel
theorem dX11_page_50 : decode cX11_page 50 = .ok (.iload 5, 2) := by decide +kernel
theorem dX11_page_52 : decode cX11_page 52 = .ok (.ldc_w 258, 3) := by decide +kernel
theorem dX11_page_55 : decode cX11_page 55 = .ok (.if_icmp .ge 8, 3) := by decide +kernel
theorem dX11_page_58 : decode cX11_page 58 = .ok (.iload 5, 2) := by decide +kernel
theorem dX11_page_60 : decode cX11_page 60 = .ok (.goto 8, 3) := by decide +kernel
theorem dX11_page_63 : decode cX11_page 63 = .ok (.aload_n 0, 1) := by decide +kernel
theorem dX11_page_64 : decode cX11_page 64 = .ok (.iconst 3, 1) := by decide +kernel
theorem dX11_page_65 : decode cX11_page 65 = .ok (.invokevirtual 122, 3) := by decide +kernel
theorem dX11_page_68 : decode cX11_page 68 = .ok (.ireturn, 1) := by decide +kernel
def X11_page (σ : Mem) (l1 : Int) (l2 : Int) (l3 : Int) (l4 : Int) : Option (Int × Mem) :=
  bd (X11_isSpan σ l1 l2 l3 l4) fun r1 =>
  if w32 r1 ≠ 0 then
    bd (X11_findLines σ l1 l4) fun s3 =>
    bd (X11_findTails s3 l4 l3) fun s5 =>
    ag 766 1 fun j6 =>
    ag 287 ((41 * (s5 112 j6)) + l2) fun j7 =>
    lt (s5 119 j7) fun l5_8 =>
    if w32 1000000000 ≤ w32 l5_8 then
      bd2 (X11_finds s5 3) fun r9 s10 =>
      some (r9, s10)
    else
    some (l5_8, s5)
  else
  bd2 (X11_finds σ 0) fun r11 s12 =>
  some (r11, s12)
def S_X11_page_0 (fn : Mem → Int → Int → Int → Int → Option (Int × Mem)) (p : Program) (l : Launch) (e : Env) (R : Room) (s : State) (m : MethodId) (args : Array Value) (below : List Frame) (meth : Method) (c : Code) (G : GT) (τ : Mem) (res : Int) : Prop := ∀ (σ : Mem) (H : Heap) (locs : List Loc) (ls : Array Slot) (l1 : Int) (l2 : Int) (l3 : Int) (l4 : Int), PW G σ H → va_S (AA G) s.heap H locs → fn σ l1 l2 l3 l4 = some (res, τ) → lv_has ls 6 [(0, .ref (gh G + 111)), (1, .int (i32 l1)), (2, .int (i32 l2)), (3, .int (i32 l3)), (4, .int (i32 l4))] → W p l e R s m args below meth c H locs 0 0 (MQ below (QM G (some (.int (i32 res))) τ) args s 0 0 (AA G)) (F0 m 0 ls [])
set_option maxHeartbeats 4000000 in
theorem a_X11_page_0 {p : Program} {l : Launch} {e : Env} {R : Room} {s : State} {m : MethodId} {args : Array Value} {below : List Frame} {meth : Method} {c : Code} {G : GT} {τ : Mem} {res : Int} (X : CX p R s m args meth c cX11_page 6 RX11 (some FieldType.int) 6 179 G) : S_X11_page_0 (X11_page) p l e R s m args below meth c G τ res := by
  intro σ H locs ls l1 l2 l3 l4 hP hS hf hl
  unfold X11_page at hf
  refine lv_aload_n X.1 X.2.1 dX11_page_0 rfl (lv_at hl 0 rfl) ?_
  refine lv_iload_n X.1 X.2.1 dX11_page_1 rfl (lv_at hl 1 rfl) ?_
  refine lv_iload_n X.1 X.2.1 dX11_page_2 rfl (lv_at hl 2 rfl) ?_
  refine lv_iload_n X.1 X.2.1 dX11_page_3 rfl (lv_at hl 3 rfl) ?_
  refine lv_iload X.1 X.2.1 dX11_page_4 (lv_at hl 4 rfl) ?_
  obtain ⟨r1, hr1, hf⟩ := bd_inv hf
  refine k_X11_isSpan X hP hS hl.1  hr1 (tb t_1353 rfl) (by decide) (Nat.le_of_ble_eq_true rfl) dX11_page_6 (fun H locs hP hS => ?_)
  refine r_if_ne (tgt := 18) X dX11_page_9 (by decide) (fun q => ?_) (fun q => ?_)
  · replace hf := it_inv q hf
    refine lv_aload_n X.1 X.2.1 dX11_page_18 rfl (lv_at hl 0 rfl) ?_
    refine lv_iload_n X.1 X.2.1 dX11_page_19 rfl (lv_at hl 1 rfl) ?_
    refine lv_iload X.1 X.2.1 dX11_page_20 (lv_at hl 4 rfl) ?_
    obtain ⟨s3, hr2, hf⟩ := bd_inv hf
    refine k_X11_findLines X hP hS hl.1  hr2 (tb t_1377 rfl) (by decide) (Nat.le_of_ble_eq_true rfl) dX11_page_22 (fun H locs hP hS => ?_)
    refine lv_aload_n X.1 X.2.1 dX11_page_25 rfl (lv_at hl 0 rfl) ?_
    refine lv_iload X.1 X.2.1 dX11_page_26 (lv_at hl 4 rfl) ?_
    refine lv_iload_n X.1 X.2.1 dX11_page_28 rfl (lv_at hl 3 rfl) ?_
    obtain ⟨s5, hr4, hf⟩ := bd_inv hf
    refine k_X11_findTails X hP hS hl.1  hr4 (tb t_1385 rfl) (by decide) (Nat.le_of_ble_eq_true rfl) dX11_page_29 (fun H locs hP hS => ?_)
    refine lv_aload_n X.1 X.2.1 dX11_page_32 rfl (lv_at hl 0 rfl) ?_
    refine g_11_16 (r := 119) X hP ks_11 rfl (tb t_1103 rfl) dX11_page_33 ?_
    refine r_bipush X 41 (by decide) dX11_page_36 ?_
    refine lv_aload_n X.1 X.2.1 dX11_page_38 rfl (lv_at hl 0 rfl) ?_
    refine g_11_0 (r := 112) X hP ks_11 rfl (tb t_1087 rfl) dX11_page_39 ?_
    refine r_iconst X 1 dX11_page_42 ?_
    obtain ⟨j6, hij6, hjj6, hlj6, hf⟩ := ag_inv hf
    refine r_iald X hP (ch_11_0 ks_11).1 (ch_11_0 ks_11).2 hij6 hjj6 dX11_page_43 ?_
    refine r_imul X dX11_page_44 ?_
    refine lv_iload_n X.1 X.2.1 dX11_page_45 rfl (lv_at hl 2 rfl) ?_
    refine r_iadd X dX11_page_46 ?_
    obtain ⟨j7, hij7, hjj7, hlj7, hf⟩ := ag_inv hf
    refine r_iald X hP (ch_11_16 ks_11).1 (ch_11_16 ks_11).2 hij7 hjj7 dX11_page_47 ?_
    obtain ⟨l5_8, el5_8, hf⟩ := lt_inv hf
    refine r_eqi el5_8 ?_
    refine lv_istore (lv' := [(5, .int (i32 l5_8)), (0, .ref (gh G + 111)), (1, .int (i32 l1)), (2, .int (i32 l2)), (3, .int (i32 l3)), (4, .int (i32 l4))]) X.1 X.2.1 dX11_page_48 hl (by decide) rfl (fun ls hl => ?_)
    refine lv_iload X.1 X.2.1 dX11_page_50 (lv_at hl 0 rfl) ?_
    refine r_ldcw X 1000000000 (tb t_1384 rfl) (by decide) dX11_page_52 ?_
    refine r_icmp_ge (tgt := 63) X dX11_page_55 (by decide) (fun q => ?_) (fun q => ?_)
    · replace hf := it_inv q hf
      refine lv_aload_n X.1 X.2.1 dX11_page_63 rfl (lv_at hl 1 rfl) ?_
      refine r_iconst X 3 dX11_page_64 ?_
      obtain ⟨r9, s10, hr9, hf⟩ := bd2_inv hf
      refine k_X11_finds X hP hS hl.1  hr9 (tb t_1219 rfl) (by decide) (Nat.le_of_ble_eq_true rfl) dX11_page_65 (fun H locs hP hS => ?_)
      obtain ⟨rfl, rfl⟩ := so2_inv hf
      exact r_iret X hP hS dX11_page_68
    · replace hf := ie_inv q hf
      refine lv_iload X.1 X.2.1 dX11_page_58 (lv_at hl 0 rfl) ?_
      refine lv_goto (tgt := 68) X.1 X.2.1 dX11_page_60 (by decide) ?_
      obtain ⟨rfl, rfl⟩ := so2_inv hf
      exact r_iret X hP hS dX11_page_68
  · replace hf := ie_inv q hf
    refine lv_aload_n X.1 X.2.1 dX11_page_12 rfl (lv_at hl 0 rfl) ?_
    refine r_iconst X 0 dX11_page_13 ?_
    obtain ⟨r11, s12, hr11, hf⟩ := bd2_inv hf
    refine k_X11_finds X hP hS hl.1  hr11 (tb t_1219 rfl) (by decide) (Nat.le_of_ble_eq_true rfl) dX11_page_14 (fun H locs hP hS => ?_)
    obtain ⟨rfl, rfl⟩ := so2_inv hf
    exact r_iret X hP hS dX11_page_17
set_option maxHeartbeats 4000000 in
theorem c_X11_page {l : Launch} {G : GT} {σ τ : Mem} {res : Int} {l1 : Int} {l2 : Int} {l3 : Int} {l4 : Int} (hf : X11_page σ l1 l2 l3 l4 = some (res, τ)) : CT l yX11_page cX11_page 6 (some FieldType.int) 6 179 G [.ref (gh G + 111), .int (i32 l1), .int (i32 l2), .int (i32 l3), .int (i32 l4)] σ τ (some (.int (i32 res))) := by
  refine CT.mk (own := RX11) (by decide) rfl (Nat.le_of_ble_eq_true rfl) ?_
  intro p e s m below meth c ls X hP hS hl
  have hl : lv_has ls 6 [(0, .ref (gh G + 111)), (1, .int (i32 l1)), (2, .int (i32 l2)), (3, .int (i32 l3)), (4, .int (i32 l4))] := hl
  exact a_X11_page_0 X σ s.heap [] ls l1 l2 l3 l4 hP hS hf hl
theorem k_X11_page {p : Program} {l : Launch} {e : Env} {R : Room} {s : State} {m : MethodId} {args : Array Value} {below : List Frame} {meth : Method} {c : Code} {H : Heap} {locs : List Loc} {Q : State → Prop} {cc : ByteArray} {nL : Nat} {own : String} {ret : Option FieldType} {fF fL : Nat} {G : GT} {pc idx : Nat} {ls : Array Slot} {rest : List Value} {σ τ : Mem} {res : Int} {l1 : Int} {l2 : Int} {l3 : Int} {l4 : Int} (X : CX p R s m args meth c cc nL own ret fF fL G) (hP : PW G σ H) (hS : va_S (AA G) s.heap H locs) (hls : ls.size = nL) (hf : X11_page σ l1 l2 l3 l4 = some (res, τ)) (h1 : Cond.methodLink own idx yX11_page ∈ TB) (hR : 6 + 1 ≤ fF ∧ 8 + (6 + 11) + 179 ≤ fL) (hW : (rest.map fun v => v.category).sum ≤ 8) (hd : decode cc pc = .ok (.invokevirtual idx, 3)) (kk : ∀ (H1 : Heap) (locs1 : List Loc), PW G τ H1 → va_S (AA G) s.heap H1 locs1 → W p l e R s m args below meth c H1 locs1 0 0 Q (F0 m (pc + 3) ls (.int (i32 res) :: rest))) : W p l e R s m args below meth c H locs 0 0 Q (F0 m pc ls (.int (i32 l4) :: .int (i32 l3) :: .int (i32 l2) :: .int (i32 l1) :: .ref (gh G + 111) :: rest)) := r_callV (n := 4) X hP hS hls (c_X11_page hf) h1 (tb t_1374 rfl) (tb t_1375 rfl) (tb t_87 rfl) (tb t_1376 rfl) (by decide +kernel) hR (r_recv X hP (kd_lt ks_11 (by decide)) (cE_11 ks_11) rfl) rfl rfl hW hd kk
/-! X11_pages -/
theorem dX11_pages_0 : decode cX11_pages 0 = .ok (.iload_n 1, 1) := by decide +kernel
theorem dX11_pages_1 : decode cX11_pages 1 = .ok (.invokestatic 338, 3) := by decide +kernel
theorem dX11_pages_4 : decode cX11_pages 4 = .ok (.ifCond .ne 9, 3) := by decide +kernel
theorem dX11_pages_7 : decode cX11_pages 7 = .ok (.aload_n 0, 1) := by decide +kernel
theorem dX11_pages_8 : decode cX11_pages 8 = .ok (.iconst 0, 1) := by decide +kernel
theorem dX11_pages_9 : decode cX11_pages 9 = .ok (.invokevirtual 122, 3) := by decide +kernel
theorem dX11_pages_12 : decode cX11_pages 12 = .ok (.ireturn, 1) := by decide +kernel
theorem dX11_pages_13 : decode cX11_pages 13 = .ok (.aload_n 0, 1) := by decide +kernel
theorem dX11_pages_14 : decode cX11_pages 14 = .ok (.getfield 77, 3) := by decide +kernel
theorem dX11_pages_17 : decode cX11_pages 17 = .ok (.iload_n 1, 1) := by decide +kernel
theorem dX11_pages_18 : decode cX11_pages 18 = .ok (.iaload, 1) := by decide +kernel
theorem dX11_pages_19 : decode cX11_pages 19 = .ok (.ifCond .ne 9, 3) := by decide +kernel
theorem dX11_pages_22 : decode cX11_pages 22 = .ok (.aload_n 0, 1) := by decide +kernel
theorem dX11_pages_23 : decode cX11_pages 23 = .ok (.iconst 5, 1) := by decide +kernel
theorem dX11_pages_24 : decode cX11_pages 24 = .ok (.invokevirtual 122, 3) := by decide +kernel
theorem dX11_pages_27 : decode cX11_pages 27 = .ok (.ireturn, 1) := by decide +kernel
theorem dX11_pages_28 : decode cX11_pages 28 = .ok (.iload_n 2, 1) := by decide +kernel
theorem dX11_pages_29 : decode cX11_pages 29 = .ok (.invokestatic 97, 3) := by decide +kernel
theorem dX11_pages_32 : decode cX11_pages 32 = .ok (.ifCond .ne 9, 3) := by decide +kernel
theorem dX11_pages_35 : decode cX11_pages 35 = .ok (.aload_n 0, 1) := by decide +kernel
theorem dX11_pages_36 : decode cX11_pages 36 = .ok (.iconst 0, 1) := by decide +kernel
theorem dX11_pages_37 : decode cX11_pages 37 = .ok (.invokevirtual 122, 3) := by decide +kernel
theorem dX11_pages_40 : decode cX11_pages 40 = .ok (.ireturn, 1) := by decide +kernel
theorem dX11_pages_41 : decode cX11_pages 41 = .ok (.aload_n 0, 1) := by decide +kernel
theorem dX11_pages_42 : decode cX11_pages 42 = .ok (.iload_n 2, 1) := by decide +kernel
theorem dX11_pages_43 : decode cX11_pages 43 = .ok (.invokevirtual 298, 3) := by decide +kernel
theorem dX11_pages_46 : decode cX11_pages 46 = .ok (.ifCond .ne 9, 3) := by decide +kernel
theorem dX11_pages_49 : decode cX11_pages 49 = .ok (.aload_n 0, 1) := by decide +kernel
theorem dX11_pages_50 : decode cX11_pages 50 = .ok (.iconst 3, 1) := by decide +kernel
theorem dX11_pages_51 : decode cX11_pages 51 = .ok (.invokevirtual 122, 3) := by decide +kernel
theorem dX11_pages_54 : decode cX11_pages 54 = .ok (.ireturn, 1) := by decide +kernel
theorem dX11_pages_55 : decode cX11_pages 55 = .ok (.iconst 0, 1) := by decide +kernel
theorem dX11_pages_56 : decode cX11_pages 56 = .ok (.istore_n 3, 1) := by decide +kernel
theorem dX11_pages_57 : decode cX11_pages 57 = .ok (.iload_n 3, 1) := by decide +kernel
theorem dX11_pages_58 : decode cX11_pages 58 = .ok (.aload_n 0, 1) := by decide +kernel
theorem dX11_pages_59 : decode cX11_pages 59 = .ok (.getfield 80, 3) := by decide +kernel
theorem dX11_pages_62 : decode cX11_pages 62 = .ok (.iload_n 1, 1) := by decide +kernel
theorem dX11_pages_63 : decode cX11_pages 63 = .ok (.iaload, 1) := by decide +kernel
theorem dX11_pages_64 : decode cX11_pages 64 = .ok (.if_icmp .ge 37, 3) := by decide +kernel
theorem dX11_pages_67 : decode cX11_pages 67 = .ok (.iload_n 3, 1) := by decide +kernel
theorem dX11_pages_68 : decode cX11_pages 68 = .ok (.aload_n 0, 1) := by decide +kernel
theorem dX11_pages_69 : decode cX11_pages 69 = .ok (.getfield 289, 3) := by decide +kernel
theorem dX11_pages_72 : decode cX11_pages 72 = .ok (.if_icmp .ge 29, 3) := by decide +kernel
theorem dX11_pages_75 : decode cX11_pages 75 = .ok (.aload_n 0, 1) := by decide +kernel
theorem dX11_pages_76 : decode cX11_pages 76 = .ok (.getfield 83, 3) := by decide +kernel
theorem dX11_pages_79 : decode cX11_pages 79 = .ok (.bipush 40, 2) := by decide +kernel
theorem dX11_pages_81 : decode cX11_pages 81 = .ok (.iload_n 1, 1) := by decide +kernel
theorem dX11_pages_82 : decode cX11_pages 82 = .ok (.imul, 1) := by decide +kernel
theorem dX11_pages_83 : decode cX11_pages 83 = .ok (.iload_n 3, 1) := by decide +kernel
theorem dX11_pages_84 : decode cX11_pages 84 = .ok (.iadd, 1) := by decide +kernel
theorem dX11_pages_85 : decode cX11_pages 85 = .ok (.iaload, 1) := by decide +kernel
theorem dX11_pages_86 : decode cX11_pages 86 = .ok (.aload_n 0, 1) := by decide +kernel
theorem dX11_pages_87 : decode cX11_pages 87 = .ok (.getfield 56, 3) := by decide +kernel
theorem dX11_pages_90 : decode cX11_pages 90 = .ok (.iload_n 3, 1) := by decide +kernel
theorem dX11_pages_91 : decode cX11_pages 91 = .ok (.iaload, 1) := by decide +kernel
theorem dX11_pages_92 : decode cX11_pages 92 = .ok (.if_icmp .ne 9, 3) := by decide +kernel
theorem dX11_pages_95 : decode cX11_pages 95 = .ok (.iinc 3 1, 3) := by decide +kernel
theorem dX11_pages_98 : decode cX11_pages 98 = .ok (.goto (-41), 3) := by decide +kernel
theorem dX11_pages_101 : decode cX11_pages 101 = .ok (.iload_n 3, 1) := by decide +kernel
theorem dX11_pages_102 : decode cX11_pages 102 = .ok (.aload_n 0, 1) := by decide +kernel
theorem dX11_pages_103 : decode cX11_pages 103 = .ok (.getfield 80, 3) := by decide +kernel
theorem dX11_pages_106 : decode cX11_pages 106 = .ok (.iload_n 1, 1) := by decide +kernel
theorem dX11_pages_107 : decode cX11_pages 107 = .ok (.iaload, 1) := by decide +kernel
theorem dX11_pages_108 : decode cX11_pages 108 = .ok (.if_icmp .ne 15, 3) := by decide +kernel
theorem dX11_pages_111 : decode cX11_pages 111 = .ok (.iload_n 3, 1) := by decide +kernel
theorem dX11_pages_112 : decode cX11_pages 112 = .ok (.aload_n 0, 1) := by decide +kernel
theorem dX11_pages_113 : decode cX11_pages 113 = .ok (.getfield 289, 3) := by decide +kernel
theorem dX11_pages_116 : decode cX11_pages 116 = .ok (.if_icmp .ne 7, 3) := by decide +kernel
theorem dX11_pages_119 : decode cX11_pages 119 = .ok (.iconst 0, 1) := by decide +kernel
theorem dX11_pages_120 : decode cX11_pages 120 = .ok (.goto 6, 3) := by decide +kernel
theorem dX11_pages_123 : decode cX11_pages 123 = .ok (.iconst 1, 1) := by decide +kernel
theorem dX11_pages_124 : decode cX11_pages 124 = .ok (.iload_n 3, 1) := by decide +kernel
theorem dX11_pages_125 : decode cX11_pages 125 = .ok (.iadd, 1) := by decide +kernel
theorem dX11_pages_126 : decode cX11_pages 126 = .ok (.ireturn, 1) := by decide +kernel
def S_X11_pages_57 (fn : Mem → Int → Int → Option (Int × Mem)) (p : Program) (l : Launch) (e : Env) (R : Room) (s : State) (m : MethodId) (args : Array Value) (below : List Frame) (meth : Method) (c : Code) (G : GT) (τ : Mem) (res : Int) : Prop := ∀ (σ : Mem) (H : Heap) (locs : List Loc) (ls : Array Slot) (l1 : Int) (l3 : Int), PW G σ H → va_S (AA G) s.heap H locs → fn σ l1 l3 = some (res, τ) → lv_has ls 4 [(0, .ref (gh G + 111)), (1, .int (i32 l1)), (3, .int (i32 l3))] → W p l e R s m args below meth c H locs 0 0 (MQ below (QM G (some (.int (i32 res))) τ) args s 0 0 (AA G)) (F0 m 57 ls [])
def X11_pages_B101 (σ : Mem) (l1 : Int) (l3 : Int) : Option (Int × Mem) :=
  ag 4 l1 fun j1 =>
  if w32 l3 ≠ w32 (σ 135 j1) then
    some (1 + l3, σ)
  else
  if w32 l3 ≠ w32 (σ 111 23) then
    some (1 + l3, σ)
  else
  some (0, σ)
def S_X11_pages_101 (fn : Mem → Int → Int → Option (Int × Mem)) (p : Program) (l : Launch) (e : Env) (R : Room) (s : State) (m : MethodId) (args : Array Value) (below : List Frame) (meth : Method) (c : Code) (G : GT) (τ : Mem) (res : Int) : Prop := ∀ (σ : Mem) (H : Heap) (locs : List Loc) (ls : Array Slot) (l1 : Int) (l3 : Int), PW G σ H → va_S (AA G) s.heap H locs → fn σ l1 l3 = some (res, τ) → lv_has ls 4 [(0, .ref (gh G + 111)), (1, .int (i32 l1)), (3, .int (i32 l3))] → W p l e R s m args below meth c H locs 0 0 (MQ below (QM G (some (.int (i32 res))) τ) args s 0 0 (AA G)) (F0 m 101 ls [])
def X11_pages_B57 (rec57 : Mem → Int → Int → Option (Int × Mem)) (σ : Mem) (l1 : Int) (l3 : Int) : Option (Int × Mem) :=
  ag 4 l1 fun j1 =>
  if w32 (σ 135 j1) ≤ w32 l3 then
    X11_pages_B101 σ l1 l3
  else
  if w32 (σ 111 23) ≤ w32 l3 then
    X11_pages_B101 σ l1 l3
  else
  ag 160 ((40 * l1) + l3) fun j2 =>
  ag 40 l3 fun j3 =>
  if w32 (σ 136 j2) ≠ w32 (σ 127 j3) then
    X11_pages_B101 σ l1 l3
  else
  lt (l3 + 1) fun l3_4 =>
  rec57 σ l1 l3_4
def X11_pages_L57 : Nat → Mem → Int → Int → Option (Int × Mem)
  | 0 => fun _ _ _ => none
  | n + 1 => X11_pages_B57 (X11_pages_L57 n)
def X11_pages (σ : Mem) (l1 : Int) (l2 : Int) : Option (Int × Mem) :=
  bd (X11_isSheet σ l1) fun r1 =>
  if w32 r1 ≠ 0 then
    ag 4 l1 fun j2 =>
    if w32 (σ 134 j2) ≠ 0 then
      bd (X11_isPart σ l2) fun r3 =>
      if w32 r3 ≠ 0 then
        bd2 (X11_laysOut σ l2) fun r4 s5 =>
        if w32 r4 ≠ 0 then
          X11_pages_L57 5000 s5 l1 0
        else
        bd2 (X11_finds s5 3) fun r6 s7 =>
        some (r6, s7)
      else
      bd2 (X11_finds σ 0) fun r8 s9 =>
      some (r8, s9)
    else
    bd2 (X11_finds σ 5) fun r10 s11 =>
    some (r10, s11)
  else
  bd2 (X11_finds σ 0) fun r12 s13 =>
  some (r12, s13)
def S_X11_pages_0 (fn : Mem → Int → Int → Option (Int × Mem)) (p : Program) (l : Launch) (e : Env) (R : Room) (s : State) (m : MethodId) (args : Array Value) (below : List Frame) (meth : Method) (c : Code) (G : GT) (τ : Mem) (res : Int) : Prop := ∀ (σ : Mem) (H : Heap) (locs : List Loc) (ls : Array Slot) (l1 : Int) (l2 : Int), PW G σ H → va_S (AA G) s.heap H locs → fn σ l1 l2 = some (res, τ) → lv_has ls 4 [(0, .ref (gh G + 111)), (1, .int (i32 l1)), (2, .int (i32 l2))] → W p l e R s m args below meth c H locs 0 0 (MQ below (QM G (some (.int (i32 res))) τ) args s 0 0 (AA G)) (F0 m 0 ls [])
set_option maxHeartbeats 4000000 in
theorem a_X11_pages_101 {p : Program} {l : Launch} {e : Env} {R : Room} {s : State} {m : MethodId} {args : Array Value} {below : List Frame} {meth : Method} {c : Code} {G : GT} {τ : Mem} {res : Int} (X : CX p R s m args meth c cX11_pages 4 RX11 (some FieldType.int) 10 270 G) : S_X11_pages_101 (X11_pages_B101) p l e R s m args below meth c G τ res := by
  intro σ H locs ls l1 l3 hP hS hf hl
  unfold X11_pages_B101 at hf
  refine lv_iload_n X.1 X.2.1 dX11_pages_101 rfl (lv_at hl 2 rfl) ?_
  refine lv_aload_n X.1 X.2.1 dX11_pages_102 rfl (lv_at hl 0 rfl) ?_
  refine g_11_35 (r := 135) X hP ks_11 rfl (tb t_1122 rfl) dX11_pages_103 ?_
  refine lv_iload_n X.1 X.2.1 dX11_pages_106 rfl (lv_at hl 1 rfl) ?_
  obtain ⟨j1, hij1, hjj1, hlj1, hf⟩ := ag_inv hf
  refine r_iald X hP (ch_11_35 ks_11).1 (ch_11_35 ks_11).2 hij1 hjj1 dX11_pages_107 ?_
  refine r_icmp_ne (tgt := 123) X dX11_pages_108 (by decide) (fun q => ?_) (fun q => ?_)
  · replace hf := it_inv q hf
    refine r_iconst X 1 dX11_pages_123 ?_
    refine lv_iload_n X.1 X.2.1 dX11_pages_124 rfl (lv_at hl 2 rfl) ?_
    refine r_iadd X dX11_pages_125 ?_
    obtain ⟨rfl, rfl⟩ := so2_inv hf
    exact r_iret X hP hS dX11_pages_126
  · replace hf := ie_inv q hf
    refine lv_iload_n X.1 X.2.1 dX11_pages_111 rfl (lv_at hl 2 rfl) ?_
    refine lv_aload_n X.1 X.2.1 dX11_pages_112 rfl (lv_at hl 0 rfl) ?_
    refine g_11_23 X hP ks_11 (tb t_1110 rfl) dX11_pages_113 ?_
    refine r_icmp_ne (tgt := 123) X dX11_pages_116 (by decide) (fun q => ?_) (fun q => ?_)
    · replace hf := it_inv q hf
      refine r_iconst X 1 dX11_pages_123 ?_
      refine lv_iload_n X.1 X.2.1 dX11_pages_124 rfl (lv_at hl 2 rfl) ?_
      refine r_iadd X dX11_pages_125 ?_
      obtain ⟨rfl, rfl⟩ := so2_inv hf
      exact r_iret X hP hS dX11_pages_126
    · replace hf := ie_inv q hf
      refine r_iconst X 0 dX11_pages_119 ?_
      refine lv_goto (tgt := 126) X.1 X.2.1 dX11_pages_120 (by decide) ?_
      obtain ⟨rfl, rfl⟩ := so2_inv hf
      exact r_iret X hP hS dX11_pages_126
set_option maxHeartbeats 4000000 in
theorem a_X11_pages_57 {p : Program} {l : Launch} {e : Env} {R : Room} {s : State} {m : MethodId} {args : Array Value} {below : List Frame} {meth : Method} {c : Code} {G : GT} {τ : Mem} {res : Int} {rec57 : Mem → Int → Int → Option (Int × Mem)} (X : CX p R s m args meth c cX11_pages 4 RX11 (some FieldType.int) 10 270 G) (h57 : S_X11_pages_57 rec57 p l e R s m args below meth c G τ res) : S_X11_pages_57 (X11_pages_B57 rec57) p l e R s m args below meth c G τ res := by
  intro σ H locs ls l1 l3 hP hS hf hl
  unfold X11_pages_B57 at hf
  refine lv_iload_n X.1 X.2.1 dX11_pages_57 rfl (lv_at hl 2 rfl) ?_
  refine lv_aload_n X.1 X.2.1 dX11_pages_58 rfl (lv_at hl 0 rfl) ?_
  refine g_11_35 (r := 135) X hP ks_11 rfl (tb t_1122 rfl) dX11_pages_59 ?_
  refine lv_iload_n X.1 X.2.1 dX11_pages_62 rfl (lv_at hl 1 rfl) ?_
  obtain ⟨j1, hij1, hjj1, hlj1, hf⟩ := ag_inv hf
  refine r_iald X hP (ch_11_35 ks_11).1 (ch_11_35 ks_11).2 hij1 hjj1 dX11_pages_63 ?_
  refine r_icmp_ge (tgt := 101) X dX11_pages_64 (by decide) (fun q => ?_) (fun q => ?_)
  · replace hf := it_inv q hf
    exact a_X11_pages_101 X σ H locs ls l1 l3 hP hS hf hl
  · replace hf := ie_inv q hf
    refine lv_iload_n X.1 X.2.1 dX11_pages_67 rfl (lv_at hl 2 rfl) ?_
    refine lv_aload_n X.1 X.2.1 dX11_pages_68 rfl (lv_at hl 0 rfl) ?_
    refine g_11_23 X hP ks_11 (tb t_1110 rfl) dX11_pages_69 ?_
    refine r_icmp_ge (tgt := 101) X dX11_pages_72 (by decide) (fun q => ?_) (fun q => ?_)
    · replace hf := it_inv q hf
      exact a_X11_pages_101 X σ H locs ls l1 l3 hP hS hf hl
    · replace hf := ie_inv q hf
      refine lv_aload_n X.1 X.2.1 dX11_pages_75 rfl (lv_at hl 0 rfl) ?_
      refine g_11_36 (r := 136) X hP ks_11 rfl (tb t_1123 rfl) dX11_pages_76 ?_
      refine r_bipush X 40 (by decide) dX11_pages_79 ?_
      refine lv_iload_n X.1 X.2.1 dX11_pages_81 rfl (lv_at hl 1 rfl) ?_
      refine r_imul X dX11_pages_82 ?_
      refine lv_iload_n X.1 X.2.1 dX11_pages_83 rfl (lv_at hl 2 rfl) ?_
      refine r_iadd X dX11_pages_84 ?_
      obtain ⟨j2, hij2, hjj2, hlj2, hf⟩ := ag_inv hf
      refine r_iald X hP (ch_11_36 ks_11).1 (ch_11_36 ks_11).2 hij2 hjj2 dX11_pages_85 ?_
      refine lv_aload_n X.1 X.2.1 dX11_pages_86 rfl (lv_at hl 0 rfl) ?_
      refine g_11_27 (r := 127) X hP ks_11 rfl (tb t_1114 rfl) dX11_pages_87 ?_
      refine lv_iload_n X.1 X.2.1 dX11_pages_90 rfl (lv_at hl 2 rfl) ?_
      obtain ⟨j3, hij3, hjj3, hlj3, hf⟩ := ag_inv hf
      refine r_iald X hP (ch_11_27 ks_11).1 (ch_11_27 ks_11).2 hij3 hjj3 dX11_pages_91 ?_
      refine r_icmp_ne (tgt := 101) X dX11_pages_92 (by decide) (fun q => ?_) (fun q => ?_)
      · replace hf := it_inv q hf
        exact a_X11_pages_101 X σ H locs ls l1 l3 hP hS hf hl
      · replace hf := ie_inv q hf
        obtain ⟨l3_4, el3_4, hf⟩ := lt_inv hf
        refine lv_iinc (v := i32 l3_4) (lv' := [(3, .int (i32 l3_4)), (0, .ref (gh G + 111)), (1, .int (i32 l1))]) X.1 X.2.1 dX11_pages_95 hl (k := 2) rfl (by rw [← el3_4]; exact i32_add _ _) (by decide) rfl (fun ls hl => ?_)
        refine lv_goto (tgt := 57) X.1 X.2.1 dX11_pages_98 (by decide) ?_
        exact h57 σ H locs ls l1 l3_4 hP hS hf (lv_sub hl [1, 2, 0] rfl)
theorem al_X11_pages_57 {p : Program} {l : Launch} {e : Env} {R : Room} {s : State} {m : MethodId} {args : Array Value} {below : List Frame} {meth : Method} {c : Code} {G : GT} {τ : Mem} {res : Int} (X : CX p R s m args meth c cX11_pages 4 RX11 (some FieldType.int) 10 270 G) : ∀ n, S_X11_pages_57 (X11_pages_L57 n) p l e R s m args below meth c G τ res := by
  intro n
  induction n with
  | zero =>
    intro σ H locs ls l1 l3 hP hS hf hl
    cases hf
  | succ n ih => exact a_X11_pages_57 X ih
set_option maxHeartbeats 4000000 in
theorem a_X11_pages_0 {p : Program} {l : Launch} {e : Env} {R : Room} {s : State} {m : MethodId} {args : Array Value} {below : List Frame} {meth : Method} {c : Code} {G : GT} {τ : Mem} {res : Int} (X : CX p R s m args meth c cX11_pages 4 RX11 (some FieldType.int) 10 270 G) : S_X11_pages_0 (X11_pages) p l e R s m args below meth c G τ res := by
  intro σ H locs ls l1 l2 hP hS hf hl
  unfold X11_pages at hf
  refine lv_iload_n X.1 X.2.1 dX11_pages_0 rfl (lv_at hl 1 rfl) ?_
  obtain ⟨r1, hr1, hf⟩ := bd_inv hf
  refine k_X11_isSheet X hP hS hl.1  hr1 (tb t_1532 rfl) (by decide) (Nat.le_of_ble_eq_true rfl) dX11_pages_1 (fun H locs hP hS => ?_)
  refine r_if_ne (tgt := 13) X dX11_pages_4 (by decide) (fun q => ?_) (fun q => ?_)
  · replace hf := it_inv q hf
    refine lv_aload_n X.1 X.2.1 dX11_pages_13 rfl (lv_at hl 0 rfl) ?_
    refine g_11_34 (r := 134) X hP ks_11 rfl (tb t_1121 rfl) dX11_pages_14 ?_
    refine lv_iload_n X.1 X.2.1 dX11_pages_17 rfl (lv_at hl 1 rfl) ?_
    obtain ⟨j2, hij2, hjj2, hlj2, hf⟩ := ag_inv hf
    refine r_iald X hP (ch_11_34 ks_11).1 (ch_11_34 ks_11).2 hij2 hjj2 dX11_pages_18 ?_
    refine r_if_ne (tgt := 28) X dX11_pages_19 (by decide) (fun q => ?_) (fun q => ?_)
    · replace hf := it_inv q hf
      refine lv_iload_n X.1 X.2.1 dX11_pages_28 rfl (lv_at hl 2 rfl) ?_
      obtain ⟨r3, hr3, hf⟩ := bd_inv hf
      refine k_X11_isPart X hP hS hl.1  hr3 (tb t_1204 rfl) (by decide) (Nat.le_of_ble_eq_true rfl) dX11_pages_29 (fun H locs hP hS => ?_)
      refine r_if_ne (tgt := 41) X dX11_pages_32 (by decide) (fun q => ?_) (fun q => ?_)
      · replace hf := it_inv q hf
        refine lv_aload_n X.1 X.2.1 dX11_pages_41 rfl (lv_at hl 0 rfl) ?_
        refine lv_iload_n X.1 X.2.1 dX11_pages_42 rfl (lv_at hl 2 rfl) ?_
        obtain ⟨r4, s5, hr4, hf⟩ := bd2_inv hf
        refine k_X11_laysOut X hP hS hl.1  hr4 (tb t_1393 rfl) (by decide) (Nat.le_of_ble_eq_true rfl) dX11_pages_43 (fun H locs hP hS => ?_)
        refine r_if_ne (tgt := 55) X dX11_pages_46 (by decide) (fun q => ?_) (fun q => ?_)
        · replace hf := it_inv q hf
          refine r_iconst X 0 dX11_pages_55 ?_
          refine lv_istore_n (lv' := [(3, .int (i32 0)), (0, .ref (gh G + 111)), (1, .int (i32 l1)), (2, .int (i32 l2))]) X.1 X.2.1 dX11_pages_56 rfl hl (by decide) rfl (fun ls hl => ?_)
          exact al_X11_pages_57 X 5000 s5 H locs ls l1 0 hP hS hf (lv_sub hl [1, 2, 0] rfl)
        · replace hf := ie_inv q hf
          refine lv_aload_n X.1 X.2.1 dX11_pages_49 rfl (lv_at hl 0 rfl) ?_
          refine r_iconst X 3 dX11_pages_50 ?_
          obtain ⟨r6, s7, hr6, hf⟩ := bd2_inv hf
          refine k_X11_finds X hP hS hl.1  hr6 (tb t_1219 rfl) (by decide) (Nat.le_of_ble_eq_true rfl) dX11_pages_51 (fun H locs hP hS => ?_)
          obtain ⟨rfl, rfl⟩ := so2_inv hf
          exact r_iret X hP hS dX11_pages_54
      · replace hf := ie_inv q hf
        refine lv_aload_n X.1 X.2.1 dX11_pages_35 rfl (lv_at hl 0 rfl) ?_
        refine r_iconst X 0 dX11_pages_36 ?_
        obtain ⟨r8, s9, hr8, hf⟩ := bd2_inv hf
        refine k_X11_finds X hP hS hl.1  hr8 (tb t_1219 rfl) (by decide) (Nat.le_of_ble_eq_true rfl) dX11_pages_37 (fun H locs hP hS => ?_)
        obtain ⟨rfl, rfl⟩ := so2_inv hf
        exact r_iret X hP hS dX11_pages_40
    · replace hf := ie_inv q hf
      refine lv_aload_n X.1 X.2.1 dX11_pages_22 rfl (lv_at hl 0 rfl) ?_
      refine r_iconst X 5 dX11_pages_23 ?_
      obtain ⟨r10, s11, hr10, hf⟩ := bd2_inv hf
      refine k_X11_finds X hP hS hl.1  hr10 (tb t_1219 rfl) (by decide) (Nat.le_of_ble_eq_true rfl) dX11_pages_24 (fun H locs hP hS => ?_)
      obtain ⟨rfl, rfl⟩ := so2_inv hf
      exact r_iret X hP hS dX11_pages_27
  · replace hf := ie_inv q hf
    refine lv_aload_n X.1 X.2.1 dX11_pages_7 rfl (lv_at hl 0 rfl) ?_
    refine r_iconst X 0 dX11_pages_8 ?_
    obtain ⟨r12, s13, hr12, hf⟩ := bd2_inv hf
    refine k_X11_finds X hP hS hl.1  hr12 (tb t_1219 rfl) (by decide) (Nat.le_of_ble_eq_true rfl) dX11_pages_9 (fun H locs hP hS => ?_)
    obtain ⟨rfl, rfl⟩ := so2_inv hf
    exact r_iret X hP hS dX11_pages_12
set_option maxHeartbeats 4000000 in
theorem c_X11_pages {l : Launch} {G : GT} {σ τ : Mem} {res : Int} {l1 : Int} {l2 : Int} (hf : X11_pages σ l1 l2 = some (res, τ)) : CT l yX11_pages cX11_pages 4 (some FieldType.int) 10 270 G [.ref (gh G + 111), .int (i32 l1), .int (i32 l2)] σ τ (some (.int (i32 res))) := by
  refine CT.mk (own := RX11) (by decide) rfl (Nat.le_of_ble_eq_true rfl) ?_
  intro p e s m below meth c ls X hP hS hl
  have hl : lv_has ls 4 [(0, .ref (gh G + 111)), (1, .int (i32 l1)), (2, .int (i32 l2))] := hl
  exact a_X11_pages_0 X σ s.heap [] ls l1 l2 hP hS hf hl
theorem k_X11_pages {p : Program} {l : Launch} {e : Env} {R : Room} {s : State} {m : MethodId} {args : Array Value} {below : List Frame} {meth : Method} {c : Code} {H : Heap} {locs : List Loc} {Q : State → Prop} {cc : ByteArray} {nL : Nat} {own : String} {ret : Option FieldType} {fF fL : Nat} {G : GT} {pc idx : Nat} {ls : Array Slot} {rest : List Value} {σ τ : Mem} {res : Int} {l1 : Int} {l2 : Int} (X : CX p R s m args meth c cc nL own ret fF fL G) (hP : PW G σ H) (hS : va_S (AA G) s.heap H locs) (hls : ls.size = nL) (hf : X11_pages σ l1 l2 = some (res, τ)) (h1 : Cond.methodLink own idx yX11_pages ∈ TB) (hR : 10 + 1 ≤ fF ∧ 8 + (4 + 11) + 270 ≤ fL) (hW : (rest.map fun v => v.category).sum ≤ 8) (hd : decode cc pc = .ok (.invokevirtual idx, 3)) (kk : ∀ (H1 : Heap) (locs1 : List Loc), PW G τ H1 → va_S (AA G) s.heap H1 locs1 → W p l e R s m args below meth c H1 locs1 0 0 Q (F0 m (pc + 3) ls (.int (i32 res) :: rest))) : W p l e R s m args below meth c H locs 0 0 Q (F0 m pc ls (.int (i32 l2) :: .int (i32 l1) :: .ref (gh G + 111) :: rest)) := r_callV (n := 2) X hP hS hls (c_X11_pages hf) h1 (tb t_1549 rfl) (tb t_1550 rfl) (tb t_87 rfl) (tb t_1551 rfl) (by decide +kernel) hR (r_recv X hP (kd_lt ks_11 (by decide)) (cE_11 ks_11) rfl) rfl rfl hW hd kk
/-! X11_price -/
theorem dX11_price_0 : decode cX11_price 0 = .ok (.iload_n 1, 1) := by decide +kernel
theorem dX11_price_1 : decode cX11_price 1 = .ok (.invokestatic 97, 3) := by decide +kernel
theorem dX11_price_4 : decode cX11_price 4 = .ok (.ifCond .ne 9, 3) := by decide +kernel
theorem dX11_price_7 : decode cX11_price 7 = .ok (.aload_n 0, 1) := by decide +kernel
theorem dX11_price_8 : decode cX11_price 8 = .ok (.iconst 0, 1) := by decide +kernel
theorem dX11_price_9 : decode cX11_price 9 = .ok (.invokevirtual 122, 3) := by decide +kernel
theorem dX11_price_12 : decode cX11_price 12 = .ok (.ireturn, 1) := by decide +kernel
theorem dX11_price_13 : decode cX11_price 13 = .ok (.iconst 0, 1) := by decide +kernel
theorem dX11_price_14 : decode cX11_price 14 = .ok (.istore_n 2, 1) := by decide +kernel
theorem dX11_price_15 : decode cX11_price 15 = .ok (.iconst 0, 1) := by decide +kernel
theorem dX11_price_16 : decode cX11_price 16 = .ok (.istore_n 3, 1) := by decide +kernel
theorem dX11_price_17 : decode cX11_price 17 = .ok (.iload_n 3, 1) := by decide +kernel
theorem dX11_price_18 : decode cX11_price 18 = .ok (.aload_n 0, 1) := by decide +kernel
theorem dX11_price_19 : decode cX11_price 19 = .ok (.getfield 9, 3) := by decide +kernel
theorem dX11_price_22 : decode cX11_price 22 = .ok (.sipush 665, 3) := by decide +kernel
theorem dX11_price_25 : decode cX11_price 25 = .ok (.iaload, 1) := by decide +kernel
theorem dX11_price_26 : decode cX11_price 26 = .ok (.if_icmp .ge 31, 3) := by decide +kernel
theorem dX11_price_29 : decode cX11_price 29 = .ok (.iload_n 2, 1) := by decide +kernel
theorem dX11_price_30 : decode cX11_price 30 = .ok (.aload_n 0, 1) := by decide +kernel
theorem dX11_price_31 : decode cX11_price 31 = .ok (.iload_n 3, 1) := by decide +kernel
theorem dX11_price_32 : decode cX11_price 32 = .ok (.iconst 1, 1) := by decide +kernel
theorem dX11_price_33 : decode cX11_price 33 = .ok (.invokevirtual 321, 3) := by decide +kernel
theorem dX11_price_36 : decode cX11_price 36 = .ok (.iload_n 1, 1) := by decide +kernel
theorem dX11_price_37 : decode cX11_price 37 = .ok (.if_icmp .ne 11, 3) := by decide +kernel
theorem dX11_price_40 : decode cX11_price 40 = .ok (.aload_n 0, 1) := by decide +kernel
theorem dX11_price_41 : decode cX11_price 41 = .ok (.iload_n 3, 1) := by decide +kernel
theorem dX11_price_42 : decode cX11_price 42 = .ok (.invokevirtual 330, 3) := by decide +kernel
theorem dX11_price_45 : decode cX11_price 45 = .ok (.goto 4, 3) := by decide +kernel
theorem dX11_price_48 : decode cX11_price 48 = .ok (.iconst 0, 1) := by decide +kernel
theorem dX11_price_49 : decode cX11_price 49 = .ok (.iadd, 1) := by decide +kernel
theorem dX11_price_50 : decode cX11_price 50 = .ok (.istore_n 2, 1) := by decide +kernel
theorem dX11_price_51 : decode cX11_price 51 = .ok (.iinc 3 1, 3) := by decide +kernel
theorem dX11_price_54 : decode cX11_price 54 = .ok (.goto (-37), 3) := by decide +kernel
theorem dX11_price_57 : decode cX11_price 57 = .ok (.iload_n 2, 1) := by decide +kernel
theorem dX11_price_58 : decode cX11_price 58 = .ok (.ireturn, 1) := by decide +kernel
def S_X11_price_17 (fn : Mem → Int → Int → Int → Option (Int × Mem)) (p : Program) (l : Launch) (e : Env) (R : Room) (s : State) (m : MethodId) (args : Array Value) (below : List Frame) (meth : Method) (c : Code) (G : GT) (τ : Mem) (res : Int) : Prop := ∀ (σ : Mem) (H : Heap) (locs : List Loc) (ls : Array Slot) (l1 : Int) (l2 : Int) (l3 : Int), PW G σ H → va_S (AA G) s.heap H locs → fn σ l1 l2 l3 = some (res, τ) → lv_has ls 4 [(0, .ref (gh G + 111)), (1, .int (i32 l1)), (2, .int (i32 l2)), (3, .int (i32 l3))] → W p l e R s m args below meth c H locs 0 0 (MQ below (QM G (some (.int (i32 res))) τ) args s 0 0 (AA G)) (F0 m 17 ls [])
def X11_price_B49 (rec17 : Mem → Int → Int → Int → Option (Int × Mem)) (σ : Mem) (l1 : Int) (l3 : Int) (k0 : Int) (k1 : Int) : Option (Int × Mem) :=
  lt (k0 + k1) fun l2_1 =>
  lt (l3 + 1) fun l3_2 =>
  rec17 σ l1 l2_1 l3_2
def S_X11_price_49 (fn : Mem → Int → Int → Int → Int → Option (Int × Mem)) (p : Program) (l : Launch) (e : Env) (R : Room) (s : State) (m : MethodId) (args : Array Value) (below : List Frame) (meth : Method) (c : Code) (G : GT) (τ : Mem) (res : Int) : Prop := ∀ (σ : Mem) (H : Heap) (locs : List Loc) (ls : Array Slot) (l1 : Int) (l3 : Int) (k0 : Int) (k1 : Int), PW G σ H → va_S (AA G) s.heap H locs → fn σ l1 l3 k0 k1 = some (res, τ) → lv_has ls 4 [(0, .ref (gh G + 111)), (1, .int (i32 l1)), (3, .int (i32 l3))] → W p l e R s m args below meth c H locs 0 0 (MQ below (QM G (some (.int (i32 res))) τ) args s 0 0 (AA G)) (F0 m 49 ls [.int (i32 k1), .int (i32 k0)])
def X11_price_B17 (rec17 : Mem → Int → Int → Int → Option (Int × Mem)) (σ : Mem) (l1 : Int) (l2 : Int) (l3 : Int) : Option (Int × Mem) :=
  ag 766 665 fun j1 =>
  if w32 (σ 112 j1) ≤ w32 l3 then
    some (l2, σ)
  else
  bd (X11_of σ l3 1) fun r2 =>
  if w32 r2 ≠ w32 l1 then
    X11_price_B49 rec17 σ l1 l3 l2 0
  else
  bd (X11_priceOf σ l3) fun r3 =>
  X11_price_B49 rec17 σ l1 l3 l2 r3
def X11_price_L17 : Nat → Mem → Int → Int → Int → Option (Int × Mem)
  | 0 => fun _ _ _ _ => none
  | n + 1 => X11_price_B17 (X11_price_L17 n)
def X11_price (σ : Mem) (l1 : Int) : Option (Int × Mem) :=
  bd (X11_isPart σ l1) fun r1 =>
  if w32 r1 ≠ 0 then
    X11_price_L17 5000 σ l1 0 0
  else
  bd2 (X11_finds σ 0) fun r2 s3 =>
  some (r2, s3)
def S_X11_price_0 (fn : Mem → Int → Option (Int × Mem)) (p : Program) (l : Launch) (e : Env) (R : Room) (s : State) (m : MethodId) (args : Array Value) (below : List Frame) (meth : Method) (c : Code) (G : GT) (τ : Mem) (res : Int) : Prop := ∀ (σ : Mem) (H : Heap) (locs : List Loc) (ls : Array Slot) (l1 : Int), PW G σ H → va_S (AA G) s.heap H locs → fn σ l1 = some (res, τ) → lv_has ls 4 [(0, .ref (gh G + 111)), (1, .int (i32 l1))] → W p l e R s m args below meth c H locs 0 0 (MQ below (QM G (some (.int (i32 res))) τ) args s 0 0 (AA G)) (F0 m 0 ls [])
set_option maxHeartbeats 4000000 in
theorem a_X11_price_49 {p : Program} {l : Launch} {e : Env} {R : Room} {s : State} {m : MethodId} {args : Array Value} {below : List Frame} {meth : Method} {c : Code} {G : GT} {τ : Mem} {res : Int} {rec17 : Mem → Int → Int → Int → Option (Int × Mem)} (X : CX p R s m args meth c cX11_price 4 RX11 (some FieldType.int) 7 200 G) (h17 : S_X11_price_17 rec17 p l e R s m args below meth c G τ res) : S_X11_price_49 (X11_price_B49 rec17) p l e R s m args below meth c G τ res := by
  intro σ H locs ls l1 l3 k0 k1 hP hS hf hl
  unfold X11_price_B49 at hf
  refine r_iadd X dX11_price_49 ?_
  obtain ⟨l2_1, el2_1, hf⟩ := lt_inv hf
  refine r_eqi el2_1 ?_
  refine lv_istore_n (lv' := [(2, .int (i32 l2_1)), (0, .ref (gh G + 111)), (1, .int (i32 l1)), (3, .int (i32 l3))]) X.1 X.2.1 dX11_price_50 rfl hl (by decide) rfl (fun ls hl => ?_)
  obtain ⟨l3_2, el3_2, hf⟩ := lt_inv hf
  refine lv_iinc (v := i32 l3_2) (lv' := [(3, .int (i32 l3_2)), (2, .int (i32 l2_1)), (0, .ref (gh G + 111)), (1, .int (i32 l1))]) X.1 X.2.1 dX11_price_51 hl (k := 3) rfl (by rw [← el3_2]; exact i32_add _ _) (by decide) rfl (fun ls hl => ?_)
  refine lv_goto (tgt := 17) X.1 X.2.1 dX11_price_54 (by decide) ?_
  exact h17 σ H locs ls l1 l2_1 l3_2 hP hS hf (lv_sub hl [2, 3, 1, 0] rfl)
set_option maxHeartbeats 4000000 in
theorem a_X11_price_17 {p : Program} {l : Launch} {e : Env} {R : Room} {s : State} {m : MethodId} {args : Array Value} {below : List Frame} {meth : Method} {c : Code} {G : GT} {τ : Mem} {res : Int} {rec17 : Mem → Int → Int → Int → Option (Int × Mem)} (X : CX p R s m args meth c cX11_price 4 RX11 (some FieldType.int) 7 200 G) (h17 : S_X11_price_17 rec17 p l e R s m args below meth c G τ res) : S_X11_price_17 (X11_price_B17 rec17) p l e R s m args below meth c G τ res := by
  intro σ H locs ls l1 l2 l3 hP hS hf hl
  unfold X11_price_B17 at hf
  refine lv_iload_n X.1 X.2.1 dX11_price_17 rfl (lv_at hl 3 rfl) ?_
  refine lv_aload_n X.1 X.2.1 dX11_price_18 rfl (lv_at hl 0 rfl) ?_
  refine g_11_0 (r := 112) X hP ks_11 rfl (tb t_1087 rfl) dX11_price_19 ?_
  refine r_sipush X 665 (by decide) dX11_price_22 ?_
  obtain ⟨j1, hij1, hjj1, hlj1, hf⟩ := ag_inv hf
  refine r_iald X hP (ch_11_0 ks_11).1 (ch_11_0 ks_11).2 hij1 hjj1 dX11_price_25 ?_
  refine r_icmp_ge (tgt := 57) X dX11_price_26 (by decide) (fun q => ?_) (fun q => ?_)
  · replace hf := it_inv q hf
    refine lv_iload_n X.1 X.2.1 dX11_price_57 rfl (lv_at hl 2 rfl) ?_
    obtain ⟨rfl, rfl⟩ := so2_inv hf
    exact r_iret X hP hS dX11_price_58
  · replace hf := ie_inv q hf
    refine lv_iload_n X.1 X.2.1 dX11_price_29 rfl (lv_at hl 2 rfl) ?_
    refine lv_aload_n X.1 X.2.1 dX11_price_30 rfl (lv_at hl 0 rfl) ?_
    refine lv_iload_n X.1 X.2.1 dX11_price_31 rfl (lv_at hl 3 rfl) ?_
    refine r_iconst X 1 dX11_price_32 ?_
    obtain ⟨r2, hr2, hf⟩ := bd_inv hf
    refine k_X11_of X hP hS hl.1  hr2 (tb t_1489 rfl) (by decide) (Nat.le_of_ble_eq_true rfl) dX11_price_33 (fun H locs hP hS => ?_)
    refine lv_iload_n X.1 X.2.1 dX11_price_36 rfl (lv_at hl 1 rfl) ?_
    refine r_icmp_ne (tgt := 48) X dX11_price_37 (by decide) (fun q => ?_) (fun q => ?_)
    · replace hf := it_inv q hf
      refine r_iconst X 0 dX11_price_48 ?_
      exact a_X11_price_49 X h17 σ H locs ls l1 l3 l2 0 hP hS hf (lv_sub hl [0, 1, 3] rfl)
    · replace hf := ie_inv q hf
      refine lv_aload_n X.1 X.2.1 dX11_price_40 rfl (lv_at hl 0 rfl) ?_
      refine lv_iload_n X.1 X.2.1 dX11_price_41 rfl (lv_at hl 3 rfl) ?_
      obtain ⟨r3, hr3, hf⟩ := bd_inv hf
      refine k_X11_priceOf X hP hS hl.1  hr3 (tb t_1497 rfl) (by decide) (Nat.le_of_ble_eq_true rfl) dX11_price_42 (fun H locs hP hS => ?_)
      refine lv_goto (tgt := 49) X.1 X.2.1 dX11_price_45 (by decide) ?_
      exact a_X11_price_49 X h17 σ H locs ls l1 l3 l2 r3 hP hS hf (lv_sub hl [0, 1, 3] rfl)
theorem al_X11_price_17 {p : Program} {l : Launch} {e : Env} {R : Room} {s : State} {m : MethodId} {args : Array Value} {below : List Frame} {meth : Method} {c : Code} {G : GT} {τ : Mem} {res : Int} (X : CX p R s m args meth c cX11_price 4 RX11 (some FieldType.int) 7 200 G) : ∀ n, S_X11_price_17 (X11_price_L17 n) p l e R s m args below meth c G τ res := by
  intro n
  induction n with
  | zero =>
    intro σ H locs ls l1 l2 l3 hP hS hf hl
    cases hf
  | succ n ih => exact a_X11_price_17 X ih
set_option maxHeartbeats 4000000 in
theorem a_X11_price_0 {p : Program} {l : Launch} {e : Env} {R : Room} {s : State} {m : MethodId} {args : Array Value} {below : List Frame} {meth : Method} {c : Code} {G : GT} {τ : Mem} {res : Int} (X : CX p R s m args meth c cX11_price 4 RX11 (some FieldType.int) 7 200 G) : S_X11_price_0 (X11_price) p l e R s m args below meth c G τ res := by
  intro σ H locs ls l1 hP hS hf hl
  unfold X11_price at hf
  refine lv_iload_n X.1 X.2.1 dX11_price_0 rfl (lv_at hl 1 rfl) ?_
  obtain ⟨r1, hr1, hf⟩ := bd_inv hf
  refine k_X11_isPart X hP hS hl.1  hr1 (tb t_1204 rfl) (by decide) (Nat.le_of_ble_eq_true rfl) dX11_price_1 (fun H locs hP hS => ?_)
  refine r_if_ne (tgt := 13) X dX11_price_4 (by decide) (fun q => ?_) (fun q => ?_)
  · replace hf := it_inv q hf
    refine r_iconst X 0 dX11_price_13 ?_
    refine lv_istore_n (lv' := [(2, .int (i32 0)), (0, .ref (gh G + 111)), (1, .int (i32 l1))]) X.1 X.2.1 dX11_price_14 rfl hl (by decide) rfl (fun ls hl => ?_)
    refine r_iconst X 0 dX11_price_15 ?_
    refine lv_istore_n (lv' := [(3, .int (i32 0)), (2, .int (i32 0)), (0, .ref (gh G + 111)), (1, .int (i32 l1))]) X.1 X.2.1 dX11_price_16 rfl hl (by decide) rfl (fun ls hl => ?_)
    exact al_X11_price_17 X 5000 σ H locs ls l1 0 0 hP hS hf (lv_sub hl [2, 3, 1, 0] rfl)
  · replace hf := ie_inv q hf
    refine lv_aload_n X.1 X.2.1 dX11_price_7 rfl (lv_at hl 0 rfl) ?_
    refine r_iconst X 0 dX11_price_8 ?_
    obtain ⟨r2, s3, hr2, hf⟩ := bd2_inv hf
    refine k_X11_finds X hP hS hl.1  hr2 (tb t_1219 rfl) (by decide) (Nat.le_of_ble_eq_true rfl) dX11_price_9 (fun H locs hP hS => ?_)
    obtain ⟨rfl, rfl⟩ := so2_inv hf
    exact r_iret X hP hS dX11_price_12
set_option maxHeartbeats 4000000 in
theorem c_X11_price {l : Launch} {G : GT} {σ τ : Mem} {res : Int} {l1 : Int} (hf : X11_price σ l1 = some (res, τ)) : CT l yX11_price cX11_price 4 (some FieldType.int) 7 200 G [.ref (gh G + 111), .int (i32 l1)] σ τ (some (.int (i32 res))) := by
  refine CT.mk (own := RX11) (by decide) rfl (Nat.le_of_ble_eq_true rfl) ?_
  intro p e s m below meth c ls X hP hS hl
  have hl : lv_has ls 4 [(0, .ref (gh G + 111)), (1, .int (i32 l1))] := hl
  exact a_X11_price_0 X σ s.heap [] ls l1 hP hS hf hl
theorem k_X11_price {p : Program} {l : Launch} {e : Env} {R : Room} {s : State} {m : MethodId} {args : Array Value} {below : List Frame} {meth : Method} {c : Code} {H : Heap} {locs : List Loc} {Q : State → Prop} {cc : ByteArray} {nL : Nat} {own : String} {ret : Option FieldType} {fF fL : Nat} {G : GT} {pc idx : Nat} {ls : Array Slot} {rest : List Value} {σ τ : Mem} {res : Int} {l1 : Int} (X : CX p R s m args meth c cc nL own ret fF fL G) (hP : PW G σ H) (hS : va_S (AA G) s.heap H locs) (hls : ls.size = nL) (hf : X11_price σ l1 = some (res, τ)) (h1 : Cond.methodLink own idx yX11_price ∈ TB) (hR : 7 + 1 ≤ fF ∧ 8 + (4 + 11) + 200 ≤ fL) (hW : (rest.map fun v => v.category).sum ≤ 8) (hd : decode cc pc = .ok (.invokevirtual idx, 3)) (kk : ∀ (H1 : Heap) (locs1 : List Loc), PW G τ H1 → va_S (AA G) s.heap H1 locs1 → W p l e R s m args below meth c H1 locs1 0 0 Q (F0 m (pc + 3) ls (.int (i32 res) :: rest))) : W p l e R s m args below meth c H locs 0 0 Q (F0 m pc ls (.int (i32 l1) :: .ref (gh G + 111) :: rest)) := r_callV (n := 1) X hP hS hls (c_X11_price hf) h1 (tb t_1506 rfl) (tb t_1507 rfl) (tb t_87 rfl) (tb t_1508 rfl) (by decide +kernel) hR (r_recv X hP (kd_lt ks_11 (by decide)) (cE_11 ks_11) rfl) rfl rfl hW hd kk
/-! X11_readBar -/
theorem dX11_readBar_0 : decode cX11_readBar 0 = .ok (.iconst 4, 1) := by decide +kernel
theorem dX11_readBar_1 : decode cX11_readBar 1 = .ok (.aload_n 0, 1) := by decide +kernel
theorem dX11_readBar_2 : decode cX11_readBar 2 = .ok (.getfield 182, 3) := by decide +kernel
theorem dX11_readBar_5 : decode cX11_readBar 5 = .ok (.bipush 64, 2) := by decide +kernel
theorem dX11_readBar_7 : decode cX11_readBar 7 = .ok (.if_icmp .ge 10, 3) := by decide +kernel
theorem dX11_readBar_10 : decode cX11_readBar 10 = .ok (.aload_n 0, 1) := by decide +kernel
theorem dX11_readBar_11 : decode cX11_readBar 11 = .ok (.getfield 182, 3) := by decide +kernel
theorem dX11_readBar_14 : decode cX11_readBar 14 = .ok (.goto 5, 3) := by decide +kernel
theorem dX11_readBar_17 : decode cX11_readBar 17 = .ok (.bipush 63, 2) := by decide +kernel
theorem dX11_readBar_19 : decode cX11_readBar 19 = .ok (.imul, 1) := by decide +kernel
theorem dX11_readBar_20 : decode cX11_readBar 20 = .ok (.istore_n 1, 1) := by decide +kernel
theorem dX11_readBar_21 : decode cX11_readBar 21 = .ok (.aload_n 0, 1) := by decide +kernel
theorem dX11_readBar_22 : decode cX11_readBar 22 = .ok (.getfield 22, 3) := by decide +kernel
theorem dX11_readBar_25 : decode cX11_readBar 25 = .ok (.iload_n 1, 1) := by decide +kernel
theorem dX11_readBar_26 : decode cX11_readBar 26 = .ok (.iconst 1, 1) := by decide +kernel
theorem dX11_readBar_27 : decode cX11_readBar 27 = .ok (.iadd, 1) := by decide +kernel
theorem dX11_readBar_28 : decode cX11_readBar 28 = .ok (.aload_n 0, 1) := by decide +kernel
theorem dX11_readBar_29 : decode cX11_readBar 29 = .ok (.getfield 169, 3) := by decide +kernel
theorem dX11_readBar_32 : decode cX11_readBar 32 = .ok (.iastore, 1) := by decide +kernel
theorem dX11_readBar_33 : decode cX11_readBar 33 = .ok (.aload_n 0, 1) := by decide +kernel
theorem dX11_readBar_34 : decode cX11_readBar 34 = .ok (.invokevirtual 179, 3) := by decide +kernel
theorem dX11_readBar_37 : decode cX11_readBar 37 = .ok (.aload_n 0, 1) := by decide +kernel
theorem dX11_readBar_38 : decode cX11_readBar 38 = .ok (.getfield 22, 3) := by decide +kernel
theorem dX11_readBar_41 : decode cX11_readBar 41 = .ok (.iload_n 1, 1) := by decide +kernel
theorem dX11_readBar_42 : decode cX11_readBar 42 = .ok (.aload_n 0, 1) := by decide +kernel
theorem dX11_readBar_43 : decode cX11_readBar 43 = .ok (.getfield 169, 3) := by decide +kernel
theorem dX11_readBar_46 : decode cX11_readBar 46 = .ok (.iastore, 1) := by decide +kernel
theorem dX11_readBar_47 : decode cX11_readBar 47 = .ok (.aload_n 0, 1) := by decide +kernel
theorem dX11_readBar_48 : decode cX11_readBar 48 = .ok (.aload_n 0, 1) := by decide +kernel
theorem dX11_readBar_49 : decode cX11_readBar 49 = .ok (.iconst 1, 1) := by decide +kernel
theorem dX11_readBar_50 : decode cX11_readBar 50 = .ok (.bipush 60, 2) := by decide +kernel
theorem dX11_readBar_52 : decode cX11_readBar 52 = .ok (.invokevirtual 185, 3) := by decide +kernel
theorem dX11_readBar_55 : decode cX11_readBar 55 = .ok (.invokevirtual 189, 3) := by decide +kernel
theorem dX11_readBar_58 : decode cX11_readBar 58 = .ok (.aload_n 0, 1) := by decide +kernel
theorem dX11_readBar_59 : decode cX11_readBar 59 = .ok (.getfield 22, 3) := by decide +kernel
theorem dX11_readBar_62 : decode cX11_readBar 62 = .ok (.iload_n 1, 1) := by decide +kernel
theorem dX11_readBar_63 : decode cX11_readBar 63 = .ok (.iconst 2, 1) := by decide +kernel
theorem dX11_readBar_64 : decode cX11_readBar 64 = .ok (.iadd, 1) := by decide +kernel
theorem dX11_readBar_65 : decode cX11_readBar 65 = .ok (.iconst 4, 1) := by decide +kernel
theorem dX11_readBar_66 : decode cX11_readBar 66 = .ok (.iastore, 1) := by decide +kernel
theorem dX11_readBar_67 : decode cX11_readBar 67 = .ok (.aload_n 0, 1) := by decide +kernel
theorem dX11_readBar_68 : decode cX11_readBar 68 = .ok (.getfield 22, 3) := by decide +kernel
theorem dX11_readBar_71 : decode cX11_readBar 71 = .ok (.iload_n 1, 1) := by decide +kernel
theorem dX11_readBar_72 : decode cX11_readBar 72 = .ok (.iconst 3, 1) := by decide +kernel
theorem dX11_readBar_73 : decode cX11_readBar 73 = .ok (.iadd, 1) := by decide +kernel
theorem dX11_readBar_74 : decode cX11_readBar 74 = .ok (.iconst 0, 1) := by decide +kernel
theorem dX11_readBar_75 : decode cX11_readBar 75 = .ok (.iastore, 1) := by decide +kernel
theorem dX11_readBar_76 : decode cX11_readBar 76 = .ok (.aload_n 0, 1) := by decide +kernel
theorem dX11_readBar_77 : decode cX11_readBar 77 = .ok (.iconst 3, 1) := by decide +kernel
theorem dX11_readBar_78 : decode cX11_readBar 78 = .ok (.iconst 3, 1) := by decide +kernel
theorem dX11_readBar_79 : decode cX11_readBar 79 = .ok (.invokevirtual 193, 3) := by decide +kernel
theorem dX11_readBar_82 : decode cX11_readBar 82 = .ok (.ifCond .eq 30, 3) := by decide +kernel
theorem dX11_readBar_85 : decode cX11_readBar 85 = .ok (.aload_n 0, 1) := by decide +kernel
theorem dX11_readBar_86 : decode cX11_readBar 86 = .ok (.invokevirtual 179, 3) := by decide +kernel
theorem dX11_readBar_89 : decode cX11_readBar 89 = .ok (.aload_n 0, 1) := by decide +kernel
theorem dX11_readBar_90 : decode cX11_readBar 90 = .ok (.getfield 22, 3) := by decide +kernel
theorem dX11_readBar_93 : decode cX11_readBar 93 = .ok (.iload_n 1, 1) := by decide +kernel
theorem dX11_readBar_94 : decode cX11_readBar 94 = .ok (.iconst 2, 1) := by decide +kernel
theorem dX11_readBar_95 : decode cX11_readBar 95 = .ok (.iadd, 1) := by decide +kernel
theorem dX11_readBar_96 : decode cX11_readBar 96 = .ok (.aload_n 0, 1) := by decide +kernel
theorem dX11_readBar_97 : decode cX11_readBar 97 = .ok (.getfield 169, 3) := by decide +kernel
theorem dX11_readBar_100 : decode cX11_readBar 100 = .ok (.iastore, 1) := by decide +kernel
theorem dX11_readBar_101 : decode cX11_readBar 101 = .ok (.aload_n 0, 1) := by decide +kernel
theorem dX11_readBar_102 : decode cX11_readBar 102 = .ok (.aload_n 0, 1) := by decide +kernel
theorem dX11_readBar_103 : decode cX11_readBar 103 = .ok (.iconst 1, 1) := by decide +kernel
theorem dX11_readBar_104 : decode cX11_readBar 104 = .ok (.bipush 12, 2) := by decide +kernel
theorem dX11_readBar_106 : decode cX11_readBar 106 = .ok (.invokevirtual 185, 3) := by decide +kernel
theorem dX11_readBar_109 : decode cX11_readBar 109 = .ok (.invokevirtual 189, 3) := by decide +kernel
theorem dX11_readBar_112 : decode cX11_readBar 112 = .ok (.aload_n 0, 1) := by decide +kernel
theorem dX11_readBar_113 : decode cX11_readBar 113 = .ok (.iconst 4, 1) := by decide +kernel
theorem dX11_readBar_114 : decode cX11_readBar 114 = .ok (.bipush 6, 2) := by decide +kernel
theorem dX11_readBar_116 : decode cX11_readBar 116 = .ok (.invokevirtual 193, 3) := by decide +kernel
theorem dX11_readBar_119 : decode cX11_readBar 119 = .ok (.ifCond .eq 29, 3) := by decide +kernel
theorem dX11_readBar_122 : decode cX11_readBar 122 = .ok (.aload_n 0, 1) := by decide +kernel
theorem dX11_readBar_123 : decode cX11_readBar 123 = .ok (.getfield 22, 3) := by decide +kernel
theorem dX11_readBar_126 : decode cX11_readBar 126 = .ok (.iload_n 1, 1) := by decide +kernel
theorem dX11_readBar_127 : decode cX11_readBar 127 = .ok (.iconst 3, 1) := by decide +kernel
theorem dX11_readBar_128 : decode cX11_readBar 128 = .ok (.iadd, 1) := by decide +kernel
theorem dX11_readBar_129 : decode cX11_readBar 129 = .ok (.dup2, 1) := by decide +kernel
theorem dX11_readBar_130 : decode cX11_readBar 130 = .ok (.iaload, 1) := by decide +kernel
theorem dX11_readBar_131 : decode cX11_readBar 131 = .ok (.iconst 1, 1) := by decide +kernel
theorem dX11_readBar_132 : decode cX11_readBar 132 = .ok (.aload_n 0, 1) := by decide +kernel
theorem dX11_readBar_133 : decode cX11_readBar 133 = .ok (.getfield 169, 3) := by decide +kernel
theorem dX11_readBar_136 : decode cX11_readBar 136 = .ok (.iconst 4, 1) := by decide +kernel
theorem dX11_readBar_137 : decode cX11_readBar 137 = .ok (.isub, 1) := by decide +kernel
theorem dX11_readBar_138 : decode cX11_readBar 138 = .ok (.ishl, 1) := by decide +kernel
theorem dX11_readBar_139 : decode cX11_readBar 139 = .ok (.ior, 1) := by decide +kernel
theorem dX11_readBar_140 : decode cX11_readBar 140 = .ok (.iastore, 1) := by decide +kernel
theorem dX11_readBar_141 : decode cX11_readBar 141 = .ok (.aload_n 0, 1) := by decide +kernel
theorem dX11_readBar_142 : decode cX11_readBar 142 = .ok (.invokevirtual 179, 3) := by decide +kernel
theorem dX11_readBar_145 : decode cX11_readBar 145 = .ok (.goto (-33), 3) := by decide +kernel
theorem dX11_readBar_148 : decode cX11_readBar 148 = .ok (.aload_n 0, 1) := by decide +kernel
theorem dX11_readBar_149 : decode cX11_readBar 149 = .ok (.aload_n 0, 1) := by decide +kernel
theorem dX11_readBar_150 : decode cX11_readBar 150 = .ok (.getfield 182, 3) := by decide +kernel
theorem dX11_readBar_153 : decode cX11_readBar 153 = .ok (.bipush 64, 2) := by decide +kernel
theorem dX11_readBar_155 : decode cX11_readBar 155 = .ok (.if_icmp .ge 12, 3) := by decide +kernel
theorem dX11_readBar_158 : decode cX11_readBar 158 = .ok (.aload_n 0, 1) := by decide +kernel
theorem dX11_readBar_159 : decode cX11_readBar 159 = .ok (.getfield 182, 3) := by decide +kernel
theorem dX11_readBar_162 : decode cX11_readBar 162 = .ok (.iconst 1, 1) := by decide +kernel
theorem dX11_readBar_163 : decode cX11_readBar 163 = .ok (.iadd, 1) := by decide +kernel
theorem dX11_readBar_164 : decode cX11_readBar 164 = .ok (.goto 5, 3) := by decide +kernel
theorem dX11_readBar_167 : decode cX11_readBar 167 = .ok (.bipush 64, 2) := by decide +kernel
theorem dX11_readBar_169 : decode cX11_readBar 169 = .ok (.putfield 182, 3) := by decide +kernel
theorem dX11_readBar_172 : decode cX11_readBar 172 = .ok (.return_, 1) := by decide +kernel
def S_X11_readBar_112 (fn : Mem → Int → Option (Mem)) (p : Program) (l : Launch) (e : Env) (R : Room) (s : State) (m : MethodId) (args : Array Value) (below : List Frame) (meth : Method) (c : Code) (G : GT) (τ : Mem) : Prop := ∀ (σ : Mem) (H : Heap) (locs : List Loc) (ls : Array Slot) (l1 : Int), PW G σ H → va_S (AA G) s.heap H locs → fn σ l1 = some τ → lv_has ls 2 [(0, .ref (gh G + 111)), (1, .int (i32 l1))] → W p l e R s m args below meth c H locs 0 0 (MQ below (QM G none τ) args s 0 0 (AA G)) (F0 m 112 ls [])
def X11_readBar_B112 (rec112 : Mem → Int → Option (Mem)) (σ : Mem) (l1 : Int) : Option (Mem) :=
  bd (X11_isWord σ 4 6) fun r1 =>
  if w32 r1 = 0 then
    if w32 64 ≤ w32 (σ 111 13) then
      lt (st σ 111 13 64) fun s2 =>
      some s2
    else
    lt (st σ 111 13 ((σ 111 13) + 1)) fun s3 =>
    some s3
  else
  lt (l1 + 3) fun v4 =>
  ag 256 v4 fun j5 =>
  ag 256 v4 fun j6 =>
  lt (st σ 116 j6 (iro (σ 116 j5) (isl 1 ((σ 111 9) - 4)))) fun s7 =>
  bd (X11_step s7) fun s9 =>
  rec112 s9 l1
def X11_readBar_L112 : Nat → Mem → Int → Option (Mem)
  | 0 => fun _ _ => none
  | n + 1 => X11_readBar_B112 (X11_readBar_L112 n)
def X11_readBar_B19 (σ : Mem) (k0 : Int) (k1 : Int) : Option (Mem) :=
  lt (k0 * k1) fun l1_1 =>
  ag 256 (l1_1 + 1) fun j2 =>
  lt (st σ 116 j2 (σ 111 9)) fun s3 =>
  bd (X11_step s3) fun s5 =>
  ag 256 l1_1 fun j6 =>
  lt (st s5 116 j6 (s5 111 9)) fun s7 =>
  bd (X11_isNumber s7 1 60) fun r8 =>
  bd (X11_need s7 r8) fun s10 =>
  ag 256 (l1_1 + 2) fun j11 =>
  lt (st s10 116 j11 4) fun s12 =>
  ag 256 (l1_1 + 3) fun j13 =>
  lt (st s12 116 j13 0) fun s14 =>
  bd (X11_isWord s14 3 3) fun r15 =>
  if w32 r15 = 0 then
    X11_readBar_L112 5000 s14 l1_1
  else
  bd (X11_step s14) fun s17 =>
  ag 256 (l1_1 + 2) fun j18 =>
  lt (st s17 116 j18 (s17 111 9)) fun s19 =>
  bd (X11_isNumber s19 1 12) fun r20 =>
  bd (X11_need s19 r20) fun s22 =>
  X11_readBar_L112 5000 s22 l1_1
def S_X11_readBar_19 (fn : Mem → Int → Int → Option (Mem)) (p : Program) (l : Launch) (e : Env) (R : Room) (s : State) (m : MethodId) (args : Array Value) (below : List Frame) (meth : Method) (c : Code) (G : GT) (τ : Mem) : Prop := ∀ (σ : Mem) (H : Heap) (locs : List Loc) (ls : Array Slot) (k0 : Int) (k1 : Int), PW G σ H → va_S (AA G) s.heap H locs → fn σ k0 k1 = some τ → lv_has ls 2 [(0, .ref (gh G + 111))] → W p l e R s m args below meth c H locs 0 0 (MQ below (QM G none τ) args s 0 0 (AA G)) (F0 m 19 ls [.int (i32 k1), .int (i32 k0)])
def X11_readBar (σ : Mem) : Option (Mem) :=
  if w32 64 ≤ w32 (σ 111 13) then
    X11_readBar_B19 σ 4 63
  else
  X11_readBar_B19 σ 4 (σ 111 13)
def S_X11_readBar_0 (fn : Mem → Option (Mem)) (p : Program) (l : Launch) (e : Env) (R : Room) (s : State) (m : MethodId) (args : Array Value) (below : List Frame) (meth : Method) (c : Code) (G : GT) (τ : Mem) : Prop := ∀ (σ : Mem) (H : Heap) (locs : List Loc) (ls : Array Slot), PW G σ H → va_S (AA G) s.heap H locs → fn σ = some τ → lv_has ls 2 [(0, .ref (gh G + 111))] → W p l e R s m args below meth c H locs 0 0 (MQ below (QM G none τ) args s 0 0 (AA G)) (F0 m 0 ls [])
set_option maxHeartbeats 4000000 in
theorem a_X11_readBar_112 {p : Program} {l : Launch} {e : Env} {R : Room} {s : State} {m : MethodId} {args : Array Value} {below : List Frame} {meth : Method} {c : Code} {G : GT} {τ : Mem} {rec112 : Mem → Int → Option (Mem)} (X : CX p R s m args meth c cX11_readBar 2 RX11 none 5 149 G) (h112 : S_X11_readBar_112 rec112 p l e R s m args below meth c G τ) : S_X11_readBar_112 (X11_readBar_B112 rec112) p l e R s m args below meth c G τ := by
  intro σ H locs ls l1 hP hS hf hl
  unfold X11_readBar_B112 at hf
  refine lv_aload_n X.1 X.2.1 dX11_readBar_112 rfl (lv_at hl 0 rfl) ?_
  refine r_iconst X 4 dX11_readBar_113 ?_
  refine r_bipush X 6 (by decide) dX11_readBar_114 ?_
  obtain ⟨r1, hr1, hf⟩ := bd_inv hf
  refine k_X11_isWord X hP hS hl.1  hr1 (tb t_1276 rfl) (by decide) (Nat.le_of_ble_eq_true rfl) dX11_readBar_116 (fun H locs hP hS => ?_)
  refine r_if_eq (tgt := 148) X dX11_readBar_119 (by decide) (fun q => ?_) (fun q => ?_)
  · replace hf := it_inv q hf
    refine lv_aload_n X.1 X.2.1 dX11_readBar_148 rfl (lv_at hl 0 rfl) ?_
    refine lv_aload_n X.1 X.2.1 dX11_readBar_149 rfl (lv_at hl 0 rfl) ?_
    refine g_11_13 X hP ks_11 (tb t_1100 rfl) dX11_readBar_150 ?_
    refine r_bipush X 64 (by decide) dX11_readBar_153 ?_
    refine r_icmp_ge (tgt := 167) X dX11_readBar_155 (by decide) (fun q => ?_) (fun q => ?_)
    · replace hf := it_inv q hf
      refine r_bipush X 64 (by decide) dX11_readBar_167 ?_
      refine p_11_13 X hP hS ks_11 (tb t_1100 rfl) dX11_readBar_169 (fun H locs hP hS => ?_)
      obtain ⟨s2, es2, hf⟩ := lt_inv hf
      rw [es2] at hP
      cases so_inv hf
      exact r_vret X hP hS dX11_readBar_172
    · replace hf := ie_inv q hf
      refine lv_aload_n X.1 X.2.1 dX11_readBar_158 rfl (lv_at hl 0 rfl) ?_
      refine g_11_13 X hP ks_11 (tb t_1100 rfl) dX11_readBar_159 ?_
      refine r_iconst X 1 dX11_readBar_162 ?_
      refine r_iadd X dX11_readBar_163 ?_
      refine lv_goto (tgt := 169) X.1 X.2.1 dX11_readBar_164 (by decide) ?_
      refine p_11_13 X hP hS ks_11 (tb t_1100 rfl) dX11_readBar_169 (fun H locs hP hS => ?_)
      obtain ⟨s3, es3, hf⟩ := lt_inv hf
      rw [es3] at hP
      cases so_inv hf
      exact r_vret X hP hS dX11_readBar_172
  · replace hf := ie_inv q hf
    refine lv_aload_n X.1 X.2.1 dX11_readBar_122 rfl (lv_at hl 0 rfl) ?_
    refine g_11_12 (r := 116) X hP ks_11 rfl (tb t_1099 rfl) dX11_readBar_123 ?_
    refine lv_iload_n X.1 X.2.1 dX11_readBar_126 rfl (lv_at hl 1 rfl) ?_
    refine r_iconst X 3 dX11_readBar_127 ?_
    refine r_iadd X dX11_readBar_128 ?_
    obtain ⟨v4, ev4, hf⟩ := lt_inv hf
    refine r_eqi ev4 ?_
    refine lv_dup2_11 X.1 X.2.1 dX11_readBar_129 rfl rfl ?_
    obtain ⟨j5, hij5, hjj5, hlj5, hf⟩ := ag_inv hf
    refine r_iald X hP (ch_11_12 ks_11).1 (ch_11_12 ks_11).2 hij5 hjj5 dX11_readBar_130 ?_
    refine r_iconst X 1 dX11_readBar_131 ?_
    refine lv_aload_n X.1 X.2.1 dX11_readBar_132 rfl (lv_at hl 0 rfl) ?_
    refine g_11_9 X hP ks_11 (tb t_1096 rfl) dX11_readBar_133 ?_
    refine r_iconst X 4 dX11_readBar_136 ?_
    refine r_isub X dX11_readBar_137 ?_
    refine r_ishl X dX11_readBar_138 ?_
    refine r_ior X dX11_readBar_139 ?_
    obtain ⟨j6, hij6, hjj6, hlj6, hf⟩ := ag_inv hf
    refine r_iast X hP hS (ch_11_12 ks_11).1 (ch_11_12 ks_11).2 hij6 hjj6 dX11_readBar_140 (fun H locs hP hS => ?_)
    obtain ⟨s7, es7, hf⟩ := lt_inv hf
    rw [es7] at hP
    refine lv_aload_n X.1 X.2.1 dX11_readBar_141 rfl (lv_at hl 0 rfl) ?_
    obtain ⟨s9, hr8, hf⟩ := bd_inv hf
    refine k_X11_step X hP hS hl.1  hr8 (tb t_1246 rfl) (by decide) (Nat.le_of_ble_eq_true rfl) dX11_readBar_142 (fun H locs hP hS => ?_)
    refine lv_goto (tgt := 112) X.1 X.2.1 dX11_readBar_145 (by decide) ?_
    exact h112 s9 H locs ls l1 hP hS hf hl
theorem al_X11_readBar_112 {p : Program} {l : Launch} {e : Env} {R : Room} {s : State} {m : MethodId} {args : Array Value} {below : List Frame} {meth : Method} {c : Code} {G : GT} {τ : Mem} (X : CX p R s m args meth c cX11_readBar 2 RX11 none 5 149 G) : ∀ n, S_X11_readBar_112 (X11_readBar_L112 n) p l e R s m args below meth c G τ := by
  intro n
  induction n with
  | zero =>
    intro σ H locs ls l1 hP hS hf hl
    cases hf
  | succ n ih => exact a_X11_readBar_112 X ih
set_option maxHeartbeats 4000000 in
theorem a_X11_readBar_19 {p : Program} {l : Launch} {e : Env} {R : Room} {s : State} {m : MethodId} {args : Array Value} {below : List Frame} {meth : Method} {c : Code} {G : GT} {τ : Mem} (X : CX p R s m args meth c cX11_readBar 2 RX11 none 5 149 G) : S_X11_readBar_19 (X11_readBar_B19) p l e R s m args below meth c G τ := by
  intro σ H locs ls k0 k1 hP hS hf hl
  unfold X11_readBar_B19 at hf
  refine r_imul X dX11_readBar_19 ?_
  obtain ⟨l1_1, el1_1, hf⟩ := lt_inv hf
  refine r_eqi el1_1 ?_
  refine lv_istore_n (lv' := [(1, .int (i32 l1_1)), (0, .ref (gh G + 111))]) X.1 X.2.1 dX11_readBar_20 rfl hl (by decide) rfl (fun ls hl => ?_)
  refine lv_aload_n X.1 X.2.1 dX11_readBar_21 rfl (lv_at hl 1 rfl) ?_
  refine g_11_12 (r := 116) X hP ks_11 rfl (tb t_1099 rfl) dX11_readBar_22 ?_
  refine lv_iload_n X.1 X.2.1 dX11_readBar_25 rfl (lv_at hl 0 rfl) ?_
  refine r_iconst X 1 dX11_readBar_26 ?_
  refine r_iadd X dX11_readBar_27 ?_
  refine lv_aload_n X.1 X.2.1 dX11_readBar_28 rfl (lv_at hl 1 rfl) ?_
  refine g_11_9 X hP ks_11 (tb t_1096 rfl) dX11_readBar_29 ?_
  obtain ⟨j2, hij2, hjj2, hlj2, hf⟩ := ag_inv hf
  refine r_iast X hP hS (ch_11_12 ks_11).1 (ch_11_12 ks_11).2 hij2 hjj2 dX11_readBar_32 (fun H locs hP hS => ?_)
  obtain ⟨s3, es3, hf⟩ := lt_inv hf
  rw [es3] at hP
  refine lv_aload_n X.1 X.2.1 dX11_readBar_33 rfl (lv_at hl 1 rfl) ?_
  obtain ⟨s5, hr4, hf⟩ := bd_inv hf
  refine k_X11_step X hP hS hl.1  hr4 (tb t_1246 rfl) (by decide) (Nat.le_of_ble_eq_true rfl) dX11_readBar_34 (fun H locs hP hS => ?_)
  refine lv_aload_n X.1 X.2.1 dX11_readBar_37 rfl (lv_at hl 1 rfl) ?_
  refine g_11_12 (r := 116) X hP ks_11 rfl (tb t_1099 rfl) dX11_readBar_38 ?_
  refine lv_iload_n X.1 X.2.1 dX11_readBar_41 rfl (lv_at hl 0 rfl) ?_
  refine lv_aload_n X.1 X.2.1 dX11_readBar_42 rfl (lv_at hl 1 rfl) ?_
  refine g_11_9 X hP ks_11 (tb t_1096 rfl) dX11_readBar_43 ?_
  obtain ⟨j6, hij6, hjj6, hlj6, hf⟩ := ag_inv hf
  refine r_iast X hP hS (ch_11_12 ks_11).1 (ch_11_12 ks_11).2 hij6 hjj6 dX11_readBar_46 (fun H locs hP hS => ?_)
  obtain ⟨s7, es7, hf⟩ := lt_inv hf
  rw [es7] at hP
  refine lv_aload_n X.1 X.2.1 dX11_readBar_47 rfl (lv_at hl 1 rfl) ?_
  refine lv_aload_n X.1 X.2.1 dX11_readBar_48 rfl (lv_at hl 1 rfl) ?_
  refine r_iconst X 1 dX11_readBar_49 ?_
  refine r_bipush X 60 (by decide) dX11_readBar_50 ?_
  obtain ⟨r8, hr8, hf⟩ := bd_inv hf
  refine k_X11_isNumber X hP hS hl.1  hr8 (tb t_1284 rfl) (by decide) (Nat.le_of_ble_eq_true rfl) dX11_readBar_52 (fun H locs hP hS => ?_)
  obtain ⟨s10, hr9, hf⟩ := bd_inv hf
  refine k_X11_need X hP hS hl.1  hr9 (tb t_1288 rfl) (by decide) (Nat.le_of_ble_eq_true rfl) dX11_readBar_55 (fun H locs hP hS => ?_)
  refine lv_aload_n X.1 X.2.1 dX11_readBar_58 rfl (lv_at hl 1 rfl) ?_
  refine g_11_12 (r := 116) X hP ks_11 rfl (tb t_1099 rfl) dX11_readBar_59 ?_
  refine lv_iload_n X.1 X.2.1 dX11_readBar_62 rfl (lv_at hl 0 rfl) ?_
  refine r_iconst X 2 dX11_readBar_63 ?_
  refine r_iadd X dX11_readBar_64 ?_
  refine r_iconst X 4 dX11_readBar_65 ?_
  obtain ⟨j11, hij11, hjj11, hlj11, hf⟩ := ag_inv hf
  refine r_iast X hP hS (ch_11_12 ks_11).1 (ch_11_12 ks_11).2 hij11 hjj11 dX11_readBar_66 (fun H locs hP hS => ?_)
  obtain ⟨s12, es12, hf⟩ := lt_inv hf
  rw [es12] at hP
  refine lv_aload_n X.1 X.2.1 dX11_readBar_67 rfl (lv_at hl 1 rfl) ?_
  refine g_11_12 (r := 116) X hP ks_11 rfl (tb t_1099 rfl) dX11_readBar_68 ?_
  refine lv_iload_n X.1 X.2.1 dX11_readBar_71 rfl (lv_at hl 0 rfl) ?_
  refine r_iconst X 3 dX11_readBar_72 ?_
  refine r_iadd X dX11_readBar_73 ?_
  refine r_iconst X 0 dX11_readBar_74 ?_
  obtain ⟨j13, hij13, hjj13, hlj13, hf⟩ := ag_inv hf
  refine r_iast X hP hS (ch_11_12 ks_11).1 (ch_11_12 ks_11).2 hij13 hjj13 dX11_readBar_75 (fun H locs hP hS => ?_)
  obtain ⟨s14, es14, hf⟩ := lt_inv hf
  rw [es14] at hP
  refine lv_aload_n X.1 X.2.1 dX11_readBar_76 rfl (lv_at hl 1 rfl) ?_
  refine r_iconst X 3 dX11_readBar_77 ?_
  refine r_iconst X 3 dX11_readBar_78 ?_
  obtain ⟨r15, hr15, hf⟩ := bd_inv hf
  refine k_X11_isWord X hP hS hl.1  hr15 (tb t_1276 rfl) (by decide) (Nat.le_of_ble_eq_true rfl) dX11_readBar_79 (fun H locs hP hS => ?_)
  refine r_if_eq (tgt := 112) X dX11_readBar_82 (by decide) (fun q => ?_) (fun q => ?_)
  · replace hf := it_inv q hf
    exact al_X11_readBar_112 X 5000 s14 H locs ls l1_1 hP hS hf (lv_sub hl [1, 0] rfl)
  · replace hf := ie_inv q hf
    refine lv_aload_n X.1 X.2.1 dX11_readBar_85 rfl (lv_at hl 1 rfl) ?_
    obtain ⟨s17, hr16, hf⟩ := bd_inv hf
    refine k_X11_step X hP hS hl.1  hr16 (tb t_1246 rfl) (by decide) (Nat.le_of_ble_eq_true rfl) dX11_readBar_86 (fun H locs hP hS => ?_)
    refine lv_aload_n X.1 X.2.1 dX11_readBar_89 rfl (lv_at hl 1 rfl) ?_
    refine g_11_12 (r := 116) X hP ks_11 rfl (tb t_1099 rfl) dX11_readBar_90 ?_
    refine lv_iload_n X.1 X.2.1 dX11_readBar_93 rfl (lv_at hl 0 rfl) ?_
    refine r_iconst X 2 dX11_readBar_94 ?_
    refine r_iadd X dX11_readBar_95 ?_
    refine lv_aload_n X.1 X.2.1 dX11_readBar_96 rfl (lv_at hl 1 rfl) ?_
    refine g_11_9 X hP ks_11 (tb t_1096 rfl) dX11_readBar_97 ?_
    obtain ⟨j18, hij18, hjj18, hlj18, hf⟩ := ag_inv hf
    refine r_iast X hP hS (ch_11_12 ks_11).1 (ch_11_12 ks_11).2 hij18 hjj18 dX11_readBar_100 (fun H locs hP hS => ?_)
    obtain ⟨s19, es19, hf⟩ := lt_inv hf
    rw [es19] at hP
    refine lv_aload_n X.1 X.2.1 dX11_readBar_101 rfl (lv_at hl 1 rfl) ?_
    refine lv_aload_n X.1 X.2.1 dX11_readBar_102 rfl (lv_at hl 1 rfl) ?_
    refine r_iconst X 1 dX11_readBar_103 ?_
    refine r_bipush X 12 (by decide) dX11_readBar_104 ?_
    obtain ⟨r20, hr20, hf⟩ := bd_inv hf
    refine k_X11_isNumber X hP hS hl.1  hr20 (tb t_1284 rfl) (by decide) (Nat.le_of_ble_eq_true rfl) dX11_readBar_106 (fun H locs hP hS => ?_)
    obtain ⟨s22, hr21, hf⟩ := bd_inv hf
    refine k_X11_need X hP hS hl.1  hr21 (tb t_1288 rfl) (by decide) (Nat.le_of_ble_eq_true rfl) dX11_readBar_109 (fun H locs hP hS => ?_)
    exact al_X11_readBar_112 X 5000 s22 H locs ls l1_1 hP hS hf (lv_sub hl [1, 0] rfl)
set_option maxHeartbeats 4000000 in
theorem a_X11_readBar_0 {p : Program} {l : Launch} {e : Env} {R : Room} {s : State} {m : MethodId} {args : Array Value} {below : List Frame} {meth : Method} {c : Code} {G : GT} {τ : Mem} (X : CX p R s m args meth c cX11_readBar 2 RX11 none 5 149 G) : S_X11_readBar_0 (X11_readBar) p l e R s m args below meth c G τ := by
  intro σ H locs ls hP hS hf hl
  unfold X11_readBar at hf
  refine r_iconst X 4 dX11_readBar_0 ?_
  refine lv_aload_n X.1 X.2.1 dX11_readBar_1 rfl (lv_at hl 0 rfl) ?_
  refine g_11_13 X hP ks_11 (tb t_1100 rfl) dX11_readBar_2 ?_
  refine r_bipush X 64 (by decide) dX11_readBar_5 ?_
  refine r_icmp_ge (tgt := 17) X dX11_readBar_7 (by decide) (fun q => ?_) (fun q => ?_)
  · replace hf := it_inv q hf
    refine r_bipush X 63 (by decide) dX11_readBar_17 ?_
    exact a_X11_readBar_19 X σ H locs ls 4 63 hP hS hf hl
  · replace hf := ie_inv q hf
    refine lv_aload_n X.1 X.2.1 dX11_readBar_10 rfl (lv_at hl 0 rfl) ?_
    refine g_11_13 X hP ks_11 (tb t_1100 rfl) dX11_readBar_11 ?_
    refine lv_goto (tgt := 19) X.1 X.2.1 dX11_readBar_14 (by decide) ?_
    exact a_X11_readBar_19 X σ H locs ls 4 (σ 111 13) hP hS hf hl
set_option maxHeartbeats 4000000 in
theorem c_X11_readBar {l : Launch} {G : GT} {σ τ : Mem} (hf : X11_readBar σ = some τ) : CT l yX11_readBar cX11_readBar 2 none 5 149 G [.ref (gh G + 111)] σ τ none := by
  refine CT.mk (own := RX11) (by decide) rfl (Nat.le_of_ble_eq_true rfl) ?_
  intro p e s m below meth c ls X hP hS hl
  have hl : lv_has ls 2 [(0, .ref (gh G + 111))] := hl
  exact a_X11_readBar_0 X σ s.heap [] ls hP hS hf hl
theorem k_X11_readBar {p : Program} {l : Launch} {e : Env} {R : Room} {s : State} {m : MethodId} {args : Array Value} {below : List Frame} {meth : Method} {c : Code} {H : Heap} {locs : List Loc} {Q : State → Prop} {cc : ByteArray} {nL : Nat} {own : String} {ret : Option FieldType} {fF fL : Nat} {G : GT} {pc idx : Nat} {ls : Array Slot} {rest : List Value} {σ τ : Mem} (X : CX p R s m args meth c cc nL own ret fF fL G) (hP : PW G σ H) (hS : va_S (AA G) s.heap H locs) (hls : ls.size = nL) (hf : X11_readBar σ = some τ) (h1 : Cond.methodLink own idx yX11_readBar ∈ TB) (hR : 5 + 1 ≤ fF ∧ 8 + (2 + 11) + 149 ≤ fL) (hW : (rest.map fun v => v.category).sum ≤ 8) (hd : decode cc pc = .ok (.invokevirtual idx, 3)) (kk : ∀ (H1 : Heap) (locs1 : List Loc), PW G τ H1 → va_S (AA G) s.heap H1 locs1 → W p l e R s m args below meth c H1 locs1 0 0 Q (F0 m (pc + 3) ls (rest))) : W p l e R s m args below meth c H locs 0 0 Q (F0 m pc ls (.ref (gh G + 111) :: rest)) := r_callV (n := 0) X hP hS hls (c_X11_readBar hf) h1 (tb t_1282 rfl) (tb t_39 rfl) (tb t_87 rfl) (tb t_1283 rfl) (by decide +kernel) hR (r_recv X hP (kd_lt ks_11 (by decide)) (cE_11 ks_11) rfl) rfl rfl hW hd kk
theorem kt_X11_readText {p : Program} {l : Launch} {e : Env} {R : Room} {s : State} {m : MethodId} {args : Array Value} {below : List Frame} {meth : Method} {c : Code} {H : Heap} {locs : List Loc} {Q : State → Prop} {cc : ByteArray} {nL : Nat} {own : String} {ret : Option FieldType} {fF fL : Nat} {G : GT} {pc idx : Nat} {ls : Array Slot} {rest : List Value} {σ τ : Mem} {recT : Mem → Option Mem} {fT lT : Nat} (HT : ∀ {σ τ : Mem}, recT σ = some τ → CT l yX11_readText cX11_readText 1 none fT lT G [.ref (gh G + 111)] σ τ none) (X : CX p R s m args meth c cc nL own ret fF fL G) (hP : PW G σ H) (hS : va_S (AA G) s.heap H locs) (hls : ls.size = nL) (hf : recT σ = some τ) (h1 : Cond.methodLink own idx yX11_readText ∈ TB) (hR : fT + 1 ≤ fF ∧ 8 + (1 + 11) + lT ≤ fL) (hW : (rest.map fun v => v.category).sum ≤ 8) (hd : decode cc pc = .ok (.invokevirtual idx, 3)) (kk : ∀ (H1 : Heap) (locs1 : List Loc), PW G τ H1 → va_S (AA G) s.heap H1 locs1 → W p l e R s m args below meth c H1 locs1 0 0 Q (F0 m (pc + 3) ls (rest))) : W p l e R s m args below meth c H locs 0 0 Q (F0 m pc ls (.ref (gh G + 111) :: rest)) := r_callV (n := 0) X hP hS hls (HT hf) h1 (tb t_1270 rfl) (tb t_36 rfl) (tb t_87 rfl) (tb t_1271 rfl) (by decide +kernel) hR (r_recv X hP (kd_lt ks_11 (by decide)) (cE_11 ks_11) rfl) rfl rfl hW hd kk
/-! X11_readTimes -/
theorem dX11_readTimes_0 : decode cX11_readTimes 0 = .ok (.aload_n 0, 1) := by decide +kernel
theorem dX11_readTimes_1 : decode cX11_readTimes 1 = .ok (.getfield 169, 3) := by decide +kernel
theorem dX11_readTimes_4 : decode cX11_readTimes 4 = .ok (.istore_n 1, 1) := by decide +kernel
theorem dX11_readTimes_5 : decode cX11_readTimes 5 = .ok (.aload_n 0, 1) := by decide +kernel
theorem dX11_readTimes_6 : decode cX11_readTimes 6 = .ok (.getfield 182, 3) := by decide +kernel
theorem dX11_readTimes_9 : decode cX11_readTimes 9 = .ok (.istore_n 2, 1) := by decide +kernel
theorem dX11_readTimes_10 : decode cX11_readTimes 10 = .ok (.aload_n 0, 1) := by decide +kernel
theorem dX11_readTimes_11 : decode cX11_readTimes 11 = .ok (.aload_n 0, 1) := by decide +kernel
theorem dX11_readTimes_12 : decode cX11_readTimes 12 = .ok (.iconst 1, 1) := by decide +kernel
theorem dX11_readTimes_13 : decode cX11_readTimes 13 = .ok (.bipush 9, 2) := by decide +kernel
theorem dX11_readTimes_15 : decode cX11_readTimes 15 = .ok (.invokevirtual 185, 3) := by decide +kernel
theorem dX11_readTimes_18 : decode cX11_readTimes 18 = .ok (.invokevirtual 189, 3) := by decide +kernel
theorem dX11_readTimes_21 : decode cX11_readTimes 21 = .ok (.aload_n 0, 1) := by decide +kernel
theorem dX11_readTimes_22 : decode cX11_readTimes 22 = .ok (.aload_n 0, 1) := by decide +kernel
theorem dX11_readTimes_23 : decode cX11_readTimes 23 = .ok (.getfield 175, 3) := by decide +kernel
theorem dX11_readTimes_26 : decode cX11_readTimes 26 = .ok (.ifCond .ne 23, 3) := by decide +kernel
theorem dX11_readTimes_29 : decode cX11_readTimes 29 = .ok (.aload_n 0, 1) := by decide +kernel
theorem dX11_readTimes_30 : decode cX11_readTimes 30 = .ok (.getfield 159, 3) := by decide +kernel
theorem dX11_readTimes_33 : decode cX11_readTimes 33 = .ok (.iconst 3, 1) := by decide +kernel
theorem dX11_readTimes_34 : decode cX11_readTimes 34 = .ok (.if_icmp .ne 15, 3) := by decide +kernel
theorem dX11_readTimes_37 : decode cX11_readTimes 37 = .ok (.aload_n 0, 1) := by decide +kernel
theorem dX11_readTimes_38 : decode cX11_readTimes 38 = .ok (.getfield 196, 3) := by decide +kernel
theorem dX11_readTimes_41 : decode cX11_readTimes 41 = .ok (.iconst 4, 1) := by decide +kernel
theorem dX11_readTimes_42 : decode cX11_readTimes 42 = .ok (.if_icmp .ge 7, 3) := by decide +kernel
theorem dX11_readTimes_45 : decode cX11_readTimes 45 = .ok (.iconst 1, 1) := by decide +kernel
theorem dX11_readTimes_46 : decode cX11_readTimes 46 = .ok (.goto 4, 3) := by decide +kernel
theorem dX11_readTimes_49 : decode cX11_readTimes 49 = .ok (.iconst 0, 1) := by decide +kernel
theorem dX11_readTimes_50 : decode cX11_readTimes 50 = .ok (.invokevirtual 189, 3) := by decide +kernel
theorem dX11_readTimes_53 : decode cX11_readTimes 53 = .ok (.aload_n 0, 1) := by decide +kernel
theorem dX11_readTimes_54 : decode cX11_readTimes 54 = .ok (.dup, 1) := by decide +kernel
theorem dX11_readTimes_55 : decode cX11_readTimes 55 = .ok (.getfield 196, 3) := by decide +kernel
theorem dX11_readTimes_58 : decode cX11_readTimes 58 = .ok (.iconst 1, 1) := by decide +kernel
theorem dX11_readTimes_59 : decode cX11_readTimes 59 = .ok (.iadd, 1) := by decide +kernel
theorem dX11_readTimes_60 : decode cX11_readTimes 60 = .ok (.putfield 196, 3) := by decide +kernel
theorem dX11_readTimes_63 : decode cX11_readTimes 63 = .ok (.aload_n 0, 1) := by decide +kernel
theorem dX11_readTimes_64 : decode cX11_readTimes 64 = .ok (.invokevirtual 199, 3) := by decide +kernel
theorem dX11_readTimes_67 : decode cX11_readTimes 67 = .ok (.aload_n 0, 1) := by decide +kernel
theorem dX11_readTimes_68 : decode cX11_readTimes 68 = .ok (.aload_n 0, 1) := by decide +kernel
theorem dX11_readTimes_69 : decode cX11_readTimes 69 = .ok (.getfield 175, 3) := by decide +kernel
theorem dX11_readTimes_72 : decode cX11_readTimes 72 = .ok (.ifCond .ne 15, 3) := by decide +kernel
theorem dX11_readTimes_75 : decode cX11_readTimes 75 = .ok (.aload_n 0, 1) := by decide +kernel
theorem dX11_readTimes_76 : decode cX11_readTimes 76 = .ok (.getfield 159, 3) := by decide +kernel
theorem dX11_readTimes_79 : decode cX11_readTimes 79 = .ok (.iconst 4, 1) := by decide +kernel
theorem dX11_readTimes_80 : decode cX11_readTimes 80 = .ok (.if_icmp .ne 7, 3) := by decide +kernel
theorem dX11_readTimes_83 : decode cX11_readTimes 83 = .ok (.iconst 1, 1) := by decide +kernel
theorem dX11_readTimes_84 : decode cX11_readTimes 84 = .ok (.goto 4, 3) := by decide +kernel
theorem dX11_readTimes_87 : decode cX11_readTimes 87 = .ok (.iconst 0, 1) := by decide +kernel
theorem dX11_readTimes_88 : decode cX11_readTimes 88 = .ok (.invokevirtual 189, 3) := by decide +kernel
theorem dX11_readTimes_91 : decode cX11_readTimes 91 = .ok (.aload_n 0, 1) := by decide +kernel
theorem dX11_readTimes_92 : decode cX11_readTimes 92 = .ok (.dup, 1) := by decide +kernel
theorem dX11_readTimes_93 : decode cX11_readTimes 93 = .ok (.getfield 196, 3) := by decide +kernel
theorem dX11_readTimes_96 : decode cX11_readTimes 96 = .ok (.iconst 1, 1) := by decide +kernel
theorem dX11_readTimes_97 : decode cX11_readTimes 97 = .ok (.isub, 1) := by decide +kernel
theorem dX11_readTimes_98 : decode cX11_readTimes 98 = .ok (.putfield 196, 3) := by decide +kernel
theorem dX11_readTimes_101 : decode cX11_readTimes 101 = .ok (.aload_n 0, 1) := by decide +kernel
theorem dX11_readTimes_102 : decode cX11_readTimes 102 = .ok (.getfield 182, 3) := by decide +kernel
theorem dX11_readTimes_105 : decode cX11_readTimes 105 = .ok (.iload_n 2, 1) := by decide +kernel
theorem dX11_readTimes_106 : decode cX11_readTimes 106 = .ok (.isub, 1) := by decide +kernel
theorem dX11_readTimes_107 : decode cX11_readTimes 107 = .ok (.istore_n 3, 1) := by decide +kernel
theorem dX11_readTimes_108 : decode cX11_readTimes 108 = .ok (.iconst 0, 1) := by decide +kernel
theorem dX11_readTimes_109 : decode cX11_readTimes 109 = .ok (.istore 4, 2) := by decide +kernel
theorem dX11_readTimes_111 : decode cX11_readTimes 111 = .ok (.iload 4, 2) := by decide +kernel
theorem dX11_readTimes_113 : decode cX11_readTimes 113 = .ok (.iload_n 1, 1) := by decide +kernel
theorem dX11_readTimes_114 : decode cX11_readTimes 114 = .ok (.iconst 1, 1) := by decide +kernel
theorem dX11_readTimes_115 : decode cX11_readTimes 115 = .ok (.isub, 1) := by decide +kernel
theorem dX11_readTimes_116 : decode cX11_readTimes 116 = .ok (.iload_n 3, 1) := by decide +kernel
theorem dX11_readTimes_117 : decode cX11_readTimes 117 = .ok (.imul, 1) := by decide +kernel
theorem dX11_readTimes_118 : decode cX11_readTimes 118 = .ok (.if_icmp .ge 79, 3) := by decide +kernel
theorem dX11_readTimes_121 : decode cX11_readTimes 121 = .ok (.aload_n 0, 1) := by decide +kernel
theorem dX11_readTimes_122 : decode cX11_readTimes 122 = .ok (.getfield 182, 3) := by decide +kernel
theorem dX11_readTimes_125 : decode cX11_readTimes 125 = .ok (.bipush 64, 2) := by decide +kernel
theorem dX11_readTimes_127 : decode cX11_readTimes 127 = .ok (.if_icmp .eq 10, 3) := by decide +kernel
theorem dX11_readTimes_130 : decode cX11_readTimes 130 = .ok (.aload_n 0, 1) := by decide +kernel
theorem dX11_readTimes_131 : decode cX11_readTimes 131 = .ok (.getfield 175, 3) := by decide +kernel
theorem dX11_readTimes_134 : decode cX11_readTimes 134 = .ok (.ifCond .eq 4, 3) := by decide +kernel
theorem dX11_readTimes_137 : decode cX11_readTimes 137 = .ok (.return_, 1) := by decide +kernel
theorem dX11_readTimes_138 : decode cX11_readTimes 138 = .ok (.iconst 0, 1) := by decide +kernel
theorem dX11_readTimes_139 : decode cX11_readTimes 139 = .ok (.istore 5, 2) := by decide +kernel
theorem dX11_readTimes_141 : decode cX11_readTimes 141 = .ok (.iload 5, 2) := by decide +kernel
theorem dX11_readTimes_143 : decode cX11_readTimes 143 = .ok (.iconst 4, 1) := by decide +kernel
theorem dX11_readTimes_144 : decode cX11_readTimes 144 = .ok (.if_icmp .ge 37, 3) := by decide +kernel
theorem dX11_readTimes_147 : decode cX11_readTimes 147 = .ok (.aload_n 0, 1) := by decide +kernel
theorem dX11_readTimes_148 : decode cX11_readTimes 148 = .ok (.getfield 22, 3) := by decide +kernel
theorem dX11_readTimes_151 : decode cX11_readTimes 151 = .ok (.iconst 4, 1) := by decide +kernel
theorem dX11_readTimes_152 : decode cX11_readTimes 152 = .ok (.aload_n 0, 1) := by decide +kernel
theorem dX11_readTimes_153 : decode cX11_readTimes 153 = .ok (.getfield 182, 3) := by decide +kernel
theorem dX11_readTimes_156 : decode cX11_readTimes 156 = .ok (.imul, 1) := by decide +kernel
theorem dX11_readTimes_157 : decode cX11_readTimes 157 = .ok (.iload 5, 2) := by decide +kernel
theorem dX11_readTimes_159 : decode cX11_readTimes 159 = .ok (.iadd, 1) := by decide +kernel
theorem dX11_readTimes_160 : decode cX11_readTimes 160 = .ok (.aload_n 0, 1) := by decide +kernel
theorem dX11_readTimes_161 : decode cX11_readTimes 161 = .ok (.getfield 22, 3) := by decide +kernel
theorem dX11_readTimes_164 : decode cX11_readTimes 164 = .ok (.iconst 4, 1) := by decide +kernel
theorem dX11_readTimes_165 : decode cX11_readTimes 165 = .ok (.iload_n 2, 1) := by decide +kernel
theorem dX11_readTimes_166 : decode cX11_readTimes 166 = .ok (.iload 4, 2) := by decide +kernel
theorem dX11_readTimes_168 : decode cX11_readTimes 168 = .ok (.iadd, 1) := by decide +kernel
theorem dX11_readTimes_169 : decode cX11_readTimes 169 = .ok (.imul, 1) := by decide +kernel
theorem dX11_readTimes_170 : decode cX11_readTimes 170 = .ok (.iload 5, 2) := by decide +kernel
theorem dX11_readTimes_172 : decode cX11_readTimes 172 = .ok (.iadd, 1) := by decide +kernel
theorem dX11_readTimes_173 : decode cX11_readTimes 173 = .ok (.iaload, 1) := by decide +kernel
theorem dX11_readTimes_174 : decode cX11_readTimes 174 = .ok (.iastore, 1) := by decide +kernel
theorem dX11_readTimes_175 : decode cX11_readTimes 175 = .ok (.iinc 5 1, 3) := by decide +kernel
theorem dX11_readTimes_178 : decode cX11_readTimes 178 = .ok (.goto (-37), 3) := by decide +kernel
theorem dX11_readTimes_181 : decode cX11_readTimes 181 = .ok (.aload_n 0, 1) := by decide +kernel
theorem dX11_readTimes_182 : decode cX11_readTimes 182 = .ok (.dup, 1) := by decide +kernel
theorem dX11_readTimes_183 : decode cX11_readTimes 183 = .ok (.getfield 182, 3) := by decide +kernel
theorem dX11_readTimes_186 : decode cX11_readTimes 186 = .ok (.iconst 1, 1) := by decide +kernel
theorem dX11_readTimes_187 : decode cX11_readTimes 187 = .ok (.iadd, 1) := by decide +kernel
theorem dX11_readTimes_188 : decode cX11_readTimes 188 = .ok (.putfield 182, 3) := by decide +kernel
theorem dX11_readTimes_191 : decode cX11_readTimes 191 = .ok (.iinc 4 1, 3) := by decide +kernel
theorem dX11_readTimes_194 : decode cX11_readTimes 194 = .ok (.goto (-83), 3) := by decide +kernel
theorem dX11_readTimes_197 : decode cX11_readTimes 197 = .ok (.return_, 1) := by decide +kernel
def S_X11_readTimes_111 (fn : Mem → Int → Int → Int → Int → Option (Mem)) (p : Program) (l : Launch) (e : Env) (R : Room) (s : State) (m : MethodId) (args : Array Value) (below : List Frame) (meth : Method) (c : Code) (G : GT) (τ : Mem) : Prop := ∀ (σ : Mem) (H : Heap) (locs : List Loc) (ls : Array Slot) (l1 : Int) (l2 : Int) (l3 : Int) (l4 : Int), PW G σ H → va_S (AA G) s.heap H locs → fn σ l1 l2 l3 l4 = some τ → lv_has ls 6 [(0, .ref (gh G + 111)), (1, .int (i32 l1)), (2, .int (i32 l2)), (3, .int (i32 l3)), (4, .int (i32 l4))] → W p l e R s m args below meth c H locs 0 0 (MQ below (QM G none τ) args s 0 0 (AA G)) (F0 m 111 ls [])
def S_X11_readTimes_141 (fn : Mem → Int → Int → Int → Int → Int → Option (Mem)) (p : Program) (l : Launch) (e : Env) (R : Room) (s : State) (m : MethodId) (args : Array Value) (below : List Frame) (meth : Method) (c : Code) (G : GT) (τ : Mem) : Prop := ∀ (σ : Mem) (H : Heap) (locs : List Loc) (ls : Array Slot) (l1 : Int) (l2 : Int) (l3 : Int) (l4 : Int) (l5 : Int), PW G σ H → va_S (AA G) s.heap H locs → fn σ l1 l2 l3 l4 l5 = some τ → lv_has ls 6 [(0, .ref (gh G + 111)), (1, .int (i32 l1)), (2, .int (i32 l2)), (3, .int (i32 l3)), (4, .int (i32 l4)), (5, .int (i32 l5))] → W p l e R s m args below meth c H locs 0 0 (MQ below (QM G none τ) args s 0 0 (AA G)) (F0 m 141 ls [])
def X11_readTimes_B141 (recT : Mem → Option Mem) (rec111 : Mem → Int → Int → Int → Int → Option (Mem)) (rec141 : Mem → Int → Int → Int → Int → Int → Option (Mem)) (σ : Mem) (l1 : Int) (l2 : Int) (l3 : Int) (l4 : Int) (l5 : Int) : Option (Mem) :=
  if w32 4 ≤ w32 l5 then
    lt (st σ 111 13 ((σ 111 13) + 1)) fun s1 =>
    lt (l4 + 1) fun l4_2 =>
    rec111 s1 l1 l2 l3 l4_2
  else
  ag 256 ((4 * (l2 + l4)) + l5) fun j3 =>
  ag 256 ((4 * (σ 111 13)) + l5) fun j4 =>
  lt (st σ 116 j4 (σ 116 j3)) fun s5 =>
  lt (l5 + 1) fun l5_6 =>
  rec141 s5 l1 l2 l3 l4 l5_6
def X11_readTimes_L141 (recT : Mem → Option Mem) (rec111 : Mem → Int → Int → Int → Int → Option (Mem)) : Nat → Mem → Int → Int → Int → Int → Int → Option (Mem)
  | 0 => fun _ _ _ _ _ _ => none
  | n + 1 => X11_readTimes_B141 recT rec111 (X11_readTimes_L141 recT rec111 n)
def X11_readTimes_B111 (recT : Mem → Option Mem) (rec111 : Mem → Int → Int → Int → Int → Option (Mem)) (σ : Mem) (l1 : Int) (l2 : Int) (l3 : Int) (l4 : Int) : Option (Mem) :=
  if w32 ((l1 - 1) * l3) ≤ w32 l4 then
    some σ
  else
  if w32 (σ 111 13) = w32 64 then
    some σ
  else
  if w32 (σ 111 11) = 0 then
    X11_readTimes_L141 recT rec111 5000 σ l1 l2 l3 l4 0
  else
  some σ
def X11_readTimes_L111 (recT : Mem → Option Mem) : Nat → Mem → Int → Int → Int → Int → Option (Mem)
  | 0 => fun _ _ _ _ _ => none
  | n + 1 => X11_readTimes_B111 recT (X11_readTimes_L111 recT n)
def X11_readTimes_B88 (recT : Mem → Option Mem) (σ : Mem) (l1 : Int) (l2 : Int) (k1 : Int) : Option (Mem) :=
  bd (X11_need σ k1) fun s2 =>
  lt (st s2 111 10 ((s2 111 10) - 1)) fun s3 =>
  lt ((s3 111 13) - l2) fun l3_4 =>
  X11_readTimes_L111 recT 5000 s3 l1 l2 l3_4 0
def S_X11_readTimes_88 (fn : Mem → Int → Int → Int → Option (Mem)) (p : Program) (l : Launch) (e : Env) (R : Room) (s : State) (m : MethodId) (args : Array Value) (below : List Frame) (meth : Method) (c : Code) (G : GT) (τ : Mem) : Prop := ∀ (σ : Mem) (H : Heap) (locs : List Loc) (ls : Array Slot) (l1 : Int) (l2 : Int) (k1 : Int), PW G σ H → va_S (AA G) s.heap H locs → fn σ l1 l2 k1 = some τ → lv_has ls 6 [(0, .ref (gh G + 111)), (1, .int (i32 l1)), (2, .int (i32 l2))] → W p l e R s m args below meth c H locs 0 0 (MQ below (QM G none τ) args s 0 0 (AA G)) (F0 m 88 ls [.int (i32 k1), .ref (gh G + 111)])
def X11_readTimes_B87 (recT : Mem → Option Mem) (σ : Mem) (l1 : Int) (l2 : Int) : Option (Mem) :=
  X11_readTimes_B88 recT σ l1 l2 0
def S_X11_readTimes_87 (fn : Mem → Int → Int → Option (Mem)) (p : Program) (l : Launch) (e : Env) (R : Room) (s : State) (m : MethodId) (args : Array Value) (below : List Frame) (meth : Method) (c : Code) (G : GT) (τ : Mem) : Prop := ∀ (σ : Mem) (H : Heap) (locs : List Loc) (ls : Array Slot) (l1 : Int) (l2 : Int), PW G σ H → va_S (AA G) s.heap H locs → fn σ l1 l2 = some τ → lv_has ls 6 [(0, .ref (gh G + 111)), (1, .int (i32 l1)), (2, .int (i32 l2))] → W p l e R s m args below meth c H locs 0 0 (MQ below (QM G none τ) args s 0 0 (AA G)) (F0 m 87 ls [.ref (gh G + 111)])
def X11_readTimes_B50 (recT : Mem → Option Mem) (σ : Mem) (l1 : Int) (l2 : Int) (k1 : Int) : Option (Mem) :=
  bd (X11_need σ k1) fun s2 =>
  lt (st s2 111 10 ((s2 111 10) + 1)) fun s3 =>
  bd (recT s3) fun s5 =>
  if w32 (s5 111 11) ≠ 0 then
    X11_readTimes_B87 recT s5 l1 l2
  else
  if w32 (s5 111 8) ≠ w32 4 then
    X11_readTimes_B87 recT s5 l1 l2
  else
  X11_readTimes_B88 recT s5 l1 l2 1
def S_X11_readTimes_50 (fn : Mem → Int → Int → Int → Option (Mem)) (p : Program) (l : Launch) (e : Env) (R : Room) (s : State) (m : MethodId) (args : Array Value) (below : List Frame) (meth : Method) (c : Code) (G : GT) (τ : Mem) : Prop := ∀ (σ : Mem) (H : Heap) (locs : List Loc) (ls : Array Slot) (l1 : Int) (l2 : Int) (k1 : Int), PW G σ H → va_S (AA G) s.heap H locs → fn σ l1 l2 k1 = some τ → lv_has ls 6 [(0, .ref (gh G + 111)), (1, .int (i32 l1)), (2, .int (i32 l2))] → W p l e R s m args below meth c H locs 0 0 (MQ below (QM G none τ) args s 0 0 (AA G)) (F0 m 50 ls [.int (i32 k1), .ref (gh G + 111)])
def X11_readTimes_B49 (recT : Mem → Option Mem) (σ : Mem) (l1 : Int) (l2 : Int) : Option (Mem) :=
  X11_readTimes_B50 recT σ l1 l2 0
def S_X11_readTimes_49 (fn : Mem → Int → Int → Option (Mem)) (p : Program) (l : Launch) (e : Env) (R : Room) (s : State) (m : MethodId) (args : Array Value) (below : List Frame) (meth : Method) (c : Code) (G : GT) (τ : Mem) : Prop := ∀ (σ : Mem) (H : Heap) (locs : List Loc) (ls : Array Slot) (l1 : Int) (l2 : Int), PW G σ H → va_S (AA G) s.heap H locs → fn σ l1 l2 = some τ → lv_has ls 6 [(0, .ref (gh G + 111)), (1, .int (i32 l1)), (2, .int (i32 l2))] → W p l e R s m args below meth c H locs 0 0 (MQ below (QM G none τ) args s 0 0 (AA G)) (F0 m 49 ls [.ref (gh G + 111)])
def X11_readTimes (recT : Mem → Option Mem) (σ : Mem) : Option (Mem) :=
  lt (σ 111 9) fun l1_1 =>
  lt (σ 111 13) fun l2_2 =>
  bd (X11_isNumber σ 1 9) fun r3 =>
  bd (X11_need σ r3) fun s5 =>
  if w32 (s5 111 11) ≠ 0 then
    X11_readTimes_B49 recT s5 l1_1 l2_2
  else
  if w32 (s5 111 8) ≠ w32 3 then
    X11_readTimes_B49 recT s5 l1_1 l2_2
  else
  if w32 4 ≤ w32 (s5 111 10) then
    X11_readTimes_B49 recT s5 l1_1 l2_2
  else
  X11_readTimes_B50 recT s5 l1_1 l2_2 1
def S_X11_readTimes_0 (fn : Mem → Option (Mem)) (p : Program) (l : Launch) (e : Env) (R : Room) (s : State) (m : MethodId) (args : Array Value) (below : List Frame) (meth : Method) (c : Code) (G : GT) (τ : Mem) : Prop := ∀ (σ : Mem) (H : Heap) (locs : List Loc) (ls : Array Slot), PW G σ H → va_S (AA G) s.heap H locs → fn σ = some τ → lv_has ls 6 [(0, .ref (gh G + 111))] → W p l e R s m args below meth c H locs 0 0 (MQ below (QM G none τ) args s 0 0 (AA G)) (F0 m 0 ls [])
set_option maxHeartbeats 4000000 in
theorem a_X11_readTimes_141 {p : Program} {l : Launch} {e : Env} {R : Room} {s : State} {m : MethodId} {args : Array Value} {below : List Frame} {meth : Method} {c : Code} {G : GT} {recT : Mem → Option Mem} {fT lT : Nat} {τ : Mem} {rec111 : Mem → Int → Int → Int → Int → Option (Mem)} {rec141 : Mem → Int → Int → Int → Int → Int → Option (Mem)} (X : CX p R s m args meth c cX11_readTimes 6 RX11 none (fT + 20) (lT + 600) G) (h111 : S_X11_readTimes_111 rec111 p l e R s m args below meth c G τ) (h141 : S_X11_readTimes_141 rec141 p l e R s m args below meth c G τ) (HT : ∀ {σ τ : Mem}, recT σ = some τ → CT l yX11_readText cX11_readText 1 none fT lT G [.ref (gh G + 111)] σ τ none) : S_X11_readTimes_141 (X11_readTimes_B141 recT rec111 rec141) p l e R s m args below meth c G τ := by
  intro σ H locs ls l1 l2 l3 l4 l5 hP hS hf hl
  unfold X11_readTimes_B141 at hf
  refine lv_iload X.1 X.2.1 dX11_readTimes_141 (lv_at hl 5 rfl) ?_
  refine r_iconst X 4 dX11_readTimes_143 ?_
  refine r_icmp_ge (tgt := 181) X dX11_readTimes_144 (by decide) (fun q => ?_) (fun q => ?_)
  · replace hf := it_inv q hf
    refine lv_aload_n X.1 X.2.1 dX11_readTimes_181 rfl (lv_at hl 0 rfl) ?_
    refine lv_dup X.1 X.2.1 dX11_readTimes_182 rfl ?_
    refine g_11_13 X hP ks_11 (tb t_1100 rfl) dX11_readTimes_183 ?_
    refine r_iconst X 1 dX11_readTimes_186 ?_
    refine r_iadd X dX11_readTimes_187 ?_
    refine p_11_13 X hP hS ks_11 (tb t_1100 rfl) dX11_readTimes_188 (fun H locs hP hS => ?_)
    obtain ⟨s1, es1, hf⟩ := lt_inv hf
    rw [es1] at hP
    obtain ⟨l4_2, el4_2, hf⟩ := lt_inv hf
    refine lv_iinc (v := i32 l4_2) (lv' := [(4, .int (i32 l4_2)), (0, .ref (gh G + 111)), (1, .int (i32 l1)), (2, .int (i32 l2)), (3, .int (i32 l3)), (5, .int (i32 l5))]) X.1 X.2.1 dX11_readTimes_191 hl (k := 4) rfl (by rw [← el4_2]; exact i32_add _ _) (by decide) rfl (fun ls hl => ?_)
    refine lv_goto (tgt := 111) X.1 X.2.1 dX11_readTimes_194 (by decide) ?_
    exact h111 s1 H locs ls l1 l2 l3 l4_2 hP hS hf (lv_sub hl [1, 2, 3, 4, 0] rfl)
  · replace hf := ie_inv q hf
    refine lv_aload_n X.1 X.2.1 dX11_readTimes_147 rfl (lv_at hl 0 rfl) ?_
    refine g_11_12 (r := 116) X hP ks_11 rfl (tb t_1099 rfl) dX11_readTimes_148 ?_
    refine r_iconst X 4 dX11_readTimes_151 ?_
    refine lv_aload_n X.1 X.2.1 dX11_readTimes_152 rfl (lv_at hl 0 rfl) ?_
    refine g_11_13 X hP ks_11 (tb t_1100 rfl) dX11_readTimes_153 ?_
    refine r_imul X dX11_readTimes_156 ?_
    refine lv_iload X.1 X.2.1 dX11_readTimes_157 (lv_at hl 5 rfl) ?_
    refine r_iadd X dX11_readTimes_159 ?_
    refine lv_aload_n X.1 X.2.1 dX11_readTimes_160 rfl (lv_at hl 0 rfl) ?_
    refine g_11_12 (r := 116) X hP ks_11 rfl (tb t_1099 rfl) dX11_readTimes_161 ?_
    refine r_iconst X 4 dX11_readTimes_164 ?_
    refine lv_iload_n X.1 X.2.1 dX11_readTimes_165 rfl (lv_at hl 2 rfl) ?_
    refine lv_iload X.1 X.2.1 dX11_readTimes_166 (lv_at hl 4 rfl) ?_
    refine r_iadd X dX11_readTimes_168 ?_
    refine r_imul X dX11_readTimes_169 ?_
    refine lv_iload X.1 X.2.1 dX11_readTimes_170 (lv_at hl 5 rfl) ?_
    refine r_iadd X dX11_readTimes_172 ?_
    obtain ⟨j3, hij3, hjj3, hlj3, hf⟩ := ag_inv hf
    refine r_iald X hP (ch_11_12 ks_11).1 (ch_11_12 ks_11).2 hij3 hjj3 dX11_readTimes_173 ?_
    obtain ⟨j4, hij4, hjj4, hlj4, hf⟩ := ag_inv hf
    refine r_iast X hP hS (ch_11_12 ks_11).1 (ch_11_12 ks_11).2 hij4 hjj4 dX11_readTimes_174 (fun H locs hP hS => ?_)
    obtain ⟨s5, es5, hf⟩ := lt_inv hf
    rw [es5] at hP
    obtain ⟨l5_6, el5_6, hf⟩ := lt_inv hf
    refine lv_iinc (v := i32 l5_6) (lv' := [(5, .int (i32 l5_6)), (0, .ref (gh G + 111)), (1, .int (i32 l1)), (2, .int (i32 l2)), (3, .int (i32 l3)), (4, .int (i32 l4))]) X.1 X.2.1 dX11_readTimes_175 hl (k := 5) rfl (by rw [← el5_6]; exact i32_add _ _) (by decide) rfl (fun ls hl => ?_)
    refine lv_goto (tgt := 141) X.1 X.2.1 dX11_readTimes_178 (by decide) ?_
    exact h141 s5 H locs ls l1 l2 l3 l4 l5_6 hP hS hf (lv_sub hl [1, 2, 3, 4, 5, 0] rfl)
theorem al_X11_readTimes_141 {p : Program} {l : Launch} {e : Env} {R : Room} {s : State} {m : MethodId} {args : Array Value} {below : List Frame} {meth : Method} {c : Code} {G : GT} {recT : Mem → Option Mem} {fT lT : Nat} {τ : Mem} {rec111 : Mem → Int → Int → Int → Int → Option (Mem)} (X : CX p R s m args meth c cX11_readTimes 6 RX11 none (fT + 20) (lT + 600) G) (h111 : S_X11_readTimes_111 rec111 p l e R s m args below meth c G τ) (HT : ∀ {σ τ : Mem}, recT σ = some τ → CT l yX11_readText cX11_readText 1 none fT lT G [.ref (gh G + 111)] σ τ none) : ∀ n, S_X11_readTimes_141 (X11_readTimes_L141 recT rec111 n) p l e R s m args below meth c G τ := by
  intro n
  induction n with
  | zero =>
    intro σ H locs ls l1 l2 l3 l4 l5 hP hS hf hl
    cases hf
  | succ n ih => exact a_X11_readTimes_141 X h111 ih (@HT)
set_option maxHeartbeats 4000000 in
theorem a_X11_readTimes_111 {p : Program} {l : Launch} {e : Env} {R : Room} {s : State} {m : MethodId} {args : Array Value} {below : List Frame} {meth : Method} {c : Code} {G : GT} {recT : Mem → Option Mem} {fT lT : Nat} {τ : Mem} {rec111 : Mem → Int → Int → Int → Int → Option (Mem)} (X : CX p R s m args meth c cX11_readTimes 6 RX11 none (fT + 20) (lT + 600) G) (h111 : S_X11_readTimes_111 rec111 p l e R s m args below meth c G τ) (HT : ∀ {σ τ : Mem}, recT σ = some τ → CT l yX11_readText cX11_readText 1 none fT lT G [.ref (gh G + 111)] σ τ none) : S_X11_readTimes_111 (X11_readTimes_B111 recT rec111) p l e R s m args below meth c G τ := by
  intro σ H locs ls l1 l2 l3 l4 hP hS hf hl
  unfold X11_readTimes_B111 at hf
  refine lv_iload X.1 X.2.1 dX11_readTimes_111 (lv_at hl 4 rfl) ?_
  refine lv_iload_n X.1 X.2.1 dX11_readTimes_113 rfl (lv_at hl 1 rfl) ?_
  refine r_iconst X 1 dX11_readTimes_114 ?_
  refine r_isub X dX11_readTimes_115 ?_
  refine lv_iload_n X.1 X.2.1 dX11_readTimes_116 rfl (lv_at hl 3 rfl) ?_
  refine r_imul X dX11_readTimes_117 ?_
  refine r_icmp_ge (tgt := 197) X dX11_readTimes_118 (by decide) (fun q => ?_) (fun q => ?_)
  · replace hf := it_inv q hf
    cases so_inv hf
    exact r_vret X hP hS dX11_readTimes_197
  · replace hf := ie_inv q hf
    refine lv_aload_n X.1 X.2.1 dX11_readTimes_121 rfl (lv_at hl 0 rfl) ?_
    refine g_11_13 X hP ks_11 (tb t_1100 rfl) dX11_readTimes_122 ?_
    refine r_bipush X 64 (by decide) dX11_readTimes_125 ?_
    refine r_icmp_eq (tgt := 137) X dX11_readTimes_127 (by decide) (fun q => ?_) (fun q => ?_)
    · replace hf := it_inv q hf
      cases so_inv hf
      exact r_vret X hP hS dX11_readTimes_137
    · replace hf := ie_inv q hf
      refine lv_aload_n X.1 X.2.1 dX11_readTimes_130 rfl (lv_at hl 0 rfl) ?_
      refine g_11_11 X hP ks_11 (tb t_1098 rfl) dX11_readTimes_131 ?_
      refine r_if_eq (tgt := 138) X dX11_readTimes_134 (by decide) (fun q => ?_) (fun q => ?_)
      · replace hf := it_inv q hf
        refine r_iconst X 0 dX11_readTimes_138 ?_
        refine lv_istore (lv' := [(5, .int (i32 0)), (0, .ref (gh G + 111)), (1, .int (i32 l1)), (2, .int (i32 l2)), (3, .int (i32 l3)), (4, .int (i32 l4))]) X.1 X.2.1 dX11_readTimes_139 hl (by decide) rfl (fun ls hl => ?_)
        exact al_X11_readTimes_141 X h111 (@HT) 5000 σ H locs ls l1 l2 l3 l4 0 hP hS hf (lv_sub hl [1, 2, 3, 4, 5, 0] rfl)
      · replace hf := ie_inv q hf
        cases so_inv hf
        exact r_vret X hP hS dX11_readTimes_137
theorem al_X11_readTimes_111 {p : Program} {l : Launch} {e : Env} {R : Room} {s : State} {m : MethodId} {args : Array Value} {below : List Frame} {meth : Method} {c : Code} {G : GT} {recT : Mem → Option Mem} {fT lT : Nat} {τ : Mem} (X : CX p R s m args meth c cX11_readTimes 6 RX11 none (fT + 20) (lT + 600) G) (HT : ∀ {σ τ : Mem}, recT σ = some τ → CT l yX11_readText cX11_readText 1 none fT lT G [.ref (gh G + 111)] σ τ none) : ∀ n, S_X11_readTimes_111 (X11_readTimes_L111 recT n) p l e R s m args below meth c G τ := by
  intro n
  induction n with
  | zero =>
    intro σ H locs ls l1 l2 l3 l4 hP hS hf hl
    cases hf
  | succ n ih => exact a_X11_readTimes_111 X ih (@HT)
set_option maxHeartbeats 4000000 in
theorem a_X11_readTimes_88 {p : Program} {l : Launch} {e : Env} {R : Room} {s : State} {m : MethodId} {args : Array Value} {below : List Frame} {meth : Method} {c : Code} {G : GT} {recT : Mem → Option Mem} {fT lT : Nat} {τ : Mem} (X : CX p R s m args meth c cX11_readTimes 6 RX11 none (fT + 20) (lT + 600) G) (HT : ∀ {σ τ : Mem}, recT σ = some τ → CT l yX11_readText cX11_readText 1 none fT lT G [.ref (gh G + 111)] σ τ none) : S_X11_readTimes_88 (X11_readTimes_B88 recT) p l e R s m args below meth c G τ := by
  intro σ H locs ls l1 l2 k1 hP hS hf hl
  unfold X11_readTimes_B88 at hf
  obtain ⟨s2, hr1, hf⟩ := bd_inv hf
  refine k_X11_need X hP hS hl.1  hr1 (tb t_1288 rfl) (by omega) (Nat.le_of_ble_eq_true rfl) dX11_readTimes_88 (fun H locs hP hS => ?_)
  refine lv_aload_n X.1 X.2.1 dX11_readTimes_91 rfl (lv_at hl 0 rfl) ?_
  refine lv_dup X.1 X.2.1 dX11_readTimes_92 rfl ?_
  refine g_11_10 X hP ks_11 (tb t_1097 rfl) dX11_readTimes_93 ?_
  refine r_iconst X 1 dX11_readTimes_96 ?_
  refine r_isub X dX11_readTimes_97 ?_
  refine p_11_10 X hP hS ks_11 (tb t_1097 rfl) dX11_readTimes_98 (fun H locs hP hS => ?_)
  obtain ⟨s3, es3, hf⟩ := lt_inv hf
  rw [es3] at hP
  refine lv_aload_n X.1 X.2.1 dX11_readTimes_101 rfl (lv_at hl 0 rfl) ?_
  refine g_11_13 X hP ks_11 (tb t_1100 rfl) dX11_readTimes_102 ?_
  refine lv_iload_n X.1 X.2.1 dX11_readTimes_105 rfl (lv_at hl 2 rfl) ?_
  refine r_isub X dX11_readTimes_106 ?_
  obtain ⟨l3_4, el3_4, hf⟩ := lt_inv hf
  refine r_eqi el3_4 ?_
  refine lv_istore_n (lv' := [(3, .int (i32 l3_4)), (0, .ref (gh G + 111)), (1, .int (i32 l1)), (2, .int (i32 l2))]) X.1 X.2.1 dX11_readTimes_107 rfl hl (by decide) rfl (fun ls hl => ?_)
  refine r_iconst X 0 dX11_readTimes_108 ?_
  refine lv_istore (lv' := [(4, .int (i32 0)), (3, .int (i32 l3_4)), (0, .ref (gh G + 111)), (1, .int (i32 l1)), (2, .int (i32 l2))]) X.1 X.2.1 dX11_readTimes_109 hl (by decide) rfl (fun ls hl => ?_)
  exact al_X11_readTimes_111 X (@HT) 5000 s3 H locs ls l1 l2 l3_4 0 hP hS hf (lv_sub hl [2, 3, 4, 1, 0] rfl)
set_option maxHeartbeats 4000000 in
theorem a_X11_readTimes_87 {p : Program} {l : Launch} {e : Env} {R : Room} {s : State} {m : MethodId} {args : Array Value} {below : List Frame} {meth : Method} {c : Code} {G : GT} {recT : Mem → Option Mem} {fT lT : Nat} {τ : Mem} (X : CX p R s m args meth c cX11_readTimes 6 RX11 none (fT + 20) (lT + 600) G) (HT : ∀ {σ τ : Mem}, recT σ = some τ → CT l yX11_readText cX11_readText 1 none fT lT G [.ref (gh G + 111)] σ τ none) : S_X11_readTimes_87 (X11_readTimes_B87 recT) p l e R s m args below meth c G τ := by
  intro σ H locs ls l1 l2 hP hS hf hl
  unfold X11_readTimes_B87 at hf
  refine r_iconst X 0 dX11_readTimes_87 ?_
  exact a_X11_readTimes_88 X (@HT) σ H locs ls l1 l2 0 hP hS hf hl
set_option maxHeartbeats 4000000 in
theorem a_X11_readTimes_50 {p : Program} {l : Launch} {e : Env} {R : Room} {s : State} {m : MethodId} {args : Array Value} {below : List Frame} {meth : Method} {c : Code} {G : GT} {recT : Mem → Option Mem} {fT lT : Nat} {τ : Mem} (X : CX p R s m args meth c cX11_readTimes 6 RX11 none (fT + 20) (lT + 600) G) (HT : ∀ {σ τ : Mem}, recT σ = some τ → CT l yX11_readText cX11_readText 1 none fT lT G [.ref (gh G + 111)] σ τ none) : S_X11_readTimes_50 (X11_readTimes_B50 recT) p l e R s m args below meth c G τ := by
  intro σ H locs ls l1 l2 k1 hP hS hf hl
  unfold X11_readTimes_B50 at hf
  obtain ⟨s2, hr1, hf⟩ := bd_inv hf
  refine k_X11_need X hP hS hl.1  hr1 (tb t_1288 rfl) (by omega) (Nat.le_of_ble_eq_true rfl) dX11_readTimes_50 (fun H locs hP hS => ?_)
  refine lv_aload_n X.1 X.2.1 dX11_readTimes_53 rfl (lv_at hl 0 rfl) ?_
  refine lv_dup X.1 X.2.1 dX11_readTimes_54 rfl ?_
  refine g_11_10 X hP ks_11 (tb t_1097 rfl) dX11_readTimes_55 ?_
  refine r_iconst X 1 dX11_readTimes_58 ?_
  refine r_iadd X dX11_readTimes_59 ?_
  refine p_11_10 X hP hS ks_11 (tb t_1097 rfl) dX11_readTimes_60 (fun H locs hP hS => ?_)
  obtain ⟨s3, es3, hf⟩ := lt_inv hf
  rw [es3] at hP
  refine lv_aload_n X.1 X.2.1 dX11_readTimes_63 rfl (lv_at hl 0 rfl) ?_
  obtain ⟨s5, hr4, hf⟩ := bd_inv hf
  refine kt_X11_readText (fT := fT) (lT := lT) (@HT) X hP hS hl.1  hr4 (tb t_1268 rfl) (by omega) (Nat.le_of_ble_eq_true rfl) dX11_readTimes_64 (fun H locs hP hS => ?_)
  refine lv_aload_n X.1 X.2.1 dX11_readTimes_67 rfl (lv_at hl 0 rfl) ?_
  refine lv_aload_n X.1 X.2.1 dX11_readTimes_68 rfl (lv_at hl 0 rfl) ?_
  refine g_11_11 X hP ks_11 (tb t_1098 rfl) dX11_readTimes_69 ?_
  refine r_if_ne (tgt := 87) X dX11_readTimes_72 (by decide) (fun q => ?_) (fun q => ?_)
  · replace hf := it_inv q hf
    exact a_X11_readTimes_87 X (@HT) s5 H locs ls l1 l2 hP hS hf hl
  · replace hf := ie_inv q hf
    refine lv_aload_n X.1 X.2.1 dX11_readTimes_75 rfl (lv_at hl 0 rfl) ?_
    refine g_11_8 X hP ks_11 (tb t_1095 rfl) dX11_readTimes_76 ?_
    refine r_iconst X 4 dX11_readTimes_79 ?_
    refine r_icmp_ne (tgt := 87) X dX11_readTimes_80 (by decide) (fun q => ?_) (fun q => ?_)
    · replace hf := it_inv q hf
      exact a_X11_readTimes_87 X (@HT) s5 H locs ls l1 l2 hP hS hf hl
    · replace hf := ie_inv q hf
      refine r_iconst X 1 dX11_readTimes_83 ?_
      refine lv_goto (tgt := 88) X.1 X.2.1 dX11_readTimes_84 (by decide) ?_
      exact a_X11_readTimes_88 X (@HT) s5 H locs ls l1 l2 1 hP hS hf hl
set_option maxHeartbeats 4000000 in
theorem a_X11_readTimes_49 {p : Program} {l : Launch} {e : Env} {R : Room} {s : State} {m : MethodId} {args : Array Value} {below : List Frame} {meth : Method} {c : Code} {G : GT} {recT : Mem → Option Mem} {fT lT : Nat} {τ : Mem} (X : CX p R s m args meth c cX11_readTimes 6 RX11 none (fT + 20) (lT + 600) G) (HT : ∀ {σ τ : Mem}, recT σ = some τ → CT l yX11_readText cX11_readText 1 none fT lT G [.ref (gh G + 111)] σ τ none) : S_X11_readTimes_49 (X11_readTimes_B49 recT) p l e R s m args below meth c G τ := by
  intro σ H locs ls l1 l2 hP hS hf hl
  unfold X11_readTimes_B49 at hf
  refine r_iconst X 0 dX11_readTimes_49 ?_
  exact a_X11_readTimes_50 X (@HT) σ H locs ls l1 l2 0 hP hS hf hl
set_option maxHeartbeats 4000000 in
theorem a_X11_readTimes_0 {p : Program} {l : Launch} {e : Env} {R : Room} {s : State} {m : MethodId} {args : Array Value} {below : List Frame} {meth : Method} {c : Code} {G : GT} {recT : Mem → Option Mem} {fT lT : Nat} {τ : Mem} (X : CX p R s m args meth c cX11_readTimes 6 RX11 none (fT + 20) (lT + 600) G) (HT : ∀ {σ τ : Mem}, recT σ = some τ → CT l yX11_readText cX11_readText 1 none fT lT G [.ref (gh G + 111)] σ τ none) : S_X11_readTimes_0 (X11_readTimes recT) p l e R s m args below meth c G τ := by
  intro σ H locs ls hP hS hf hl
  unfold X11_readTimes at hf
  refine lv_aload_n X.1 X.2.1 dX11_readTimes_0 rfl (lv_at hl 0 rfl) ?_
  refine g_11_9 X hP ks_11 (tb t_1096 rfl) dX11_readTimes_1 ?_
  obtain ⟨l1_1, el1_1, hf⟩ := lt_inv hf
  refine r_eqi el1_1 ?_
  refine lv_istore_n (lv' := [(1, .int (i32 l1_1)), (0, .ref (gh G + 111))]) X.1 X.2.1 dX11_readTimes_4 rfl hl (by decide) rfl (fun ls hl => ?_)
  refine lv_aload_n X.1 X.2.1 dX11_readTimes_5 rfl (lv_at hl 1 rfl) ?_
  refine g_11_13 X hP ks_11 (tb t_1100 rfl) dX11_readTimes_6 ?_
  obtain ⟨l2_2, el2_2, hf⟩ := lt_inv hf
  refine r_eqi el2_2 ?_
  refine lv_istore_n (lv' := [(2, .int (i32 l2_2)), (1, .int (i32 l1_1)), (0, .ref (gh G + 111))]) X.1 X.2.1 dX11_readTimes_9 rfl hl (by decide) rfl (fun ls hl => ?_)
  refine lv_aload_n X.1 X.2.1 dX11_readTimes_10 rfl (lv_at hl 2 rfl) ?_
  refine lv_aload_n X.1 X.2.1 dX11_readTimes_11 rfl (lv_at hl 2 rfl) ?_
  refine r_iconst X 1 dX11_readTimes_12 ?_
  refine r_bipush X 9 (by decide) dX11_readTimes_13 ?_
  obtain ⟨r3, hr3, hf⟩ := bd_inv hf
  refine k_X11_isNumber X hP hS hl.1  hr3 (tb t_1284 rfl) (by omega) (Nat.le_of_ble_eq_true rfl) dX11_readTimes_15 (fun H locs hP hS => ?_)
  obtain ⟨s5, hr4, hf⟩ := bd_inv hf
  refine k_X11_need X hP hS hl.1  hr4 (tb t_1288 rfl) (by omega) (Nat.le_of_ble_eq_true rfl) dX11_readTimes_18 (fun H locs hP hS => ?_)
  refine lv_aload_n X.1 X.2.1 dX11_readTimes_21 rfl (lv_at hl 2 rfl) ?_
  refine lv_aload_n X.1 X.2.1 dX11_readTimes_22 rfl (lv_at hl 2 rfl) ?_
  refine g_11_11 X hP ks_11 (tb t_1098 rfl) dX11_readTimes_23 ?_
  refine r_if_ne (tgt := 49) X dX11_readTimes_26 (by decide) (fun q => ?_) (fun q => ?_)
  · replace hf := it_inv q hf
    exact a_X11_readTimes_49 X (@HT) s5 H locs ls l1_1 l2_2 hP hS hf (lv_sub hl [2, 1, 0] rfl)
  · replace hf := ie_inv q hf
    refine lv_aload_n X.1 X.2.1 dX11_readTimes_29 rfl (lv_at hl 2 rfl) ?_
    refine g_11_8 X hP ks_11 (tb t_1095 rfl) dX11_readTimes_30 ?_
    refine r_iconst X 3 dX11_readTimes_33 ?_
    refine r_icmp_ne (tgt := 49) X dX11_readTimes_34 (by decide) (fun q => ?_) (fun q => ?_)
    · replace hf := it_inv q hf
      exact a_X11_readTimes_49 X (@HT) s5 H locs ls l1_1 l2_2 hP hS hf (lv_sub hl [2, 1, 0] rfl)
    · replace hf := ie_inv q hf
      refine lv_aload_n X.1 X.2.1 dX11_readTimes_37 rfl (lv_at hl 2 rfl) ?_
      refine g_11_10 X hP ks_11 (tb t_1097 rfl) dX11_readTimes_38 ?_
      refine r_iconst X 4 dX11_readTimes_41 ?_
      refine r_icmp_ge (tgt := 49) X dX11_readTimes_42 (by decide) (fun q => ?_) (fun q => ?_)
      · replace hf := it_inv q hf
        exact a_X11_readTimes_49 X (@HT) s5 H locs ls l1_1 l2_2 hP hS hf (lv_sub hl [2, 1, 0] rfl)
      · replace hf := ie_inv q hf
        refine r_iconst X 1 dX11_readTimes_45 ?_
        refine lv_goto (tgt := 50) X.1 X.2.1 dX11_readTimes_46 (by decide) ?_
        exact a_X11_readTimes_50 X (@HT) s5 H locs ls l1_1 l2_2 1 hP hS hf (lv_sub hl [2, 1, 0] rfl)
set_option maxHeartbeats 4000000 in
theorem c_X11_readTimes {l : Launch} {G : GT} {σ τ : Mem} {recT : Mem → Option Mem} {fT lT : Nat} (HT : ∀ {σ τ : Mem}, recT σ = some τ → CT l yX11_readText cX11_readText 1 none fT lT G [.ref (gh G + 111)] σ τ none) (hf : X11_readTimes recT σ = some τ) : CT l yX11_readTimes cX11_readTimes 6 none (fT + 20) (lT + 600) G [.ref (gh G + 111)] σ τ none := by
  refine CT.mk (own := RX11) (by decide) rfl (Nat.le_of_ble_eq_true rfl) ?_
  intro p e s m below meth c ls X hP hS hl
  have hl : lv_has ls 6 [(0, .ref (gh G + 111))] := hl
  exact a_X11_readTimes_0 X (@HT) σ s.heap [] ls hP hS hf hl
theorem k_X11_readTimes {p : Program} {l : Launch} {e : Env} {R : Room} {s : State} {m : MethodId} {args : Array Value} {below : List Frame} {meth : Method} {c : Code} {H : Heap} {locs : List Loc} {Q : State → Prop} {cc : ByteArray} {nL : Nat} {own : String} {ret : Option FieldType} {fF fL : Nat} {G : GT} {pc idx : Nat} {ls : Array Slot} {rest : List Value} {σ τ : Mem} {recT : Mem → Option Mem} {fT lT : Nat} (X : CX p R s m args meth c cc nL own ret fF fL G) (hP : PW G σ H) (hS : va_S (AA G) s.heap H locs) (hls : ls.size = nL) (HT : ∀ {σ τ : Mem}, recT σ = some τ → CT l yX11_readText cX11_readText 1 none fT lT G [.ref (gh G + 111)] σ τ none) (hf : X11_readTimes recT σ = some τ) (h1 : Cond.methodLink own idx yX11_readTimes ∈ TB) (hR : (fT + 20) + 1 ≤ fF ∧ 8 + (6 + 11) + (lT + 600) ≤ fL) (hW : (rest.map fun v => v.category).sum ≤ 8) (hd : decode cc pc = .ok (.invokevirtual idx, 3)) (kk : ∀ (H1 : Heap) (locs1 : List Loc), PW G τ H1 → va_S (AA G) s.heap H1 locs1 → W p l e R s m args below meth c H1 locs1 0 0 Q (F0 m (pc + 3) ls (rest))) : W p l e R s m args below meth c H locs 0 0 Q (F0 m pc ls (.ref (gh G + 111) :: rest)) := r_callV (n := 0) X hP hS hls (c_X11_readTimes (@HT) hf) h1 (tb t_1294 rfl) (tb t_42 rfl) (tb t_87 rfl) (tb t_1295 rfl) (by decide +kernel) hR (r_recv X hP (kd_lt ks_11 (by decide)) (cE_11 ks_11) rfl) rfl rfl hW hd kk
