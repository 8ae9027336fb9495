/-! X10_lay -/
theorem dX10_lay_0 : decode cX10_lay 0 = .ok (.iload_n 1, 1) := by decide +kernel
theorem dX10_lay_1 : decode cX10_lay 1 = .ok (.iconst 0, 1) := by decide +kernel
theorem dX10_lay_2 : decode cX10_lay 2 = .ok (.bipush 6, 2) := by decide +kernel
theorem dX10_lay_4 : decode cX10_lay 4 = .ok (.invokestatic 62, 3) := by decide +kernel
theorem dX10_lay_7 : decode cX10_lay 7 = .ok (.ifCond .eq 12, 3) := by decide +kernel
theorem dX10_lay_10 : decode cX10_lay 10 = .ok (.aload_n 0, 1) := by decide +kernel
theorem dX10_lay_11 : decode cX10_lay 11 = .ok (.iload_n 2, 1) := by decide +kernel
theorem dX10_lay_12 : decode cX10_lay 12 = .ok (.iload_n 3, 1) := by decide +kernel
theorem dX10_lay_13 : decode cX10_lay 13 = .ok (.invokevirtual 141, 3) := by decide +kernel
theorem dX10_lay_16 : decode cX10_lay 16 = .ok (.ifCond .ne 10, 3) := by decide +kernel
theorem dX10_lay_19 : decode cX10_lay 19 = .ok (.aload_n 0, 1) := by decide +kernel
theorem dX10_lay_20 : decode cX10_lay 20 = .ok (.ldc 72, 2) := by decide +kernel
theorem dX10_lay_22 : decode cX10_lay 22 = .ok (.invokevirtual 73, 3) := by decide +kernel
theorem dX10_lay_25 : decode cX10_lay 25 = .ok (.ireturn, 1) := by decide +kernel
theorem dX10_lay_26 : decode cX10_lay 26 = .ok (.aload_n 0, 1) := by decide +kernel
theorem dX10_lay_27 : decode cX10_lay 27 = .ok (.getfield 10, 3) := by decide +kernel
theorem dX10_lay_30 : decode cX10_lay 30 = .ok (.getfield 152, 3) := by decide +kernel
theorem dX10_lay_33 : decode cX10_lay 33 = .ok (.iload_n 1, 1) := by decide +kernel
theorem dX10_lay_34 : decode cX10_lay 34 = .ok (.iload_n 2, 1) := by decide +kernel
theorem dX10_lay_35 : decode cX10_lay 35 = .ok (.iload_n 3, 1) := by decide +kernel
theorem dX10_lay_36 : decode cX10_lay 36 = .ok (.invokevirtual 264, 3) := by decide +kernel
theorem dX10_lay_39 : decode cX10_lay 39 = .ok (.istore 4, 2) := by decide +kernel
theorem dX10_lay_41 : decode cX10_lay 41 = .ok (.iload 4, 2) := by decide +kernel
theorem dX10_lay_43 : decode cX10_lay 43 = .ok (.ifCond .ge 12, 3) := by decide +kernel
theorem dX10_lay_46 : decode cX10_lay 46 = .ok (.aload_n 0, 1) := by decide +kernel
theorem dX10_lay_47 : decode cX10_lay 47 = .ok (.ldc 110, 2) := by decide +kernel
theorem dX10_lay_49 : decode cX10_lay 49 = .ok (.invokevirtual 73, 3) := by decide +kernel
theorem dX10_lay_52 : decode cX10_lay 52 = .ok (.goto 5, 3) := by decide +kernel
theorem dX10_lay_55 : decode cX10_lay 55 = .ok (.iload 4, 2) := by decide +kernel
theorem dX10_lay_57 : decode cX10_lay 57 = .ok (.ireturn, 1) := by decide +kernel
def X10_lay_B19 (σ : Mem) : Option (Int × Mem) :=
  bd2 (X10_tell σ (-1000001)) fun r1 s2 =>
  some (r1, s2)
def S_X10_lay_19 (fn : Mem → Option (Int × Mem)) (p : Program) (l : Launch) (e : Env) (R : Room) (s : State) (m : MethodId) (args : Array Value) (below : List Frame) (meth : Method) (c : Code) (G : GT) (τ : Mem) (res : Int) : Prop := ∀ (σ : Mem) (H : Heap) (locs : List Loc) (ls : Array Slot), PW G σ H → va_S (AA G) s.heap H locs → fn σ = some (res, τ) → lv_has ls 5 [(0, .ref (gh G + 0))] → W p l e R s m args below meth c H locs 0 0 (MQ below (QM G (some (.int (i32 res))) τ) args s 0 0 (AA G)) (F0 m 19 ls [])
def X10_lay (σ : Mem) (l1 : Int) (l2 : Int) (l3 : Int) : Option (Int × Mem) :=
  bd (X10_within σ l1 0 6) fun r1 =>
  if w32 r1 = 0 then
    X10_lay_B19 σ
  else
  bd (X10_isBar σ l2 l3) fun r2 =>
  if w32 r2 ≠ 0 then
    bd2 (X0_add σ 4 l1 l2 l3) fun r3 s4 =>
    if 0 ≤ w32 r3 then
      some (r3, s4)
    else
    bd2 (X10_tell s4 (-1000002)) fun r5 s6 =>
    some (r5, s6)
  else
  X10_lay_B19 σ
def S_X10_lay_0 (fn : Mem → Int → Int → Int → Option (Int × Mem)) (p : Program) (l : Launch) (e : Env) (R : Room) (s : State) (m : MethodId) (args : Array Value) (below : List Frame) (meth : Method) (c : Code) (G : GT) (τ : Mem) (res : Int) : Prop := ∀ (σ : Mem) (H : Heap) (locs : List Loc) (ls : Array Slot) (l1 : Int) (l2 : Int) (l3 : Int), PW G σ H → va_S (AA G) s.heap H locs → fn σ l1 l2 l3 = some (res, τ) → lv_has ls 5 [(0, .ref (gh G + 0)), (1, .int (i32 l1)), (2, .int (i32 l2)), (3, .int (i32 l3))] → W p l e R s m args below meth c H locs 0 0 (MQ below (QM G (some (.int (i32 res))) τ) args s 0 0 (AA G)) (F0 m 0 ls [])
set_option maxHeartbeats 4000000 in
theorem a_X10_lay_19 {p : Program} {l : Launch} {e : Env} {R : Room} {s : State} {m : MethodId} {args : Array Value} {below : List Frame} {meth : Method} {c : Code} {G : GT} {τ : Mem} {res : Int} (X : CX p R s m args meth c cX10_lay 5 RX10 (some FieldType.int) 4 124 G) : S_X10_lay_19 (X10_lay_B19) p l e R s m args below meth c G τ res := by
  intro σ H locs ls hP hS hf hl
  unfold X10_lay_B19 at hf
  refine lv_aload_n X.1 X.2.1 dX10_lay_19 rfl (lv_at hl 0 rfl) ?_
  refine r_ldc X (-1000001) (tb t_430 rfl) (by decide) dX10_lay_20 ?_
  obtain ⟨r1, s2, hr1, hf⟩ := bd2_inv hf
  refine k_X10_tell X hP hS hl.1  hr1 (tb t_431 rfl) (by decide) (Nat.le_of_ble_eq_true rfl) dX10_lay_22 (fun H locs hP hS => ?_)
  obtain ⟨rfl, rfl⟩ := so2_inv hf
  exact r_iret X hP hS dX10_lay_25
set_option maxHeartbeats 4000000 in
theorem a_X10_lay_0 {p : Program} {l : Launch} {e : Env} {R : Room} {s : State} {m : MethodId} {args : Array Value} {below : List Frame} {meth : Method} {c : Code} {G : GT} {τ : Mem} {res : Int} (X : CX p R s m args meth c cX10_lay 5 RX10 (some FieldType.int) 4 124 G) : S_X10_lay_0 (X10_lay) p l e R s m args below meth c G τ res := by
  intro σ H locs ls l1 l2 l3 hP hS hf hl
  unfold X10_lay at hf
  refine lv_iload_n X.1 X.2.1 dX10_lay_0 rfl (lv_at hl 1 rfl) ?_
  refine r_iconst X 0 dX10_lay_1 ?_
  refine r_bipush X 6 (by decide) dX10_lay_2 ?_
  obtain ⟨r1, hr1, hf⟩ := bd_inv hf
  refine k_X10_within X hP hS hl.1  hr1 (tb t_423 rfl) (by decide) (Nat.le_of_ble_eq_true rfl) dX10_lay_4 (fun H locs hP hS => ?_)
  refine r_if_eq (tgt := 19) X dX10_lay_7 (by decide) (fun q => ?_) (fun q => ?_)
  · replace hf := it_inv q hf
    exact a_X10_lay_19 X σ H locs ls  hP hS hf (lv_sub hl [0] rfl)
  · replace hf := ie_inv q hf
    refine lv_aload_n X.1 X.2.1 dX10_lay_10 rfl (lv_at hl 0 rfl) ?_
    refine lv_iload_n X.1 X.2.1 dX10_lay_11 rfl (lv_at hl 2 rfl) ?_
    refine lv_iload_n X.1 X.2.1 dX10_lay_12 rfl (lv_at hl 3 rfl) ?_
    obtain ⟨r2, hr2, hf⟩ := bd_inv hf
    refine k_X10_isBar X hP hS hl.1  hr2 (tb t_632 rfl) (by decide) (Nat.le_of_ble_eq_true rfl) dX10_lay_13 (fun H locs hP hS => ?_)
    refine r_if_ne (tgt := 26) X dX10_lay_16 (by decide) (fun q => ?_) (fun q => ?_)
    · replace hf := it_inv q hf
      refine lv_aload_n X.1 X.2.1 dX10_lay_26 rfl (lv_at hl 0 rfl) ?_
      refine g_10_0 (r := 1) X hP ks_10 rfl (tb t_388 rfl) dX10_lay_27 ?_
      refine g_7_2 (r := 4) X hP (ch_10_0 ks_10).1 rfl (tb t_174 rfl) dX10_lay_30 ?_
      refine lv_iload_n X.1 X.2.1 dX10_lay_33 rfl (lv_at hl 1 rfl) ?_
      refine lv_iload_n X.1 X.2.1 dX10_lay_34 rfl (lv_at hl 2 rfl) ?_
      refine lv_iload_n X.1 X.2.1 dX10_lay_35 rfl (lv_at hl 3 rfl) ?_
      obtain ⟨r3, s4, hr3, hf⟩ := bd2_inv hf
      refine k_X0_add X hP hS hl.1 (ch_7_2 (ch_10_0 ks_10).1).1 hr3 (tb t_927 rfl) (by decide) (Nat.le_of_ble_eq_true rfl) dX10_lay_36 (fun H locs hP hS => ?_)
      refine lv_istore (lv' := [(4, .int (i32 r3)), (0, .ref (gh G + 0)), (1, .int (i32 l1)), (2, .int (i32 l2)), (3, .int (i32 l3))]) X.1 X.2.1 dX10_lay_39 hl (by decide) rfl (fun ls hl => ?_)
      refine lv_iload X.1 X.2.1 dX10_lay_41 (lv_at hl 0 rfl) ?_
      refine r_if_ge (tgt := 55) X dX10_lay_43 (by decide) (fun q => ?_) (fun q => ?_)
      · replace hf := it_inv q hf
        refine lv_iload X.1 X.2.1 dX10_lay_55 (lv_at hl 0 rfl) ?_
        obtain ⟨rfl, rfl⟩ := so2_inv hf
        exact r_iret X hP hS dX10_lay_57
      · replace hf := ie_inv q hf
        refine lv_aload_n X.1 X.2.1 dX10_lay_46 rfl (lv_at hl 1 rfl) ?_
        refine r_ldc X (-1000002) (tb t_463 rfl) (by decide) dX10_lay_47 ?_
        obtain ⟨r5, s6, hr5, hf⟩ := bd2_inv hf
        refine k_X10_tell X hP hS hl.1  hr5 (tb t_431 rfl) (by decide) (Nat.le_of_ble_eq_true rfl) dX10_lay_49 (fun H locs hP hS => ?_)
        refine lv_goto (tgt := 57) X.1 X.2.1 dX10_lay_52 (by decide) ?_
        obtain ⟨rfl, rfl⟩ := so2_inv hf
        exact r_iret X hP hS dX10_lay_57
    · replace hf := ie_inv q hf
      exact a_X10_lay_19 X σ H locs ls  hP hS hf (lv_sub hl [0] rfl)
set_option maxHeartbeats 4000000 in
theorem c_X10_lay {l : Launch} {G : GT} {σ τ : Mem} {res : Int} {l1 : Int} {l2 : Int} {l3 : Int} (hf : X10_lay σ l1 l2 l3 = some (res, τ)) : CT l yX10_lay cX10_lay 5 (some FieldType.int) 4 124 G [.ref (gh G + 0), .int (i32 l1), .int (i32 l2), .int (i32 l3)] σ τ (some (.int (i32 res))) := by
  refine CT.mk (own := RX10) (by decide) rfl (Nat.le_of_ble_eq_true rfl) ?_
  intro p e s m below meth c ls X hP hS hl
  have hl : lv_has ls 5 [(0, .ref (gh G + 0)), (1, .int (i32 l1)), (2, .int (i32 l2)), (3, .int (i32 l3))] := hl
  exact a_X10_lay_0 X σ s.heap [] ls l1 l2 l3 hP hS hf hl
theorem k_X10_lay {p : Program} {l : Launch} {e : Env} {R : Room} {s : State} {m : MethodId} {args : Array Value} {below : List Frame} {meth : Method} {c : Code} {H : Heap} {locs : List Loc} {Q : State → Prop} {cc : ByteArray} {nL : Nat} {own : String} {ret : Option FieldType} {fF fL : Nat} {G : GT} {pc idx : Nat} {ls : Array Slot} {rest : List Value} {σ τ : Mem} {res : Int} {l1 : Int} {l2 : Int} {l3 : Int} (X : CX p R s m args meth c cc nL own ret fF fL G) (hP : PW G σ H) (hS : va_S (AA G) s.heap H locs) (hls : ls.size = nL) (hf : X10_lay σ l1 l2 l3 = some (res, τ)) (h1 : Cond.methodLink own idx yX10_lay ∈ TB) (hR : 4 + 1 ≤ fF ∧ 8 + (5 + 11) + 124 ≤ fL) (hW : (rest.map fun v => v.category).sum ≤ 8) (hd : decode cc pc = .ok (.invokevirtual idx, 3)) (kk : ∀ (H1 : Heap) (locs1 : List Loc), PW G τ H1 → va_S (AA G) s.heap H1 locs1 → W p l e R s m args below meth c H1 locs1 0 0 Q (F0 m (pc + 3) ls (.int (i32 res) :: rest))) : W p l e R s m args below meth c H locs 0 0 Q (F0 m pc ls (.int (i32 l3) :: .int (i32 l2) :: .int (i32 l1) :: .ref (gh G + 0) :: rest)) := r_callV (n := 3) X hP hS hls (c_X10_lay hf) h1 (tb t_924 rfl) (tb t_925 rfl) (tb t_75 rfl) (tb t_926 rfl) (by decide +kernel) hR (r_recv X hP (kd_lt ks_10 (by decide)) (cE_10 ks_10) rfl) rfl rfl hW hd kk
/-! X3_fits -/
theorem dX3_fits_0 : decode cX3_fits 0 = .ok (.iload_n 2, 1) := by decide +kernel
theorem dX3_fits_1 : decode cX3_fits 1 = .ok (.aload_n 0, 1) := by decide +kernel
theorem dX3_fits_2 : decode cX3_fits 2 = .ok (.getfield 15, 3) := by decide +kernel
theorem dX3_fits_5 : decode cX3_fits 5 = .ok (.iload_n 1, 1) := by decide +kernel
theorem dX3_fits_6 : decode cX3_fits 6 = .ok (.iaload, 1) := by decide +kernel
theorem dX3_fits_7 : decode cX3_fits 7 = .ok (.if_icmp .gt 7, 3) := by decide +kernel
theorem dX3_fits_10 : decode cX3_fits 10 = .ok (.iconst 1, 1) := by decide +kernel
theorem dX3_fits_11 : decode cX3_fits 11 = .ok (.goto 4, 3) := by decide +kernel
theorem dX3_fits_14 : decode cX3_fits 14 = .ok (.iconst 0, 1) := by decide +kernel
theorem dX3_fits_15 : decode cX3_fits 15 = .ok (.ireturn, 1) := by decide +kernel
def X3_fits (σ : Mem) (l1 : Int) (l2 : Int) : Option (Int) :=
  ag 40 l1 fun j1 =>
  if w32 (σ 56 j1) < w32 l2 then
    some 0
  else
  some 1
def S_X3_fits_0 (fn : Int → Int → Option (Int)) (p : Program) (l : Launch) (e : Env) (R : Room) (s : State) (m : MethodId) (args : Array Value) (below : List Frame) (meth : Method) (c : Code) (G : GT) (σ : Mem) (res : Int) : Prop := ∀ (H : Heap) (locs : List Loc) (ls : Array Slot) (l1 : Int) (l2 : Int), PW G σ H → va_S (AA G) s.heap H locs → fn l1 l2 = some res → lv_has ls 3 [(0, .ref (gh G + 54)), (1, .int (i32 l1)), (2, .int (i32 l2))] → W p l e R s m args below meth c H locs 0 0 (MQ below (QM G (some (.int (i32 res))) σ) args s 0 0 (AA G)) (F0 m 0 ls [])
set_option maxHeartbeats 4000000 in
theorem a_X3_fits_0 {p : Program} {l : Launch} {e : Env} {R : Room} {s : State} {m : MethodId} {args : Array Value} {below : List Frame} {meth : Method} {c : Code} {G : GT} {σ : Mem} {res : Int} (X : CX p R s m args meth c cX3_fits 3 RX3 (some FieldType.boolean) 1 60 G) : S_X3_fits_0 (X3_fits σ) p l e R s m args below meth c G σ res := by
  intro H locs ls l1 l2 hP hS hf hl
  unfold X3_fits at hf
  refine lv_iload_n X.1 X.2.1 dX3_fits_0 rfl (lv_at hl 2 rfl) ?_
  refine lv_aload_n X.1 X.2.1 dX3_fits_1 rfl (lv_at hl 0 rfl) ?_
  refine g_3_1 (r := 56) X hP ks_3 rfl (tb t_263 rfl) dX3_fits_2 ?_
  refine lv_iload_n X.1 X.2.1 dX3_fits_5 rfl (lv_at hl 1 rfl) ?_
  obtain ⟨j1, hij1, hjj1, hlj1, hf⟩ := ag_inv hf
  refine r_iald X hP (ch_3_1 ks_3).1 (ch_3_1 ks_3).2 hij1 hjj1 dX3_fits_6 ?_
  refine r_icmp_gt (tgt := 14) X dX3_fits_7 (by decide) (fun q => ?_) (fun q => ?_)
  · replace hf := it_inv q hf
    refine r_iconst X 0 dX3_fits_14 ?_
    cases so_inv hf
    exact r_zret X hP hS (Or.inl rfl) dX3_fits_15
  · replace hf := ie_inv q hf
    refine r_iconst X 1 dX3_fits_10 ?_
    refine lv_goto (tgt := 15) X.1 X.2.1 dX3_fits_11 (by decide) ?_
    cases so_inv hf
    exact r_zret X hP hS (Or.inr rfl) dX3_fits_15
set_option maxHeartbeats 4000000 in
theorem c_X3_fits {l : Launch} {G : GT} {σ : Mem} {res : Int} {l1 : Int} {l2 : Int} (hf : X3_fits σ l1 l2 = some res) : CT l yX3_fits cX3_fits 3 (some FieldType.boolean) 1 60 G [.ref (gh G + 54), .int (i32 l1), .int (i32 l2)] σ σ (some (.int (i32 res))) := by
  refine CT.mk (own := RX3) (by decide) rfl (Nat.le_of_ble_eq_true rfl) ?_
  intro p e s m below meth c ls X hP hS hl
  have hl : lv_has ls 3 [(0, .ref (gh G + 54)), (1, .int (i32 l1)), (2, .int (i32 l2))] := hl
  exact a_X3_fits_0 X  s.heap [] ls l1 l2 hP hS hf hl
theorem k_X3_fits {p : Program} {l : Launch} {e : Env} {R : Room} {s : State} {m : MethodId} {args : Array Value} {below : List Frame} {meth : Method} {c : Code} {H : Heap} {locs : List Loc} {Q : State → Prop} {cc : ByteArray} {nL : Nat} {own : String} {ret : Option FieldType} {fF fL : Nat} {G : GT} {pc idx : Nat} {ls : Array Slot} {rest : List Value} {σ : Mem} {res : Int} {l1 : Int} {l2 : Int} (X : CX p R s m args meth c cc nL own ret fF fL G) (hP : PW G σ H) (hS : va_S (AA G) s.heap H locs) (hls : ls.size = nL) (hf : X3_fits σ l1 l2 = some res) (h1 : Cond.methodLink own idx yX3_fits ∈ TB) (hR : 1 + 1 ≤ fF ∧ 8 + (3 + 11) + 60 ≤ fL) (hW : (rest.map fun v => v.category).sum ≤ 8) (hd : decode cc pc = .ok (.invokevirtual idx, 3)) (kk : ∀ (H1 : Heap) (locs1 : List Loc), PW G σ H1 → va_S (AA G) s.heap H1 locs1 → W p l e R s m args below meth c H1 locs1 0 0 Q (F0 m (pc + 3) ls (.int (i32 res) :: rest))) : W p l e R s m args below meth c H locs 0 0 Q (F0 m pc ls (.int (i32 l2) :: .int (i32 l1) :: .ref (gh G + 54) :: rest)) := r_callV (n := 2) X hP hS hls (c_X3_fits hf) h1 (tb t_716 rfl) (tb t_717 rfl) (tb t_83 rfl) (tb t_718 rfl) (by decide +kernel) hR (r_recv X hP (kd_lt ks_3 (by decide)) (cE_3 ks_3) rfl) rfl rfl hW hd kk
/-! X10_line -/
theorem dX10_line_0 : decode cX10_line 0 = .ok (.aload_n 0, 1) := by decide +kernel
theorem dX10_line_1 : decode cX10_line 1 = .ok (.iload_n 1, 1) := by decide +kernel
theorem dX10_line_2 : decode cX10_line 2 = .ok (.iload_n 2, 1) := by decide +kernel
theorem dX10_line_3 : decode cX10_line 3 = .ok (.iload_n 3, 1) := by decide +kernel
theorem dX10_line_4 : decode cX10_line 4 = .ok (.invokevirtual 175, 3) := by decide +kernel
theorem dX10_line_7 : decode cX10_line 7 = .ok (.ifCond .eq 11, 3) := by decide +kernel
theorem dX10_line_10 : decode cX10_line 10 = .ok (.iload 4, 2) := by decide +kernel
theorem dX10_line_12 : decode cX10_line 12 = .ok (.invokestatic 169, 3) := by decide +kernel
theorem dX10_line_15 : decode cX10_line 15 = .ok (.ifCond .ne 10, 3) := by decide +kernel
theorem dX10_line_18 : decode cX10_line 18 = .ok (.aload_n 0, 1) := by decide +kernel
theorem dX10_line_19 : decode cX10_line 19 = .ok (.ldc 72, 2) := by decide +kernel
theorem dX10_line_21 : decode cX10_line 21 = .ok (.invokevirtual 73, 3) := by decide +kernel
theorem dX10_line_24 : decode cX10_line 24 = .ok (.ireturn, 1) := by decide +kernel
theorem dX10_line_25 : decode cX10_line 25 = .ok (.aload_n 0, 1) := by decide +kernel
theorem dX10_line_26 : decode cX10_line 26 = .ok (.getfield 47, 3) := by decide +kernel
theorem dX10_line_29 : decode cX10_line 29 = .ok (.getfield 178, 3) := by decide +kernel
theorem dX10_line_32 : decode cX10_line 32 = .ok (.astore 5, 2) := by decide +kernel
theorem dX10_line_34 : decode cX10_line 34 = .ok (.aload 5, 2) := by decide +kernel
theorem dX10_line_36 : decode cX10_line 36 = .ok (.aload_n 0, 1) := by decide +kernel
theorem dX10_line_37 : decode cX10_line 37 = .ok (.getfield 10, 3) := by decide +kernel
theorem dX10_line_40 : decode cX10_line 40 = .ok (.getfield 77, 3) := by decide +kernel
theorem dX10_line_43 : decode cX10_line 43 = .ok (.iload_n 1, 1) := by decide +kernel
theorem dX10_line_44 : decode cX10_line 44 = .ok (.aaload, 1) := by decide +kernel
theorem dX10_line_45 : decode cX10_line 45 = .ok (.aload_n 0, 1) := by decide +kernel
theorem dX10_line_46 : decode cX10_line 46 = .ok (.getfield 10, 3) := by decide +kernel
theorem dX10_line_49 : decode cX10_line 49 = .ok (.getfield 95, 3) := by decide +kernel
theorem dX10_line_52 : decode cX10_line 52 = .ok (.iload 4, 2) := by decide +kernel
theorem dX10_line_54 : decode cX10_line 54 = .ok (.iload_n 2, 1) := by decide +kernel
theorem dX10_line_55 : decode cX10_line 55 = .ok (.iload_n 3, 1) := by decide +kernel
theorem dX10_line_56 : decode cX10_line 56 = .ok (.invokevirtual 182, 3) := by decide +kernel
theorem dX10_line_59 : decode cX10_line 59 = .ok (.aload 5, 2) := by decide +kernel
theorem dX10_line_61 : decode cX10_line 61 = .ok (.iload_n 2, 1) := by decide +kernel
theorem dX10_line_62 : decode cX10_line 62 = .ok (.iload_n 3, 1) := by decide +kernel
theorem dX10_line_63 : decode cX10_line 63 = .ok (.invokevirtual 188, 3) := by decide +kernel
theorem dX10_line_66 : decode cX10_line 66 = .ok (.ifCond .ne 10, 3) := by decide +kernel
theorem dX10_line_69 : decode cX10_line 69 = .ok (.aload_n 0, 1) := by decide +kernel
theorem dX10_line_70 : decode cX10_line 70 = .ok (.ldc 191, 2) := by decide +kernel
theorem dX10_line_72 : decode cX10_line 72 = .ok (.invokevirtual 73, 3) := by decide +kernel
theorem dX10_line_75 : decode cX10_line 75 = .ok (.ireturn, 1) := by decide +kernel
theorem dX10_line_76 : decode cX10_line 76 = .ok (.aload 5, 2) := by decide +kernel
theorem dX10_line_78 : decode cX10_line 78 = .ok (.iload_n 2, 1) := by decide +kernel
theorem dX10_line_79 : decode cX10_line 79 = .ok (.iload_n 3, 1) := by decide +kernel
theorem dX10_line_80 : decode cX10_line 80 = .ok (.invokevirtual 192, 3) := by decide +kernel
theorem dX10_line_83 : decode cX10_line 83 = .ok (.istore 6, 2) := by decide +kernel
theorem dX10_line_85 : decode cX10_line 85 = .ok (.iload 6, 2) := by decide +kernel
theorem dX10_line_87 : decode cX10_line 87 = .ok (.ldc 195, 2) := by decide +kernel
theorem dX10_line_89 : decode cX10_line 89 = .ok (.if_icmp .ne 12, 3) := by decide +kernel
theorem dX10_line_92 : decode cX10_line 92 = .ok (.aload_n 0, 1) := by decide +kernel
theorem dX10_line_93 : decode cX10_line 93 = .ok (.ldc 161, 2) := by decide +kernel
theorem dX10_line_95 : decode cX10_line 95 = .ok (.invokevirtual 73, 3) := by decide +kernel
theorem dX10_line_98 : decode cX10_line 98 = .ok (.goto 5, 3) := by decide +kernel
theorem dX10_line_101 : decode cX10_line 101 = .ok (.iload 6, 2) := by decide +kernel
theorem dX10_line_103 : decode cX10_line 103 = .ok (.ireturn, 1) := by decide +kernel
def X10_line_B18 (σ : Mem) : Option (Int × Mem) :=
  bd2 (X10_tell σ (-1000001)) fun r1 s2 =>
  some (r1, s2)
def S_X10_line_18 (fn : Mem → Option (Int × Mem)) (p : Program) (l : Launch) (e : Env) (R : Room) (s : State) (m : MethodId) (args : Array Value) (below : List Frame) (meth : Method) (c : Code) (G : GT) (τ : Mem) (res : Int) : Prop := ∀ (σ : Mem) (H : Heap) (locs : List Loc) (ls : Array Slot), PW G σ H → va_S (AA G) s.heap H locs → fn σ = some (res, τ) → lv_has ls 7 [(0, .ref (gh G + 0))] → W p l e R s m args below meth c H locs 0 0 (MQ below (QM G (some (.int (i32 res))) τ) args s 0 0 (AA G)) (F0 m 18 ls [])
def X10_line (σ : Mem) (l1 : Int) (l2 : Int) (l3 : Int) (l4 : Int) : Option (Int × Mem) :=
  bd (X10_isStretch σ l1 l2 l3) fun r1 =>
  if w32 r1 = 0 then
    X10_line_B18 σ
  else
  bd (X10_isSize σ l4) fun r2 =>
  if w32 r2 ≠ 0 then
    ag 4 l1 fun j3 =>
    bd (X3_fillFrom σ (9 + 3 * j3) 3 l4 l2 l3) fun s5 =>
    bd (X3_fits s5 l2 l3) fun r6 =>
    if w32 r6 ≠ 0 then
      bd (X3_costOf s5 l2 l3) fun r7 =>
      if w32 r7 ≠ w32 2147483647 then
        some (r7, s5)
      else
      bd2 (X10_tell s5 (-1000005)) fun r8 s9 =>
      some (r8, s9)
    else
    bd2 (X10_tell s5 (-1000003)) fun r10 s11 =>
    some (r10, s11)
  else
  X10_line_B18 σ
def S_X10_line_0 (fn : Mem → Int → Int → Int → Int → Option (Int × Mem)) (p : Program) (l : Launch) (e : Env) (R : Room) (s : State) (m : MethodId) (args : Array Value) (below : List Frame) (meth : Method) (c : Code) (G : GT) (τ : Mem) (res : Int) : Prop := ∀ (σ : Mem) (H : Heap) (locs : List Loc) (ls : Array Slot) (l1 : Int) (l2 : Int) (l3 : Int) (l4 : Int), PW G σ H → va_S (AA G) s.heap H locs → fn σ l1 l2 l3 l4 = some (res, τ) → lv_has ls 7 [(0, .ref (gh G + 0)), (1, .int (i32 l1)), (2, .int (i32 l2)), (3, .int (i32 l3)), (4, .int (i32 l4))] → W p l e R s m args below meth c H locs 0 0 (MQ below (QM G (some (.int (i32 res))) τ) args s 0 0 (AA G)) (F0 m 0 ls [])
set_option maxHeartbeats 4000000 in
theorem a_X10_line_18 {p : Program} {l : Launch} {e : Env} {R : Room} {s : State} {m : MethodId} {args : Array Value} {below : List Frame} {meth : Method} {c : Code} {G : GT} {τ : Mem} {res : Int} (X : CX p R s m args meth c cX10_line 7 RX10 (some FieldType.int) 5 147 G) : S_X10_line_18 (X10_line_B18) p l e R s m args below meth c G τ res := by
  intro σ H locs ls hP hS hf hl
  unfold X10_line_B18 at hf
  refine lv_aload_n X.1 X.2.1 dX10_line_18 rfl (lv_at hl 0 rfl) ?_
  refine r_ldc X (-1000001) (tb t_430 rfl) (by decide) dX10_line_19 ?_
  obtain ⟨r1, s2, hr1, hf⟩ := bd2_inv hf
  refine k_X10_tell X hP hS hl.1  hr1 (tb t_431 rfl) (by decide) (Nat.le_of_ble_eq_true rfl) dX10_line_21 (fun H locs hP hS => ?_)
  obtain ⟨rfl, rfl⟩ := so2_inv hf
  exact r_iret X hP hS dX10_line_24
set_option maxHeartbeats 4000000 in
theorem a_X10_line_0 {p : Program} {l : Launch} {e : Env} {R : Room} {s : State} {m : MethodId} {args : Array Value} {below : List Frame} {meth : Method} {c : Code} {G : GT} {τ : Mem} {res : Int} (X : CX p R s m args meth c cX10_line 7 RX10 (some FieldType.int) 5 147 G) : S_X10_line_0 (X10_line) p l e R s m args below meth c G τ res := by
  intro σ H locs ls l1 l2 l3 l4 hP hS hf hl
  unfold X10_line at hf
  refine lv_aload_n X.1 X.2.1 dX10_line_0 rfl (lv_at hl 0 rfl) ?_
  refine lv_iload_n X.1 X.2.1 dX10_line_1 rfl (lv_at hl 1 rfl) ?_
  refine lv_iload_n X.1 X.2.1 dX10_line_2 rfl (lv_at hl 2 rfl) ?_
  refine lv_iload_n X.1 X.2.1 dX10_line_3 rfl (lv_at hl 3 rfl) ?_
  obtain ⟨r1, hr1, hf⟩ := bd_inv hf
  refine k_X10_isStretch X hP hS hl.1  hr1 (tb t_697 rfl) (by decide) (Nat.le_of_ble_eq_true rfl) dX10_line_4 (fun H locs hP hS => ?_)
  refine r_if_eq (tgt := 18) X dX10_line_7 (by decide) (fun q => ?_) (fun q => ?_)
  · replace hf := it_inv q hf
    exact a_X10_line_18 X σ H locs ls  hP hS hf (lv_sub hl [0] rfl)
  · replace hf := ie_inv q hf
    refine lv_iload X.1 X.2.1 dX10_line_10 (lv_at hl 4 rfl) ?_
    obtain ⟨r2, hr2, hf⟩ := bd_inv hf
    refine k_X10_isSize X hP hS hl.1  hr2 (tb t_686 rfl) (by decide) (Nat.le_of_ble_eq_true rfl) dX10_line_12 (fun H locs hP hS => ?_)
    refine r_if_ne (tgt := 25) X dX10_line_15 (by decide) (fun q => ?_) (fun q => ?_)
    · replace hf := it_inv q hf
      refine lv_aload_n X.1 X.2.1 dX10_line_25 rfl (lv_at hl 0 rfl) ?_
      refine g_10_7 (r := 53) X hP ks_10 rfl (tb t_395 rfl) dX10_line_26 ?_
      refine g_1_0 (r := 54) X hP ks_1 rfl (tb t_273 rfl) dX10_line_29 ?_
      refine lv_astore (lv' := [(5, .ref (gh G + 54)), (0, .ref (gh G + 0)), (1, .int (i32 l1)), (2, .int (i32 l2)), (3, .int (i32 l3)), (4, .int (i32 l4))]) X.1 X.2.1 dX10_line_32 hl (by decide) rfl (fun ls hl => ?_)
      refine lv_aload X.1 X.2.1 dX10_line_34 (lv_at hl 0 rfl) ?_
      refine lv_aload_n X.1 X.2.1 dX10_line_36 rfl (lv_at hl 1 rfl) ?_
      refine g_10_0 (r := 1) X hP ks_10 rfl (tb t_388 rfl) dX10_line_37 ?_
      refine g_7_0 (r := 2) X hP (ch_10_0 ks_10).1 rfl (tb t_170 rfl) dX10_line_40 ?_
      refine lv_iload_n X.1 X.2.1 dX10_line_43 rfl (lv_at hl 2 rfl) ?_
      obtain ⟨j3, hij3, hjj3, hlj3, hf⟩ := ag_inv hf
      refine r_aald18 (r := 9 + 3 * j3) X hP (ch_7_0 (ch_10_0 ks_10).1).1 (ch_7_0 (ch_10_0 ks_10).1).2 hij3 hjj3 rfl dX10_line_44 ?_
      refine lv_aload_n X.1 X.2.1 dX10_line_45 rfl (lv_at hl 1 rfl) ?_
      refine g_10_0 (r := 1) X hP ks_10 rfl (tb t_388 rfl) dX10_line_46 ?_
      refine g_7_1 (r := 3) X hP (ch_10_0 ks_10).1 rfl (tb t_172 rfl) dX10_line_49 ?_
      refine lv_iload X.1 X.2.1 dX10_line_52 (lv_at hl 5 rfl) ?_
      refine lv_iload_n X.1 X.2.1 dX10_line_54 rfl (lv_at hl 3 rfl) ?_
      refine lv_iload_n X.1 X.2.1 dX10_line_55 rfl (lv_at hl 4 rfl) ?_
      obtain ⟨s5, hr4, hf⟩ := bd_inv hf
      refine k_X3_fillFrom X hP hS hl.1 ((ch_18 (ch_7_0 (ch_10_0 ks_10).1).1).2 j3 hlj3) (ch_7_1 (ch_10_0 ks_10).1).1 hr4 (tb t_701 rfl) (by decide) (Nat.le_of_ble_eq_true rfl) dX10_line_56 (fun H locs hP hS => ?_)
      refine lv_aload X.1 X.2.1 dX10_line_59 (lv_at hl 0 rfl) ?_
      refine lv_iload_n X.1 X.2.1 dX10_line_61 rfl (lv_at hl 3 rfl) ?_
      refine lv_iload_n X.1 X.2.1 dX10_line_62 rfl (lv_at hl 4 rfl) ?_
      obtain ⟨r6, hr6, hf⟩ := bd_inv hf
      refine k_X3_fits X hP hS hl.1  hr6 (tb t_715 rfl) (by decide) (Nat.le_of_ble_eq_true rfl) dX10_line_63 (fun H locs hP hS => ?_)
      refine r_if_ne (tgt := 76) X dX10_line_66 (by decide) (fun q => ?_) (fun q => ?_)
      · replace hf := it_inv q hf
        refine lv_aload X.1 X.2.1 dX10_line_76 (lv_at hl 0 rfl) ?_
        refine lv_iload_n X.1 X.2.1 dX10_line_78 rfl (lv_at hl 3 rfl) ?_
        refine lv_iload_n X.1 X.2.1 dX10_line_79 rfl (lv_at hl 4 rfl) ?_
        obtain ⟨r7, hr7, hf⟩ := bd_inv hf
        refine k_X3_costOf X hP hS hl.1  hr7 (tb t_720 rfl) (by decide) (Nat.le_of_ble_eq_true rfl) dX10_line_80 (fun H locs hP hS => ?_)
        refine lv_istore (lv' := [(6, .int (i32 r7)), (5, .ref (gh G + 54)), (0, .ref (gh G + 0)), (1, .int (i32 l1)), (2, .int (i32 l2)), (3, .int (i32 l3)), (4, .int (i32 l4))]) X.1 X.2.1 dX10_line_83 hl (by decide) rfl (fun ls hl => ?_)
        refine lv_iload X.1 X.2.1 dX10_line_85 (lv_at hl 0 rfl) ?_
        refine r_ldc X 2147483647 (tb t_724 rfl) (by decide) dX10_line_87 ?_
        refine r_icmp_ne (tgt := 101) X dX10_line_89 (by decide) (fun q => ?_) (fun q => ?_)
        · replace hf := it_inv q hf
          refine lv_iload X.1 X.2.1 dX10_line_101 (lv_at hl 0 rfl) ?_
          obtain ⟨rfl, rfl⟩ := so2_inv hf
          exact r_iret X hP hS dX10_line_103
        · replace hf := ie_inv q hf
          refine lv_aload_n X.1 X.2.1 dX10_line_92 rfl (lv_at hl 2 rfl) ?_
          refine r_ldc X (-1000005) (tb t_660 rfl) (by decide) dX10_line_93 ?_
          obtain ⟨r8, s9, hr8, hf⟩ := bd2_inv hf
          refine k_X10_tell X hP hS hl.1  hr8 (tb t_431 rfl) (by decide) (Nat.le_of_ble_eq_true rfl) dX10_line_95 (fun H locs hP hS => ?_)
          refine lv_goto (tgt := 103) X.1 X.2.1 dX10_line_98 (by decide) ?_
          obtain ⟨rfl, rfl⟩ := so2_inv hf
          exact r_iret X hP hS dX10_line_103
      · replace hf := ie_inv q hf
        refine lv_aload_n X.1 X.2.1 dX10_line_69 rfl (lv_at hl 1 rfl) ?_
        refine r_ldc X (-1000003) (tb t_719 rfl) (by decide) dX10_line_70 ?_
        obtain ⟨r10, s11, hr10, hf⟩ := bd2_inv hf
        refine k_X10_tell X hP hS hl.1  hr10 (tb t_431 rfl) (by decide) (Nat.le_of_ble_eq_true rfl) dX10_line_72 (fun H locs hP hS => ?_)
        obtain ⟨rfl, rfl⟩ := so2_inv hf
        exact r_iret X hP hS dX10_line_75
    · replace hf := ie_inv q hf
      exact a_X10_line_18 X σ H locs ls  hP hS hf (lv_sub hl [0] rfl)
set_option maxHeartbeats 4000000 in
theorem c_X10_line {l : Launch} {G : GT} {σ τ : Mem} {res : Int} {l1 : Int} {l2 : Int} {l3 : Int} {l4 : Int} (hf : X10_line σ l1 l2 l3 l4 = some (res, τ)) : CT l yX10_line cX10_line 7 (some FieldType.int) 5 147 G [.ref (gh G + 0), .int (i32 l1), .int (i32 l2), .int (i32 l3), .int (i32 l4)] σ τ (some (.int (i32 res))) := by
  refine CT.mk (own := RX10) (by decide) rfl (Nat.le_of_ble_eq_true rfl) ?_
  intro p e s m below meth c ls X hP hS hl
  have hl : lv_has ls 7 [(0, .ref (gh G + 0)), (1, .int (i32 l1)), (2, .int (i32 l2)), (3, .int (i32 l3)), (4, .int (i32 l4))] := hl
  exact a_X10_line_0 X σ s.heap [] ls l1 l2 l3 l4 hP hS hf hl
theorem k_X10_line {p : Program} {l : Launch} {e : Env} {R : Room} {s : State} {m : MethodId} {args : Array Value} {below : List Frame} {meth : Method} {c : Code} {H : Heap} {locs : List Loc} {Q : State → Prop} {cc : ByteArray} {nL : Nat} {own : String} {ret : Option FieldType} {fF fL : Nat} {G : GT} {pc idx : Nat} {ls : Array Slot} {rest : List Value} {σ τ : Mem} {res : Int} {l1 : Int} {l2 : Int} {l3 : Int} {l4 : Int} (X : CX p R s m args meth c cc nL own ret fF fL G) (hP : PW G σ H) (hS : va_S (AA G) s.heap H locs) (hls : ls.size = nL) (hf : X10_line σ l1 l2 l3 l4 = some (res, τ)) (h1 : Cond.methodLink own idx yX10_line ∈ TB) (hR : 5 + 1 ≤ fF ∧ 8 + (7 + 11) + 147 ≤ fL) (hW : (rest.map fun v => v.category).sum ≤ 8) (hd : decode cc pc = .ok (.invokevirtual idx, 3)) (kk : ∀ (H1 : Heap) (locs1 : List Loc), PW G τ H1 → va_S (AA G) s.heap H1 locs1 → W p l e R s m args below meth c H1 locs1 0 0 Q (F0 m (pc + 3) ls (.int (i32 res) :: rest))) : W p l e R s m args below meth c H locs 0 0 Q (F0 m pc ls (.int (i32 l4) :: .int (i32 l3) :: .int (i32 l2) :: .int (i32 l1) :: .ref (gh G + 0) :: rest)) := r_callV (n := 4) X hP hS hls (c_X10_line hf) h1 (tb t_694 rfl) (tb t_695 rfl) (tb t_75 rfl) (tb t_696 rfl) (by decide +kernel) hR (r_recv X hP (kd_lt ks_10 (by decide)) (cE_10 ks_10) rfl) rfl rfl hW hd kk
/-! X10_needs -/
theorem dX10_needs_0 : decode cX10_needs 0 = .ok (.iload_n 1, 1) := by decide +kernel
theorem dX10_needs_1 : decode cX10_needs 1 = .ok (.invokestatic 58, 3) := by decide +kernel
theorem dX10_needs_4 : decode cX10_needs 4 = .ok (.ifCond .ne 10, 3) := by decide +kernel
theorem dX10_needs_7 : decode cX10_needs 7 = .ok (.aload_n 0, 1) := by decide +kernel
theorem dX10_needs_8 : decode cX10_needs 8 = .ok (.ldc 72, 2) := by decide +kernel
theorem dX10_needs_10 : decode cX10_needs 10 = .ok (.invokevirtual 73, 3) := by decide +kernel
theorem dX10_needs_13 : decode cX10_needs 13 = .ok (.ireturn, 1) := by decide +kernel
theorem dX10_needs_14 : decode cX10_needs 14 = .ok (.aload_n 0, 1) := by decide +kernel
theorem dX10_needs_15 : decode cX10_needs 15 = .ok (.iload_n 1, 1) := by decide +kernel
theorem dX10_needs_16 : decode cX10_needs 16 = .ok (.invokevirtual 237, 3) := by decide +kernel
theorem dX10_needs_19 : decode cX10_needs 19 = .ok (.astore_n 2, 1) := by decide +kernel
theorem dX10_needs_20 : decode cX10_needs 20 = .ok (.aload_n 0, 1) := by decide +kernel
theorem dX10_needs_21 : decode cX10_needs 21 = .ok (.getfield 10, 3) := by decide +kernel
theorem dX10_needs_24 : decode cX10_needs 24 = .ok (.getfield 77, 3) := by decide +kernel
theorem dX10_needs_27 : decode cX10_needs 27 = .ok (.iload_n 1, 1) := by decide +kernel
theorem dX10_needs_28 : decode cX10_needs 28 = .ok (.aaload, 1) := by decide +kernel
theorem dX10_needs_29 : decode cX10_needs 29 = .ok (.astore_n 3, 1) := by decide +kernel
theorem dX10_needs_30 : decode cX10_needs 30 = .ok (.aload_n 3, 1) := by decide +kernel
theorem dX10_needs_31 : decode cX10_needs 31 = .ok (.getfield 81, 3) := by decide +kernel
theorem dX10_needs_34 : decode cX10_needs 34 = .ok (.iconst 3, 1) := by decide +kernel
theorem dX10_needs_35 : decode cX10_needs 35 = .ok (.iaload, 1) := by decide +kernel
theorem dX10_needs_36 : decode cX10_needs 36 = .ok (.istore 4, 2) := by decide +kernel
theorem dX10_needs_38 : decode cX10_needs 38 = .ok (.aload_n 0, 1) := by decide +kernel
theorem dX10_needs_39 : decode cX10_needs 39 = .ok (.getfield 47, 3) := by decide +kernel
theorem dX10_needs_42 : decode cX10_needs 42 = .ok (.aload_n 0, 1) := by decide +kernel
theorem dX10_needs_43 : decode cX10_needs 43 = .ok (.getfield 10, 3) := by decide +kernel
theorem dX10_needs_46 : decode cX10_needs 46 = .ok (.iload_n 1, 1) := by decide +kernel
theorem dX10_needs_47 : decode cX10_needs 47 = .ok (.aload_n 3, 1) := by decide +kernel
theorem dX10_needs_48 : decode cX10_needs 48 = .ok (.getfield 81, 3) := by decide +kernel
theorem dX10_needs_51 : decode cX10_needs 51 = .ok (.iconst 1, 1) := by decide +kernel
theorem dX10_needs_52 : decode cX10_needs 52 = .ok (.iaload, 1) := by decide +kernel
theorem dX10_needs_53 : decode cX10_needs 53 = .ok (.invokevirtual 241, 3) := by decide +kernel
theorem dX10_needs_56 : decode cX10_needs 56 = .ok (.aload_n 0, 1) := by decide +kernel
theorem dX10_needs_57 : decode cX10_needs 57 = .ok (.getfield 47, 3) := by decide +kernel
theorem dX10_needs_60 : decode cX10_needs 60 = .ok (.aload_n 2, 1) := by decide +kernel
theorem dX10_needs_61 : decode cX10_needs 61 = .ok (.iload 4, 2) := by decide +kernel
theorem dX10_needs_63 : decode cX10_needs 63 = .ok (.iconst 0, 1) := by decide +kernel
theorem dX10_needs_64 : decode cX10_needs 64 = .ok (.invokevirtual 245, 3) := by decide +kernel
theorem dX10_needs_67 : decode cX10_needs 67 = .ok (.ifCond .ne 10, 3) := by decide +kernel
theorem dX10_needs_70 : decode cX10_needs 70 = .ok (.aload_n 0, 1) := by decide +kernel
theorem dX10_needs_71 : decode cX10_needs 71 = .ok (.ldc 205, 2) := by decide +kernel
theorem dX10_needs_73 : decode cX10_needs 73 = .ok (.invokevirtual 73, 3) := by decide +kernel
theorem dX10_needs_76 : decode cX10_needs 76 = .ok (.ireturn, 1) := by decide +kernel
theorem dX10_needs_77 : decode cX10_needs 77 = .ok (.iconst 0, 1) := by decide +kernel
theorem dX10_needs_78 : decode cX10_needs 78 = .ok (.istore 5, 2) := by decide +kernel
theorem dX10_needs_80 : decode cX10_needs 80 = .ok (.sipush 512, 3) := by decide +kernel
theorem dX10_needs_83 : decode cX10_needs 83 = .ok (.istore 6, 2) := by decide +kernel
theorem dX10_needs_85 : decode cX10_needs 85 = .ok (.iload 6, 2) := by decide +kernel
theorem dX10_needs_87 : decode cX10_needs 87 = .ok (.ifCond .le 37, 3) := by decide +kernel
theorem dX10_needs_90 : decode cX10_needs 90 = .ok (.aload_n 0, 1) := by decide +kernel
theorem dX10_needs_91 : decode cX10_needs 91 = .ok (.getfield 47, 3) := by decide +kernel
theorem dX10_needs_94 : decode cX10_needs 94 = .ok (.aload_n 2, 1) := by decide +kernel
theorem dX10_needs_95 : decode cX10_needs 95 = .ok (.iload 4, 2) := by decide +kernel
theorem dX10_needs_97 : decode cX10_needs 97 = .ok (.iload 5, 2) := by decide +kernel
theorem dX10_needs_99 : decode cX10_needs 99 = .ok (.iload 6, 2) := by decide +kernel
theorem dX10_needs_101 : decode cX10_needs 101 = .ok (.iadd, 1) := by decide +kernel
theorem dX10_needs_102 : decode cX10_needs 102 = .ok (.invokevirtual 245, 3) := by decide +kernel
theorem dX10_needs_105 : decode cX10_needs 105 = .ok (.ifCond .eq 10, 3) := by decide +kernel
theorem dX10_needs_108 : decode cX10_needs 108 = .ok (.iload 5, 2) := by decide +kernel
theorem dX10_needs_110 : decode cX10_needs 110 = .ok (.iload 6, 2) := by decide +kernel
theorem dX10_needs_112 : decode cX10_needs 112 = .ok (.iadd, 1) := by decide +kernel
theorem dX10_needs_113 : decode cX10_needs 113 = .ok (.istore 5, 2) := by decide +kernel
theorem dX10_needs_115 : decode cX10_needs 115 = .ok (.iload 6, 2) := by decide +kernel
theorem dX10_needs_117 : decode cX10_needs 117 = .ok (.iconst 1, 1) := by decide +kernel
theorem dX10_needs_118 : decode cX10_needs 118 = .ok (.ishr, 1) := by decide +kernel
theorem dX10_needs_119 : decode cX10_needs 119 = .ok (.istore 6, 2) := by decide +kernel
theorem dX10_needs_121 : decode cX10_needs 121 = .ok (.goto (-36), 3) := by decide +kernel
theorem dX10_needs_124 : decode cX10_needs 124 = .ok (.iload 5, 2) := by decide +kernel
theorem dX10_needs_126 : decode cX10_needs 126 = .ok (.sipush 999, 3) := by decide +kernel
theorem dX10_needs_129 : decode cX10_needs 129 = .ok (.if_icmp .ge 10, 3) := by decide +kernel
theorem dX10_needs_132 : decode cX10_needs 132 = .ok (.iload 5, 2) := by decide +kernel
theorem dX10_needs_134 : decode cX10_needs 134 = .ok (.iconst 1, 1) := by decide +kernel
theorem dX10_needs_135 : decode cX10_needs 135 = .ok (.iadd, 1) := by decide +kernel
theorem dX10_needs_136 : decode cX10_needs 136 = .ok (.goto 9, 3) := by decide +kernel
theorem dX10_needs_139 : decode cX10_needs 139 = .ok (.aload_n 0, 1) := by decide +kernel
theorem dX10_needs_140 : decode cX10_needs 140 = .ok (.ldc 205, 2) := by decide +kernel
theorem dX10_needs_142 : decode cX10_needs 142 = .ok (.invokevirtual 73, 3) := by decide +kernel
theorem dX10_needs_145 : decode cX10_needs 145 = .ok (.ireturn, 1) := by decide +kernel
def S_X10_needs_85 (fn : Mem → Nat → Int → Int → Int → Option (Int × Mem)) (p : Program) (l : Launch) (e : Env) (R : Room) (s : State) (m : MethodId) (args : Array Value) (below : List Frame) (meth : Method) (c : Code) (G : GT) (τ : Mem) (res : Int) : Prop := ∀ (σ : Mem) (H : Heap) (locs : List Loc) (ls : Array Slot) (l2 : Nat) (l4 : Int) (l5 : Int) (l6 : Int), kd l2 = 4 → PW G σ H → va_S (AA G) s.heap H locs → fn σ l2 l4 l5 l6 = some (res, τ) → lv_has ls 7 [(0, .ref (gh G + 0)), (2, .ref (gh G + l2)), (4, .int (i32 l4)), (5, .int (i32 l5)), (6, .int (i32 l6))] → W p l e R s m args below meth c H locs 0 0 (MQ below (QM G (some (.int (i32 res))) τ) args s 0 0 (AA G)) (F0 m 85 ls [])
def X10_needs_B115 (rec85 : Mem → Nat → Int → Int → Int → Option (Int × Mem)) (σ : Mem) (l2 : Nat) (l4 : Int) (l5 : Int) (l6 : Int) : Option (Int × Mem) :=
  lt (isr l6 1) fun l6_1 =>
  rec85 σ l2 l4 l5 l6_1
def S_X10_needs_115 (fn : Mem → Nat → Int → Int → Int → Option (Int × Mem)) (p : Program) (l : Launch) (e : Env) (R : Room) (s : State) (m : MethodId) (args : Array Value) (below : List Frame) (meth : Method) (c : Code) (G : GT) (τ : Mem) (res : Int) : Prop := ∀ (σ : Mem) (H : Heap) (locs : List Loc) (ls : Array Slot) (l2 : Nat) (l4 : Int) (l5 : Int) (l6 : Int), kd l2 = 4 → PW G σ H → va_S (AA G) s.heap H locs → fn σ l2 l4 l5 l6 = some (res, τ) → lv_has ls 7 [(0, .ref (gh G + 0)), (2, .ref (gh G + l2)), (4, .int (i32 l4)), (5, .int (i32 l5)), (6, .int (i32 l6))] → W p l e R s m args below meth c H locs 0 0 (MQ below (QM G (some (.int (i32 res))) τ) args s 0 0 (AA G)) (F0 m 115 ls [])
def X10_needs_B85 (rec85 : Mem → Nat → Int → Int → Int → Option (Int × Mem)) (σ : Mem) (l2 : Nat) (l4 : Int) (l5 : Int) (l6 : Int) : Option (Int × Mem) :=
  if w32 l6 ≤ 0 then
    if w32 999 ≤ w32 l5 then
      bd2 (X10_tell σ (-1000004)) fun r1 s2 =>
      some (r1, s2)
    else
    some (l5 + 1, σ)
  else
  bd2 (X1_flows σ l2 l4 (l5 + l6)) fun r3 s4 =>
  if w32 r3 = 0 then
    X10_needs_B115 rec85 s4 l2 l4 l5 l6
  else
  lt (l5 + l6) fun l5_5 =>
  X10_needs_B115 rec85 s4 l2 l4 l5_5 l6
def X10_needs_L85 : Nat → Mem → Nat → Int → Int → Int → Option (Int × Mem)
  | 0 => fun _ _ _ _ _ => none
  | n + 1 => X10_needs_B85 (X10_needs_L85 n)
def X10_needs (σ : Mem) (l1 : Int) : Option (Int × Mem) :=
  bd (X10_isPart σ l1) fun r1 =>
  if w32 r1 ≠ 0 then
    bd2 (X10_tableOf σ l1) fun r2 s3 =>
    kg 4 r2 <|
    ag 4 l1 fun j4 =>
    ag 4 3 fun j5 =>
    lt (s3 (9 + 3 * j4 + 1) j5) fun l4_6 =>
    ag 4 1 fun j7 =>
    bd (X1_findEase s3 1 l1 (s3 (9 + 3 * j4 + 1) j7)) fun s9 =>
    bd2 (X1_flows s9 r2 l4_6 0) fun r10 s11 =>
    if w32 r10 ≠ 0 then
      X10_needs_L85 5000 s11 r2 l4_6 0 512
    else
    bd2 (X10_tell s11 (-1000004)) fun r12 s13 =>
    some (r12, s13)
  else
  bd2 (X10_tell σ (-1000001)) fun r14 s15 =>
  some (r14, s15)
def S_X10_needs_0 (fn : Mem → Int → Option (Int × Mem)) (p : Program) (l : Launch) (e : Env) (R : Room) (s : State) (m : MethodId) (args : Array Value) (below : List Frame) (meth : Method) (c : Code) (G : GT) (τ : Mem) (res : Int) : Prop := ∀ (σ : Mem) (H : Heap) (locs : List Loc) (ls : Array Slot) (l1 : Int), PW G σ H → va_S (AA G) s.heap H locs → fn σ l1 = some (res, τ) → lv_has ls 7 [(0, .ref (gh G + 0)), (1, .int (i32 l1))] → W p l e R s m args below meth c H locs 0 0 (MQ below (QM G (some (.int (i32 res))) τ) args s 0 0 (AA G)) (F0 m 0 ls [])
set_option maxHeartbeats 4000000 in
theorem a_X10_needs_115 {p : Program} {l : Launch} {e : Env} {R : Room} {s : State} {m : MethodId} {args : Array Value} {below : List Frame} {meth : Method} {c : Code} {G : GT} {τ : Mem} {res : Int} {rec85 : Mem → Nat → Int → Int → Int → Option (Int × Mem)} (X : CX p R s m args meth c cX10_needs 7 RX10 (some FieldType.int) 6 185 G) (h85 : S_X10_needs_85 rec85 p l e R s m args below meth c G τ res) : S_X10_needs_115 (X10_needs_B115 rec85) p l e R s m args below meth c G τ res := by
  intro σ H locs ls l2 l4 l5 l6 hk_l2 hP hS hf hl
  unfold X10_needs_B115 at hf
  refine lv_iload X.1 X.2.1 dX10_needs_115 (lv_at hl 4 rfl) ?_
  refine r_iconst X 1 dX10_needs_117 ?_
  refine r_ishr X dX10_needs_118 ?_
  obtain ⟨l6_1, el6_1, hf⟩ := lt_inv hf
  refine r_eqi el6_1 ?_
  refine lv_istore (lv' := [(6, .int (i32 l6_1)), (0, .ref (gh G + 0)), (2, .ref (gh G + l2)), (4, .int (i32 l4)), (5, .int (i32 l5))]) X.1 X.2.1 dX10_needs_119 hl (by decide) rfl (fun ls hl => ?_)
  refine lv_goto (tgt := 85) X.1 X.2.1 dX10_needs_121 (by decide) ?_
  exact h85 σ H locs ls l2 l4 l5 l6_1 hk_l2 hP hS hf (lv_sub hl [1, 2, 3, 4, 0] rfl)
set_option maxHeartbeats 4000000 in
theorem a_X10_needs_85 {p : Program} {l : Launch} {e : Env} {R : Room} {s : State} {m : MethodId} {args : Array Value} {below : List Frame} {meth : Method} {c : Code} {G : GT} {τ : Mem} {res : Int} {rec85 : Mem → Nat → Int → Int → Int → Option (Int × Mem)} (X : CX p R s m args meth c cX10_needs 7 RX10 (some FieldType.int) 6 185 G) (h85 : S_X10_needs_85 rec85 p l e R s m args below meth c G τ res) : S_X10_needs_85 (X10_needs_B85 rec85) p l e R s m args below meth c G τ res := by
  intro σ H locs ls l2 l4 l5 l6 hk_l2 hP hS hf hl
  unfold X10_needs_B85 at hf
  refine lv_iload X.1 X.2.1 dX10_needs_85 (lv_at hl 4 rfl) ?_
  refine r_if_le (tgt := 124) X dX10_needs_87 (by decide) (fun q => ?_) (fun q => ?_)
  · replace hf := it_inv q hf
    refine lv_iload X.1 X.2.1 dX10_needs_124 (lv_at hl 3 rfl) ?_
    refine r_sipush X 999 (by decide) dX10_needs_126 ?_
    refine r_icmp_ge (tgt := 139) X dX10_needs_129 (by decide) (fun q => ?_) (fun q => ?_)
    · replace hf := it_inv q hf
      refine lv_aload_n X.1 X.2.1 dX10_needs_139 rfl (lv_at hl 0 rfl) ?_
      refine r_ldc X (-1000004) (tb t_747 rfl) (by decide) dX10_needs_140 ?_
      obtain ⟨r1, s2, hr1, hf⟩ := bd2_inv hf
      refine k_X10_tell X hP hS hl.1  hr1 (tb t_431 rfl) (by decide) (Nat.le_of_ble_eq_true rfl) dX10_needs_142 (fun H locs hP hS => ?_)
      obtain ⟨rfl, rfl⟩ := so2_inv hf
      exact r_iret X hP hS dX10_needs_145
    · replace hf := ie_inv q hf
      refine lv_iload X.1 X.2.1 dX10_needs_132 (lv_at hl 3 rfl) ?_
      refine r_iconst X 1 dX10_needs_134 ?_
      refine r_iadd X dX10_needs_135 ?_
      refine lv_goto (tgt := 145) X.1 X.2.1 dX10_needs_136 (by decide) ?_
      obtain ⟨rfl, rfl⟩ := so2_inv hf
      exact r_iret X hP hS dX10_needs_145
  · replace hf := ie_inv q hf
    refine lv_aload_n X.1 X.2.1 dX10_needs_90 rfl (lv_at hl 0 rfl) ?_
    refine g_10_7 (r := 53) X hP ks_10 rfl (tb t_395 rfl) dX10_needs_91 ?_
    refine lv_aload_n X.1 X.2.1 dX10_needs_94 rfl (lv_at hl 1 rfl) ?_
    refine lv_iload X.1 X.2.1 dX10_needs_95 (lv_at hl 2 rfl) ?_
    refine lv_iload X.1 X.2.1 dX10_needs_97 (lv_at hl 3 rfl) ?_
    refine lv_iload X.1 X.2.1 dX10_needs_99 (lv_at hl 4 rfl) ?_
    refine r_iadd X dX10_needs_101 ?_
    obtain ⟨r3, s4, hr3, hf⟩ := bd2_inv hf
    refine k_X1_flows X hP hS hl.1 hk_l2 hr3 (tb t_885 rfl) (by decide) (Nat.le_of_ble_eq_true rfl) dX10_needs_102 (fun H locs hP hS => ?_)
    refine r_if_eq (tgt := 115) X dX10_needs_105 (by decide) (fun q => ?_) (fun q => ?_)
    · replace hf := it_inv q hf
      exact a_X10_needs_115 X h85 s4 H locs ls l2 l4 l5 l6 hk_l2 hP hS hf hl
    · replace hf := ie_inv q hf
      refine lv_iload X.1 X.2.1 dX10_needs_108 (lv_at hl 3 rfl) ?_
      refine lv_iload X.1 X.2.1 dX10_needs_110 (lv_at hl 4 rfl) ?_
      refine r_iadd X dX10_needs_112 ?_
      obtain ⟨l5_5, el5_5, hf⟩ := lt_inv hf
      refine r_eqi el5_5 ?_
      refine lv_istore (lv' := [(5, .int (i32 l5_5)), (0, .ref (gh G + 0)), (2, .ref (gh G + l2)), (4, .int (i32 l4)), (6, .int (i32 l6))]) X.1 X.2.1 dX10_needs_113 hl (by decide) rfl (fun ls hl => ?_)
      exact a_X10_needs_115 X h85 s4 H locs ls l2 l4 l5_5 l6 hk_l2 hP hS hf (lv_sub hl [1, 2, 3, 0, 4] rfl)
theorem al_X10_needs_85 {p : Program} {l : Launch} {e : Env} {R : Room} {s : State} {m : MethodId} {args : Array Value} {below : List Frame} {meth : Method} {c : Code} {G : GT} {τ : Mem} {res : Int} (X : CX p R s m args meth c cX10_needs 7 RX10 (some FieldType.int) 6 185 G) : ∀ n, S_X10_needs_85 (X10_needs_L85 n) p l e R s m args below meth c G τ res := by
  intro n
  induction n with
  | zero =>
    intro σ H locs ls l2 l4 l5 l6 hk_l2 hP hS hf hl
    cases hf
  | succ n ih => exact a_X10_needs_85 X ih
set_option maxHeartbeats 4000000 in
theorem a_X10_needs_0 {p : Program} {l : Launch} {e : Env} {R : Room} {s : State} {m : MethodId} {args : Array Value} {below : List Frame} {meth : Method} {c : Code} {G : GT} {τ : Mem} {res : Int} (X : CX p R s m args meth c cX10_needs 7 RX10 (some FieldType.int) 6 185 G) : S_X10_needs_0 (X10_needs) p l e R s m args below meth c G τ res := by
  intro σ H locs ls l1 hP hS hf hl
  unfold X10_needs at hf
  refine lv_iload_n X.1 X.2.1 dX10_needs_0 rfl (lv_at hl 1 rfl) ?_
  obtain ⟨r1, hr1, hf⟩ := bd_inv hf
  refine k_X10_isPart X hP hS hl.1  hr1 (tb t_420 rfl) (by decide) (Nat.le_of_ble_eq_true rfl) dX10_needs_1 (fun H locs hP hS => ?_)
  refine r_if_ne (tgt := 14) X dX10_needs_4 (by decide) (fun q => ?_) (fun q => ?_)
  · replace hf := it_inv q hf
    refine lv_aload_n X.1 X.2.1 dX10_needs_14 rfl (lv_at hl 0 rfl) ?_
    refine lv_iload_n X.1 X.2.1 dX10_needs_15 rfl (lv_at hl 1 rfl) ?_
    obtain ⟨r2, s3, hr2, hf⟩ := bd2_inv hf
    refine k_X10_tableOf X hP hS hl.1  hr2 (tb t_756 rfl) (by decide) (Nat.le_of_ble_eq_true rfl) dX10_needs_16 (fun H locs hP hS => ?_)
    obtain ⟨hk_r2, hf⟩ := kg_inv hf
    refine lv_astore_n (lv' := [(2, .ref (gh G + r2)), (0, .ref (gh G + 0)), (1, .int (i32 l1))]) X.1 X.2.1 dX10_needs_19 rfl hl (by decide) rfl (fun ls hl => ?_)
    refine lv_aload_n X.1 X.2.1 dX10_needs_20 rfl (lv_at hl 1 rfl) ?_
    refine g_10_0 (r := 1) X hP ks_10 rfl (tb t_388 rfl) dX10_needs_21 ?_
    refine g_7_0 (r := 2) X hP (ch_10_0 ks_10).1 rfl (tb t_170 rfl) dX10_needs_24 ?_
    refine lv_iload_n X.1 X.2.1 dX10_needs_27 rfl (lv_at hl 2 rfl) ?_
    obtain ⟨j4, hij4, hjj4, hlj4, hf⟩ := ag_inv hf
    refine r_aald18 (r := 9 + 3 * j4) X hP (ch_7_0 (ch_10_0 ks_10).1).1 (ch_7_0 (ch_10_0 ks_10).1).2 hij4 hjj4 rfl dX10_needs_28 ?_
    refine lv_astore_n (lv' := [(3, .ref (gh G + (9 + 3 * j4))), (2, .ref (gh G + r2)), (0, .ref (gh G + 0)), (1, .int (i32 l1))]) X.1 X.2.1 dX10_needs_29 rfl hl (by decide) rfl (fun ls hl => ?_)
    refine lv_aload_n X.1 X.2.1 dX10_needs_30 rfl (lv_at hl 0 rfl) ?_
    refine g_5_0 (r := 9 + 3 * j4 + 1) X hP ((ch_18 (ch_7_0 (ch_10_0 ks_10).1).1).2 j4 hlj4) rfl (tb t_152 rfl) dX10_needs_31 ?_
    refine r_iconst X 3 dX10_needs_34 ?_
    obtain ⟨j5, hij5, hjj5, hlj5, hf⟩ := ag_inv hf
    refine r_iald X hP (ch_5_0 ((ch_18 (ch_7_0 (ch_10_0 ks_10).1).1).2 j4 hlj4)).1 (ch_5_0 ((ch_18 (ch_7_0 (ch_10_0 ks_10).1).1).2 j4 hlj4)).2 hij5 hjj5 dX10_needs_35 ?_
    obtain ⟨l4_6, el4_6, hf⟩ := lt_inv hf
    refine r_eqi el4_6 ?_
    refine lv_istore (lv' := [(4, .int (i32 l4_6)), (3, .ref (gh G + (9 + 3 * j4))), (2, .ref (gh G + r2)), (0, .ref (gh G + 0)), (1, .int (i32 l1))]) X.1 X.2.1 dX10_needs_36 hl (by decide) rfl (fun ls hl => ?_)
    refine lv_aload_n X.1 X.2.1 dX10_needs_38 rfl (lv_at hl 3 rfl) ?_
    refine g_10_7 (r := 53) X hP ks_10 rfl (tb t_395 rfl) dX10_needs_39 ?_
    refine lv_aload_n X.1 X.2.1 dX10_needs_42 rfl (lv_at hl 3 rfl) ?_
    refine g_10_0 (r := 1) X hP ks_10 rfl (tb t_388 rfl) dX10_needs_43 ?_
    refine lv_iload_n X.1 X.2.1 dX10_needs_46 rfl (lv_at hl 4 rfl) ?_
    refine lv_aload_n X.1 X.2.1 dX10_needs_47 rfl (lv_at hl 1 rfl) ?_
    refine g_5_0 (r := 9 + 3 * j4 + 1) X hP ((ch_18 (ch_7_0 (ch_10_0 ks_10).1).1).2 j4 hlj4) rfl (tb t_152 rfl) dX10_needs_48 ?_
    refine r_iconst X 1 dX10_needs_51 ?_
    obtain ⟨j7, hij7, hjj7, hlj7, hf⟩ := ag_inv hf
    refine r_iald X hP (ch_5_0 ((ch_18 (ch_7_0 (ch_10_0 ks_10).1).1).2 j4 hlj4)).1 (ch_5_0 ((ch_18 (ch_7_0 (ch_10_0 ks_10).1).1).2 j4 hlj4)).2 hij7 hjj7 dX10_needs_52 ?_
    obtain ⟨s9, hr8, hf⟩ := bd_inv hf
    refine k_X1_findEase X hP hS hl.1 (ch_10_0 ks_10).1 hr8 (tb t_775 rfl) (by decide) (Nat.le_of_ble_eq_true rfl) dX10_needs_53 (fun H locs hP hS => ?_)
    refine lv_aload_n X.1 X.2.1 dX10_needs_56 rfl (lv_at hl 3 rfl) ?_
    refine g_10_7 (r := 53) X hP ks_10 rfl (tb t_395 rfl) dX10_needs_57 ?_
    refine lv_aload_n X.1 X.2.1 dX10_needs_60 rfl (lv_at hl 2 rfl) ?_
    refine lv_iload X.1 X.2.1 dX10_needs_61 (lv_at hl 0 rfl) ?_
    refine r_iconst X 0 dX10_needs_63 ?_
    obtain ⟨r10, s11, hr10, hf⟩ := bd2_inv hf
    refine k_X1_flows X hP hS hl.1 hk_r2 hr10 (tb t_885 rfl) (by decide) (Nat.le_of_ble_eq_true rfl) dX10_needs_64 (fun H locs hP hS => ?_)
    refine r_if_ne (tgt := 77) X dX10_needs_67 (by decide) (fun q => ?_) (fun q => ?_)
    · replace hf := it_inv q hf
      refine r_iconst X 0 dX10_needs_77 ?_
      refine lv_istore (lv' := [(5, .int (i32 0)), (4, .int (i32 l4_6)), (3, .ref (gh G + (9 + 3 * j4))), (2, .ref (gh G + r2)), (0, .ref (gh G + 0)), (1, .int (i32 l1))]) X.1 X.2.1 dX10_needs_78 hl (by decide) rfl (fun ls hl => ?_)
      refine r_sipush X 512 (by decide) dX10_needs_80 ?_
      refine lv_istore (lv' := [(6, .int (i32 512)), (5, .int (i32 0)), (4, .int (i32 l4_6)), (3, .ref (gh G + (9 + 3 * j4))), (2, .ref (gh G + r2)), (0, .ref (gh G + 0)), (1, .int (i32 l1))]) X.1 X.2.1 dX10_needs_83 hl (by decide) rfl (fun ls hl => ?_)
      exact al_X10_needs_85 X 5000 s11 H locs ls r2 l4_6 0 512 hk_r2 hP hS hf (lv_sub hl [5, 4, 2, 1, 0] rfl)
    · replace hf := ie_inv q hf
      refine lv_aload_n X.1 X.2.1 dX10_needs_70 rfl (lv_at hl 3 rfl) ?_
      refine r_ldc X (-1000004) (tb t_747 rfl) (by decide) dX10_needs_71 ?_
      obtain ⟨r12, s13, hr12, hf⟩ := bd2_inv hf
      refine k_X10_tell X hP hS hl.1  hr12 (tb t_431 rfl) (by decide) (Nat.le_of_ble_eq_true rfl) dX10_needs_73 (fun H locs hP hS => ?_)
      obtain ⟨rfl, rfl⟩ := so2_inv hf
      exact r_iret X hP hS dX10_needs_76
  · replace hf := ie_inv q hf
    refine lv_aload_n X.1 X.2.1 dX10_needs_7 rfl (lv_at hl 0 rfl) ?_
    refine r_ldc X (-1000001) (tb t_430 rfl) (by decide) dX10_needs_8 ?_
    obtain ⟨r14, s15, hr14, hf⟩ := bd2_inv hf
    refine k_X10_tell X hP hS hl.1  hr14 (tb t_431 rfl) (by decide) (Nat.le_of_ble_eq_true rfl) dX10_needs_10 (fun H locs hP hS => ?_)
    obtain ⟨rfl, rfl⟩ := so2_inv hf
    exact r_iret X hP hS dX10_needs_13
set_option maxHeartbeats 4000000 in
theorem c_X10_needs {l : Launch} {G : GT} {σ τ : Mem} {res : Int} {l1 : Int} (hf : X10_needs σ l1 = some (res, τ)) : CT l yX10_needs cX10_needs 7 (some FieldType.int) 6 185 G [.ref (gh G + 0), .int (i32 l1)] σ τ (some (.int (i32 res))) := by
  refine CT.mk (own := RX10) (by decide) rfl (Nat.le_of_ble_eq_true rfl) ?_
  intro p e s m below meth c ls X hP hS hl
  have hl : lv_has ls 7 [(0, .ref (gh G + 0)), (1, .int (i32 l1))] := hl
  exact a_X10_needs_0 X σ s.heap [] ls l1 hP hS hf hl
theorem k_X10_needs {p : Program} {l : Launch} {e : Env} {R : Room} {s : State} {m : MethodId} {args : Array Value} {below : List Frame} {meth : Method} {c : Code} {H : Heap} {locs : List Loc} {Q : State → Prop} {cc : ByteArray} {nL : Nat} {own : String} {ret : Option FieldType} {fF fL : Nat} {G : GT} {pc idx : Nat} {ls : Array Slot} {rest : List Value} {σ τ : Mem} {res : Int} {l1 : Int} (X : CX p R s m args meth c cc nL own ret fF fL G) (hP : PW G σ H) (hS : va_S (AA G) s.heap H locs) (hls : ls.size = nL) (hf : X10_needs σ l1 = some (res, τ)) (h1 : Cond.methodLink own idx yX10_needs ∈ TB) (hR : 6 + 1 ≤ fF ∧ 8 + (7 + 11) + 185 ≤ fL) (hW : (rest.map fun v => v.category).sum ≤ 8) (hd : decode cc pc = .ok (.invokevirtual idx, 3)) (kk : ∀ (H1 : Heap) (locs1 : List Loc), PW G τ H1 → va_S (AA G) s.heap H1 locs1 → W p l e R s m args below meth c H1 locs1 0 0 Q (F0 m (pc + 3) ls (.int (i32 res) :: rest))) : W p l e R s m args below meth c H locs 0 0 Q (F0 m pc ls (.int (i32 l1) :: .ref (gh G + 0) :: rest)) := r_callV (n := 1) X hP hS hls (c_X10_needs hf) h1 (tb t_907 rfl) (tb t_908 rfl) (tb t_75 rfl) (tb t_909 rfl) (by decide +kernel) hR (r_recv X hP (kd_lt ks_10 (by decide)) (cE_10 ks_10) rfl) rfl rfl hW hd kk
/-! X10_page -/
theorem dX10_page_0 : decode cX10_page 0 = .ok (.aload_n 0, 1) := by decide +kernel
theorem dX10_page_1 : decode cX10_page 1 = .ok (.iload_n 1, 1) := by decide +kernel
theorem dX10_page_2 : decode cX10_page 2 = .ok (.iload_n 2, 1) := by decide +kernel
theorem dX10_page_3 : decode cX10_page 3 = .ok (.iload_n 3, 1) := by decide +kernel
theorem dX10_page_4 : decode cX10_page 4 = .ok (.invokevirtual 175, 3) := by decide +kernel
theorem dX10_page_7 : decode cX10_page 7 = .ok (.ifCond .eq 11, 3) := by decide +kernel
theorem dX10_page_10 : decode cX10_page 10 = .ok (.iload 4, 2) := by decide +kernel
theorem dX10_page_12 : decode cX10_page 12 = .ok (.invokestatic 169, 3) := by decide +kernel
theorem dX10_page_15 : decode cX10_page 15 = .ok (.ifCond .ne 10, 3) := by decide +kernel
theorem dX10_page_18 : decode cX10_page 18 = .ok (.aload_n 0, 1) := by decide +kernel
theorem dX10_page_19 : decode cX10_page 19 = .ok (.ldc 72, 2) := by decide +kernel
theorem dX10_page_21 : decode cX10_page 21 = .ok (.invokevirtual 73, 3) := by decide +kernel
theorem dX10_page_24 : decode cX10_page 24 = .ok (.ireturn, 1) := by decide +kernel
theorem dX10_page_25 : decode cX10_page 25 = .ok (.aload_n 0, 1) := by decide +kernel
theorem dX10_page_26 : decode cX10_page 26 = .ok (.getfield 47, 3) := by decide +kernel
theorem dX10_page_29 : decode cX10_page 29 = .ok (.getfield 178, 3) := by decide +kernel
theorem dX10_page_32 : decode cX10_page 32 = .ok (.astore 5, 2) := by decide +kernel
theorem dX10_page_34 : decode cX10_page 34 = .ok (.aload 5, 2) := by decide +kernel
theorem dX10_page_36 : decode cX10_page 36 = .ok (.aload_n 0, 1) := by decide +kernel
theorem dX10_page_37 : decode cX10_page 37 = .ok (.getfield 10, 3) := by decide +kernel
theorem dX10_page_40 : decode cX10_page 40 = .ok (.getfield 77, 3) := by decide +kernel
theorem dX10_page_43 : decode cX10_page 43 = .ok (.iload_n 1, 1) := by decide +kernel
theorem dX10_page_44 : decode cX10_page 44 = .ok (.aaload, 1) := by decide +kernel
theorem dX10_page_45 : decode cX10_page 45 = .ok (.aload_n 0, 1) := by decide +kernel
theorem dX10_page_46 : decode cX10_page 46 = .ok (.getfield 10, 3) := by decide +kernel
theorem dX10_page_49 : decode cX10_page 49 = .ok (.getfield 95, 3) := by decide +kernel
theorem dX10_page_52 : decode cX10_page 52 = .ok (.iload 4, 2) := by decide +kernel
theorem dX10_page_54 : decode cX10_page 54 = .ok (.iload_n 2, 1) := by decide +kernel
theorem dX10_page_55 : decode cX10_page 55 = .ok (.iload_n 3, 1) := by decide +kernel
theorem dX10_page_56 : decode cX10_page 56 = .ok (.invokevirtual 196, 3) := by decide +kernel
theorem dX10_page_59 : decode cX10_page 59 = .ok (.aload 5, 2) := by decide +kernel
theorem dX10_page_61 : decode cX10_page 61 = .ok (.iload_n 2, 1) := by decide +kernel
theorem dX10_page_62 : decode cX10_page 62 = .ok (.iload_n 3, 1) := by decide +kernel
theorem dX10_page_63 : decode cX10_page 63 = .ok (.aload_n 0, 1) := by decide +kernel
theorem dX10_page_64 : decode cX10_page 64 = .ok (.getfield 10, 3) := by decide +kernel
theorem dX10_page_67 : decode cX10_page 67 = .ok (.getfield 95, 3) := by decide +kernel
theorem dX10_page_70 : decode cX10_page 70 = .ok (.iconst 1, 1) := by decide +kernel
theorem dX10_page_71 : decode cX10_page 71 = .ok (.iaload, 1) := by decide +kernel
theorem dX10_page_72 : decode cX10_page 72 = .ok (.invokevirtual 199, 3) := by decide +kernel
theorem dX10_page_75 : decode cX10_page 75 = .ok (.aload 5, 2) := by decide +kernel
theorem dX10_page_77 : decode cX10_page 77 = .ok (.aload_n 0, 1) := by decide +kernel
theorem dX10_page_78 : decode cX10_page 78 = .ok (.getfield 10, 3) := by decide +kernel
theorem dX10_page_81 : decode cX10_page 81 = .ok (.getfield 95, 3) := by decide +kernel
theorem dX10_page_84 : decode cX10_page 84 = .ok (.iconst 1, 1) := by decide +kernel
theorem dX10_page_85 : decode cX10_page 85 = .ok (.iaload, 1) := by decide +kernel
theorem dX10_page_86 : decode cX10_page 86 = .ok (.iload_n 2, 1) := by decide +kernel
theorem dX10_page_87 : decode cX10_page 87 = .ok (.invokevirtual 202, 3) := by decide +kernel
theorem dX10_page_90 : decode cX10_page 90 = .ok (.istore 6, 2) := by decide +kernel
theorem dX10_page_92 : decode cX10_page 92 = .ok (.iload 6, 2) := by decide +kernel
theorem dX10_page_94 : decode cX10_page 94 = .ok (.ldc 195, 2) := by decide +kernel
theorem dX10_page_96 : decode cX10_page 96 = .ok (.if_icmp .ne 12, 3) := by decide +kernel
theorem dX10_page_99 : decode cX10_page 99 = .ok (.aload_n 0, 1) := by decide +kernel
theorem dX10_page_100 : decode cX10_page 100 = .ok (.ldc 205, 2) := by decide +kernel
theorem dX10_page_102 : decode cX10_page 102 = .ok (.invokevirtual 73, 3) := by decide +kernel
theorem dX10_page_105 : decode cX10_page 105 = .ok (.goto 5, 3) := by decide +kernel
theorem dX10_page_108 : decode cX10_page 108 = .ok (.iload 6, 2) := by decide +kernel
theorem dX10_page_110 : decode cX10_page 110 = .ok (.ireturn, 1) := by decide +kernel
def X10_page_B18 (σ : Mem) : Option (Int × Mem) :=
  bd2 (X10_tell σ (-1000001)) fun r1 s2 =>
  some (r1, s2)
def S_X10_page_18 (fn : Mem → Option (Int × Mem)) (p : Program) (l : Launch) (e : Env) (R : Room) (s : State) (m : MethodId) (args : Array Value) (below : List Frame) (meth : Method) (c : Code) (G : GT) (τ : Mem) (res : Int) : Prop := ∀ (σ : Mem) (H : Heap) (locs : List Loc) (ls : Array Slot), PW G σ H → va_S (AA G) s.heap H locs → fn σ = some (res, τ) → lv_has ls 7 [(0, .ref (gh G + 0))] → W p l e R s m args below meth c H locs 0 0 (MQ below (QM G (some (.int (i32 res))) τ) args s 0 0 (AA G)) (F0 m 18 ls [])
def X10_page (σ : Mem) (l1 : Int) (l2 : Int) (l3 : Int) (l4 : Int) : Option (Int × Mem) :=
  bd (X10_isStretch σ l1 l2 l3) fun r1 =>
  if w32 r1 = 0 then
    X10_page_B18 σ
  else
  bd (X10_isSize σ l4) fun r2 =>
  if w32 r2 ≠ 0 then
    ag 4 l1 fun j3 =>
    bd (X3_fill σ (9 + 3 * j3) 3 l4 l2 l3) fun s5 =>
    ag 5 1 fun j6 =>
    bd (X3_fillPages s5 l2 l3 (s5 3 j6)) fun s8 =>
    ag 5 1 fun j9 =>
    bd (X3_pageCost s8 (s8 3 j9) l2) fun r10 =>
    if w32 r10 ≠ w32 2147483647 then
      some (r10, s8)
    else
    bd2 (X10_tell s8 (-1000004)) fun r11 s12 =>
    some (r11, s12)
  else
  X10_page_B18 σ
def S_X10_page_0 (fn : Mem → Int → Int → Int → Int → Option (Int × Mem)) (p : Program) (l : Launch) (e : Env) (R : Room) (s : State) (m : MethodId) (args : Array Value) (below : List Frame) (meth : Method) (c : Code) (G : GT) (τ : Mem) (res : Int) : Prop := ∀ (σ : Mem) (H : Heap) (locs : List Loc) (ls : Array Slot) (l1 : Int) (l2 : Int) (l3 : Int) (l4 : Int), PW G σ H → va_S (AA G) s.heap H locs → fn σ l1 l2 l3 l4 = some (res, τ) → lv_has ls 7 [(0, .ref (gh G + 0)), (1, .int (i32 l1)), (2, .int (i32 l2)), (3, .int (i32 l3)), (4, .int (i32 l4))] → W p l e R s m args below meth c H locs 0 0 (MQ below (QM G (some (.int (i32 res))) τ) args s 0 0 (AA G)) (F0 m 0 ls [])
set_option maxHeartbeats 4000000 in
theorem a_X10_page_18 {p : Program} {l : Launch} {e : Env} {R : Room} {s : State} {m : MethodId} {args : Array Value} {below : List Frame} {meth : Method} {c : Code} {G : GT} {τ : Mem} {res : Int} (X : CX p R s m args meth c cX10_page 7 RX10 (some FieldType.int) 5 147 G) : S_X10_page_18 (X10_page_B18) p l e R s m args below meth c G τ res := by
  intro σ H locs ls hP hS hf hl
  unfold X10_page_B18 at hf
  refine lv_aload_n X.1 X.2.1 dX10_page_18 rfl (lv_at hl 0 rfl) ?_
  refine r_ldc X (-1000001) (tb t_430 rfl) (by decide) dX10_page_19 ?_
  obtain ⟨r1, s2, hr1, hf⟩ := bd2_inv hf
  refine k_X10_tell X hP hS hl.1  hr1 (tb t_431 rfl) (by decide) (Nat.le_of_ble_eq_true rfl) dX10_page_21 (fun H locs hP hS => ?_)
  obtain ⟨rfl, rfl⟩ := so2_inv hf
  exact r_iret X hP hS dX10_page_24
set_option maxHeartbeats 4000000 in
theorem a_X10_page_0 {p : Program} {l : Launch} {e : Env} {R : Room} {s : State} {m : MethodId} {args : Array Value} {below : List Frame} {meth : Method} {c : Code} {G : GT} {τ : Mem} {res : Int} (X : CX p R s m args meth c cX10_page 7 RX10 (some FieldType.int) 5 147 G) : S_X10_page_0 (X10_page) p l e R s m args below meth c G τ res := by
  intro σ H locs ls l1 l2 l3 l4 hP hS hf hl
  unfold X10_page at hf
  refine lv_aload_n X.1 X.2.1 dX10_page_0 rfl (lv_at hl 0 rfl) ?_
  refine lv_iload_n X.1 X.2.1 dX10_page_1 rfl (lv_at hl 1 rfl) ?_
  refine lv_iload_n X.1 X.2.1 dX10_page_2 rfl (lv_at hl 2 rfl) ?_
  refine lv_iload_n X.1 X.2.1 dX10_page_3 rfl (lv_at hl 3 rfl) ?_
  obtain ⟨r1, hr1, hf⟩ := bd_inv hf
  refine k_X10_isStretch X hP hS hl.1  hr1 (tb t_697 rfl) (by decide) (Nat.le_of_ble_eq_true rfl) dX10_page_4 (fun H locs hP hS => ?_)
  refine r_if_eq (tgt := 18) X dX10_page_7 (by decide) (fun q => ?_) (fun q => ?_)
  · replace hf := it_inv q hf
    exact a_X10_page_18 X σ H locs ls  hP hS hf (lv_sub hl [0] rfl)
  · replace hf := ie_inv q hf
    refine lv_iload X.1 X.2.1 dX10_page_10 (lv_at hl 4 rfl) ?_
    obtain ⟨r2, hr2, hf⟩ := bd_inv hf
    refine k_X10_isSize X hP hS hl.1  hr2 (tb t_686 rfl) (by decide) (Nat.le_of_ble_eq_true rfl) dX10_page_12 (fun H locs hP hS => ?_)
    refine r_if_ne (tgt := 25) X dX10_page_15 (by decide) (fun q => ?_) (fun q => ?_)
    · replace hf := it_inv q hf
      refine lv_aload_n X.1 X.2.1 dX10_page_25 rfl (lv_at hl 0 rfl) ?_
      refine g_10_7 (r := 53) X hP ks_10 rfl (tb t_395 rfl) dX10_page_26 ?_
      refine g_1_0 (r := 54) X hP ks_1 rfl (tb t_273 rfl) dX10_page_29 ?_
      refine lv_astore (lv' := [(5, .ref (gh G + 54)), (0, .ref (gh G + 0)), (1, .int (i32 l1)), (2, .int (i32 l2)), (3, .int (i32 l3)), (4, .int (i32 l4))]) X.1 X.2.1 dX10_page_32 hl (by decide) rfl (fun ls hl => ?_)
      refine lv_aload X.1 X.2.1 dX10_page_34 (lv_at hl 0 rfl) ?_
      refine lv_aload_n X.1 X.2.1 dX10_page_36 rfl (lv_at hl 1 rfl) ?_
      refine g_10_0 (r := 1) X hP ks_10 rfl (tb t_388 rfl) dX10_page_37 ?_
      refine g_7_0 (r := 2) X hP (ch_10_0 ks_10).1 rfl (tb t_170 rfl) dX10_page_40 ?_
      refine lv_iload_n X.1 X.2.1 dX10_page_43 rfl (lv_at hl 2 rfl) ?_
      obtain ⟨j3, hij3, hjj3, hlj3, hf⟩ := ag_inv hf
      refine r_aald18 (r := 9 + 3 * j3) X hP (ch_7_0 (ch_10_0 ks_10).1).1 (ch_7_0 (ch_10_0 ks_10).1).2 hij3 hjj3 rfl dX10_page_44 ?_
      refine lv_aload_n X.1 X.2.1 dX10_page_45 rfl (lv_at hl 1 rfl) ?_
      refine g_10_0 (r := 1) X hP ks_10 rfl (tb t_388 rfl) dX10_page_46 ?_
      refine g_7_1 (r := 3) X hP (ch_10_0 ks_10).1 rfl (tb t_172 rfl) dX10_page_49 ?_
      refine lv_iload X.1 X.2.1 dX10_page_52 (lv_at hl 5 rfl) ?_
      refine lv_iload_n X.1 X.2.1 dX10_page_54 rfl (lv_at hl 3 rfl) ?_
      refine lv_iload_n X.1 X.2.1 dX10_page_55 rfl (lv_at hl 4 rfl) ?_
      obtain ⟨s5, hr4, hf⟩ := bd_inv hf
      refine k_X3_fill X hP hS hl.1 ((ch_18 (ch_7_0 (ch_10_0 ks_10).1).1).2 j3 hlj3) (ch_7_1 (ch_10_0 ks_10).1).1 hr4 (tb t_729 rfl) (by decide) (Nat.le_of_ble_eq_true rfl) dX10_page_56 (fun H locs hP hS => ?_)
      refine lv_aload X.1 X.2.1 dX10_page_59 (lv_at hl 0 rfl) ?_
      refine lv_iload_n X.1 X.2.1 dX10_page_61 rfl (lv_at hl 3 rfl) ?_
      refine lv_iload_n X.1 X.2.1 dX10_page_62 rfl (lv_at hl 4 rfl) ?_
      refine lv_aload_n X.1 X.2.1 dX10_page_63 rfl (lv_at hl 1 rfl) ?_
      refine g_10_0 (r := 1) X hP ks_10 rfl (tb t_388 rfl) dX10_page_64 ?_
      refine g_7_1 (r := 3) X hP (ch_10_0 ks_10).1 rfl (tb t_172 rfl) dX10_page_67 ?_
      refine r_iconst X 1 dX10_page_70 ?_
      obtain ⟨j6, hij6, hjj6, hlj6, hf⟩ := ag_inv hf
      refine r_iald X hP (ch_7_1 (ch_10_0 ks_10).1).1 (ch_7_1 (ch_10_0 ks_10).1).2 hij6 hjj6 dX10_page_71 ?_
      obtain ⟨s8, hr7, hf⟩ := bd_inv hf
      refine k_X3_fillPages X hP hS hl.1  hr7 (tb t_734 rfl) (by decide) (Nat.le_of_ble_eq_true rfl) dX10_page_72 (fun H locs hP hS => ?_)
      refine lv_aload X.1 X.2.1 dX10_page_75 (lv_at hl 0 rfl) ?_
      refine lv_aload_n X.1 X.2.1 dX10_page_77 rfl (lv_at hl 1 rfl) ?_
      refine g_10_0 (r := 1) X hP ks_10 rfl (tb t_388 rfl) dX10_page_78 ?_
      refine g_7_1 (r := 3) X hP (ch_10_0 ks_10).1 rfl (tb t_172 rfl) dX10_page_81 ?_
      refine r_iconst X 1 dX10_page_84 ?_
      obtain ⟨j9, hij9, hjj9, hlj9, hf⟩ := ag_inv hf
      refine r_iald X hP (ch_7_1 (ch_10_0 ks_10).1).1 (ch_7_1 (ch_10_0 ks_10).1).2 hij9 hjj9 dX10_page_85 ?_
      refine lv_iload_n X.1 X.2.1 dX10_page_86 rfl (lv_at hl 3 rfl) ?_
      obtain ⟨r10, hr10, hf⟩ := bd_inv hf
      refine k_X3_pageCost X hP hS hl.1  hr10 (tb t_743 rfl) (by decide) (Nat.le_of_ble_eq_true rfl) dX10_page_87 (fun H locs hP hS => ?_)
      refine lv_istore (lv' := [(6, .int (i32 r10)), (5, .ref (gh G + 54)), (0, .ref (gh G + 0)), (1, .int (i32 l1)), (2, .int (i32 l2)), (3, .int (i32 l3)), (4, .int (i32 l4))]) X.1 X.2.1 dX10_page_90 hl (by decide) rfl (fun ls hl => ?_)
      refine lv_iload X.1 X.2.1 dX10_page_92 (lv_at hl 0 rfl) ?_
      refine r_ldc X 2147483647 (tb t_724 rfl) (by decide) dX10_page_94 ?_
      refine r_icmp_ne (tgt := 108) X dX10_page_96 (by decide) (fun q => ?_) (fun q => ?_)
      · replace hf := it_inv q hf
        refine lv_iload X.1 X.2.1 dX10_page_108 (lv_at hl 0 rfl) ?_
        obtain ⟨rfl, rfl⟩ := so2_inv hf
        exact r_iret X hP hS dX10_page_110
      · replace hf := ie_inv q hf
        refine lv_aload_n X.1 X.2.1 dX10_page_99 rfl (lv_at hl 2 rfl) ?_
        refine r_ldc X (-1000004) (tb t_747 rfl) (by decide) dX10_page_100 ?_
        obtain ⟨r11, s12, hr11, hf⟩ := bd2_inv hf
        refine k_X10_tell X hP hS hl.1  hr11 (tb t_431 rfl) (by decide) (Nat.le_of_ble_eq_true rfl) dX10_page_102 (fun H locs hP hS => ?_)
        refine lv_goto (tgt := 110) X.1 X.2.1 dX10_page_105 (by decide) ?_
        obtain ⟨rfl, rfl⟩ := so2_inv hf
        exact r_iret X hP hS dX10_page_110
    · replace hf := ie_inv q hf
      exact a_X10_page_18 X σ H locs ls  hP hS hf (lv_sub hl [0] rfl)
set_option maxHeartbeats 4000000 in
theorem c_X10_page {l : Launch} {G : GT} {σ τ : Mem} {res : Int} {l1 : Int} {l2 : Int} {l3 : Int} {l4 : Int} (hf : X10_page σ l1 l2 l3 l4 = some (res, τ)) : CT l yX10_page cX10_page 7 (some FieldType.int) 5 147 G [.ref (gh G + 0), .int (i32 l1), .int (i32 l2), .int (i32 l3), .int (i32 l4)] σ τ (some (.int (i32 res))) := by
  refine CT.mk (own := RX10) (by decide) rfl (Nat.le_of_ble_eq_true rfl) ?_
  intro p e s m below meth c ls X hP hS hl
  have hl : lv_has ls 7 [(0, .ref (gh G + 0)), (1, .int (i32 l1)), (2, .int (i32 l2)), (3, .int (i32 l3)), (4, .int (i32 l4))] := hl
  exact a_X10_page_0 X σ s.heap [] ls l1 l2 l3 l4 hP hS hf hl
theorem k_X10_page {p : Program} {l : Launch} {e : Env} {R : Room} {s : State} {m : MethodId} {args : Array Value} {below : List Frame} {meth : Method} {c : Code} {H : Heap} {locs : List Loc} {Q : State → Prop} {cc : ByteArray} {nL : Nat} {own : String} {ret : Option FieldType} {fF fL : Nat} {G : GT} {pc idx : Nat} {ls : Array Slot} {rest : List Value} {σ τ : Mem} {res : Int} {l1 : Int} {l2 : Int} {l3 : Int} {l4 : Int} (X : CX p R s m args meth c cc nL own ret fF fL G) (hP : PW G σ H) (hS : va_S (AA G) s.heap H locs) (hls : ls.size = nL) (hf : X10_page σ l1 l2 l3 l4 = some (res, τ)) (h1 : Cond.methodLink own idx yX10_page ∈ TB) (hR : 5 + 1 ≤ fF ∧ 8 + (7 + 11) + 147 ≤ fL) (hW : (rest.map fun v => v.category).sum ≤ 8) (hd : decode cc pc = .ok (.invokevirtual idx, 3)) (kk : ∀ (H1 : Heap) (locs1 : List Loc), PW G τ H1 → va_S (AA G) s.heap H1 locs1 → W p l e R s m args below meth c H1 locs1 0 0 Q (F0 m (pc + 3) ls (.int (i32 res) :: rest))) : W p l e R s m args below meth c H locs 0 0 Q (F0 m pc ls (.int (i32 l4) :: .int (i32 l3) :: .int (i32 l2) :: .int (i32 l1) :: .ref (gh G + 0) :: rest)) := r_callV (n := 4) X hP hS hls (c_X10_page hf) h1 (tb t_726 rfl) (tb t_727 rfl) (tb t_75 rfl) (tb t_728 rfl) (by decide +kernel) hR (r_recv X hP (kd_lt ks_10 (by decide)) (cE_10 ks_10) rfl) rfl rfl hW hd kk
/-! X10_pages -/
theorem dX10_pages_0 : decode cX10_pages 0 = .ok (.iload_n 1, 1) := by decide +kernel
theorem dX10_pages_1 : decode cX10_pages 1 = .ok (.invokestatic 300, 3) := by decide +kernel
theorem dX10_pages_4 : decode cX10_pages 4 = .ok (.ifCond .ne 10, 3) := by decide +kernel
theorem dX10_pages_7 : decode cX10_pages 7 = .ok (.aload_n 0, 1) := by decide +kernel
theorem dX10_pages_8 : decode cX10_pages 8 = .ok (.ldc 72, 2) := by decide +kernel
theorem dX10_pages_10 : decode cX10_pages 10 = .ok (.invokevirtual 73, 3) := by decide +kernel
theorem dX10_pages_13 : decode cX10_pages 13 = .ok (.ireturn, 1) := by decide +kernel
theorem dX10_pages_14 : decode cX10_pages 14 = .ok (.aload_n 0, 1) := by decide +kernel
theorem dX10_pages_15 : decode cX10_pages 15 = .ok (.getfield 28, 3) := by decide +kernel
theorem dX10_pages_18 : decode cX10_pages 18 = .ok (.iload_n 1, 1) := by decide +kernel
theorem dX10_pages_19 : decode cX10_pages 19 = .ok (.aaload, 1) := by decide +kernel
theorem dX10_pages_20 : decode cX10_pages 20 = .ok (.astore_n 3, 1) := by decide +kernel
theorem dX10_pages_21 : decode cX10_pages 21 = .ok (.aload_n 3, 1) := by decide +kernel
theorem dX10_pages_22 : decode cX10_pages 22 = .ok (.invokevirtual 307, 3) := by decide +kernel
theorem dX10_pages_25 : decode cX10_pages 25 = .ok (.ifCond .eq 11, 3) := by decide +kernel
theorem dX10_pages_28 : decode cX10_pages 28 = .ok (.aload_n 0, 1) := by decide +kernel
theorem dX10_pages_29 : decode cX10_pages 29 = .ok (.ldc_w 296, 3) := by decide +kernel
theorem dX10_pages_32 : decode cX10_pages 32 = .ok (.invokevirtual 73, 3) := by decide +kernel
theorem dX10_pages_35 : decode cX10_pages 35 = .ok (.ireturn, 1) := by decide +kernel
theorem dX10_pages_36 : decode cX10_pages 36 = .ok (.iload_n 2, 1) := by decide +kernel
theorem dX10_pages_37 : decode cX10_pages 37 = .ok (.invokestatic 58, 3) := by decide +kernel
theorem dX10_pages_40 : decode cX10_pages 40 = .ok (.ifCond .ne 10, 3) := by decide +kernel
theorem dX10_pages_43 : decode cX10_pages 43 = .ok (.aload_n 0, 1) := by decide +kernel
theorem dX10_pages_44 : decode cX10_pages 44 = .ok (.ldc 72, 2) := by decide +kernel
theorem dX10_pages_46 : decode cX10_pages 46 = .ok (.invokevirtual 73, 3) := by decide +kernel
theorem dX10_pages_49 : decode cX10_pages 49 = .ok (.ireturn, 1) := by decide +kernel
theorem dX10_pages_50 : decode cX10_pages 50 = .ok (.aload_n 0, 1) := by decide +kernel
theorem dX10_pages_51 : decode cX10_pages 51 = .ok (.iload_n 2, 1) := by decide +kernel
theorem dX10_pages_52 : decode cX10_pages 52 = .ok (.invokevirtual 206, 3) := by decide +kernel
theorem dX10_pages_55 : decode cX10_pages 55 = .ok (.astore 4, 2) := by decide +kernel
theorem dX10_pages_57 : decode cX10_pages 57 = .ok (.aload 4, 2) := by decide +kernel
theorem dX10_pages_59 : decode cX10_pages 59 = .ok (.invokevirtual 210, 3) := by decide +kernel
theorem dX10_pages_62 : decode cX10_pages 62 = .ok (.ifCond .eq 10, 3) := by decide +kernel
theorem dX10_pages_65 : decode cX10_pages 65 = .ok (.aload_n 0, 1) := by decide +kernel
theorem dX10_pages_66 : decode cX10_pages 66 = .ok (.ldc 205, 2) := by decide +kernel
theorem dX10_pages_68 : decode cX10_pages 68 = .ok (.invokevirtual 73, 3) := by decide +kernel
theorem dX10_pages_71 : decode cX10_pages 71 = .ok (.ireturn, 1) := by decide +kernel
theorem dX10_pages_72 : decode cX10_pages 72 = .ok (.iconst 0, 1) := by decide +kernel
theorem dX10_pages_73 : decode cX10_pages 73 = .ok (.istore 5, 2) := by decide +kernel
theorem dX10_pages_75 : decode cX10_pages 75 = .ok (.iconst 0, 1) := by decide +kernel
theorem dX10_pages_76 : decode cX10_pages 76 = .ok (.istore 6, 2) := by decide +kernel
theorem dX10_pages_78 : decode cX10_pages 78 = .ok (.iload 6, 2) := by decide +kernel
theorem dX10_pages_80 : decode cX10_pages 80 = .ok (.aload_n 3, 1) := by decide +kernel
theorem dX10_pages_81 : decode cX10_pages 81 = .ok (.getfield 327, 3) := by decide +kernel
theorem dX10_pages_84 : decode cX10_pages 84 = .ok (.if_icmp .ge 43, 3) := by decide +kernel
theorem dX10_pages_87 : decode cX10_pages 87 = .ok (.iload 6, 2) := by decide +kernel
theorem dX10_pages_89 : decode cX10_pages 89 = .ok (.aload 4, 2) := by decide +kernel
theorem dX10_pages_91 : decode cX10_pages 91 = .ok (.getfield 220, 3) := by decide +kernel
theorem dX10_pages_94 : decode cX10_pages 94 = .ok (.if_icmp .ge 33, 3) := by decide +kernel
theorem dX10_pages_97 : decode cX10_pages 97 = .ok (.aload_n 3, 1) := by decide +kernel
theorem dX10_pages_98 : decode cX10_pages 98 = .ok (.getfield 318, 3) := by decide +kernel
theorem dX10_pages_101 : decode cX10_pages 101 = .ok (.iload 6, 2) := by decide +kernel
theorem dX10_pages_103 : decode cX10_pages 103 = .ok (.iaload, 1) := by decide +kernel
theorem dX10_pages_104 : decode cX10_pages 104 = .ok (.aload 4, 2) := by decide +kernel
theorem dX10_pages_106 : decode cX10_pages 106 = .ok (.getfield 329, 3) := by decide +kernel
theorem dX10_pages_109 : decode cX10_pages 109 = .ok (.iload 6, 2) := by decide +kernel
theorem dX10_pages_111 : decode cX10_pages 111 = .ok (.iaload, 1) := by decide +kernel
theorem dX10_pages_112 : decode cX10_pages 112 = .ok (.if_icmp .eq 6, 3) := by decide +kernel
theorem dX10_pages_115 : decode cX10_pages 115 = .ok (.goto 12, 3) := by decide +kernel
theorem dX10_pages_118 : decode cX10_pages 118 = .ok (.iinc 5 1, 3) := by decide +kernel
theorem dX10_pages_121 : decode cX10_pages 121 = .ok (.iinc 6 1, 3) := by decide +kernel
theorem dX10_pages_124 : decode cX10_pages 124 = .ok (.goto (-46), 3) := by decide +kernel
theorem dX10_pages_127 : decode cX10_pages 127 = .ok (.iload 5, 2) := by decide +kernel
theorem dX10_pages_129 : decode cX10_pages 129 = .ok (.aload_n 3, 1) := by decide +kernel
theorem dX10_pages_130 : decode cX10_pages 130 = .ok (.getfield 327, 3) := by decide +kernel
theorem dX10_pages_133 : decode cX10_pages 133 = .ok (.if_icmp .ne 17, 3) := by decide +kernel
theorem dX10_pages_136 : decode cX10_pages 136 = .ok (.iload 5, 2) := by decide +kernel
theorem dX10_pages_138 : decode cX10_pages 138 = .ok (.aload 4, 2) := by decide +kernel
theorem dX10_pages_140 : decode cX10_pages 140 = .ok (.getfield 220, 3) := by decide +kernel
theorem dX10_pages_143 : decode cX10_pages 143 = .ok (.if_icmp .ne 7, 3) := by decide +kernel
theorem dX10_pages_146 : decode cX10_pages 146 = .ok (.iconst 0, 1) := by decide +kernel
theorem dX10_pages_147 : decode cX10_pages 147 = .ok (.goto 7, 3) := by decide +kernel
theorem dX10_pages_150 : decode cX10_pages 150 = .ok (.iconst 1, 1) := by decide +kernel
theorem dX10_pages_151 : decode cX10_pages 151 = .ok (.iload 5, 2) := by decide +kernel
theorem dX10_pages_153 : decode cX10_pages 153 = .ok (.iadd, 1) := by decide +kernel
theorem dX10_pages_154 : decode cX10_pages 154 = .ok (.ireturn, 1) := by decide +kernel
def S_X10_pages_78 (fn : Mem → Nat → Nat → Int → Int → Option (Int × Mem)) (p : Program) (l : Launch) (e : Env) (R : Room) (s : State) (m : MethodId) (args : Array Value) (below : List Frame) (meth : Method) (c : Code) (G : GT) (τ : Mem) (res : Int) : Prop := ∀ (σ : Mem) (H : Heap) (locs : List Loc) (ls : Array Slot) (l3 : Nat) (l4 : Nat) (l5 : Int) (l6 : Int), kd l3 = 6 → kd l4 = 2 → PW G σ H → va_S (AA G) s.heap H locs → fn σ l3 l4 l5 l6 = some (res, τ) → lv_has ls 7 [(3, .ref (gh G + l3)), (4, .ref (gh G + l4)), (5, .int (i32 l5)), (6, .int (i32 l6))] → W p l e R s m args below meth c H locs 0 0 (MQ below (QM G (some (.int (i32 res))) τ) args s 0 0 (AA G)) (F0 m 78 ls [])
def X10_pages_B127 (σ : Mem) (l3 : Nat) (l4 : Nat) (l5 : Int) : Option (Int × Mem) :=
  if w32 l5 ≠ w32 (σ l3 2) then
    some (1 + l5, σ)
  else
  if w32 l5 ≠ w32 (σ l4 0) then
    some (1 + l5, σ)
  else
  some (0, σ)
def S_X10_pages_127 (fn : Mem → Nat → Nat → Int → Option (Int × Mem)) (p : Program) (l : Launch) (e : Env) (R : Room) (s : State) (m : MethodId) (args : Array Value) (below : List Frame) (meth : Method) (c : Code) (G : GT) (τ : Mem) (res : Int) : Prop := ∀ (σ : Mem) (H : Heap) (locs : List Loc) (ls : Array Slot) (l3 : Nat) (l4 : Nat) (l5 : Int), kd l3 = 6 → kd l4 = 2 → PW G σ H → va_S (AA G) s.heap H locs → fn σ l3 l4 l5 = some (res, τ) → lv_has ls 7 [(3, .ref (gh G + l3)), (4, .ref (gh G + l4)), (5, .int (i32 l5))] → W p l e R s m args below meth c H locs 0 0 (MQ below (QM G (some (.int (i32 res))) τ) args s 0 0 (AA G)) (F0 m 127 ls [])
def X10_pages_B78 (rec78 : Mem → Nat → Nat → Int → Int → Option (Int × Mem)) (σ : Mem) (l3 : Nat) (l4 : Nat) (l5 : Int) (l6 : Int) : Option (Int × Mem) :=
  if w32 (σ l3 2) ≤ w32 l6 then
    X10_pages_B127 σ l3 l4 l5
  else
  if w32 (σ l4 0) ≤ w32 l6 then
    X10_pages_B127 σ l3 l4 l5
  else
  ag 40 l6 fun j1 =>
  ag 40 l6 fun j2 =>
  if w32 (σ (l3 + 1) j1) = w32 (σ (l4 + 2) j2) then
    lt (l5 + 1) fun l5_3 =>
    lt (l6 + 1) fun l6_4 =>
    rec78 σ l3 l4 l5_3 l6_4
  else
  X10_pages_B127 σ l3 l4 l5
def X10_pages_L78 : Nat → Mem → Nat → Nat → Int → Int → Option (Int × Mem)
  | 0 => fun _ _ _ _ _ => none
  | n + 1 => X10_pages_B78 (X10_pages_L78 n)
def X10_pages (σ : Mem) (l1 : Int) (l2 : Int) : Option (Int × Mem) :=
  bd (X10_isSheet σ l1) fun r1 =>
  if w32 r1 ≠ 0 then
    ag 4 l1 fun j2 =>
    bd (X6_isMissing σ (63 + 2 * j2)) fun r3 =>
    if w32 r3 = 0 then
      bd (X10_isPart σ l2) fun r4 =>
      if w32 r4 ≠ 0 then
        bd2 (X10_layingOf σ l2) fun r5 s6 =>
        kg 2 r5 <|
        bd (X2_isNone s6 r5) fun r7 =>
        if w32 r7 = 0 then
          X10_pages_L78 5000 s6 (63 + 2 * j2) r5 0 0
        else
        bd2 (X10_tell s6 (-1000004)) fun r8 s9 =>
        some (r8, s9)
      else
      bd2 (X10_tell σ (-1000001)) fun r10 s11 =>
      some (r10, s11)
    else
    bd2 (X10_tell σ (-1000006)) fun r12 s13 =>
    some (r12, s13)
  else
  bd2 (X10_tell σ (-1000001)) fun r14 s15 =>
  some (r14, s15)
def S_X10_pages_0 (fn : Mem → Int → Int → Option (Int × Mem)) (p : Program) (l : Launch) (e : Env) (R : Room) (s : State) (m : MethodId) (args : Array Value) (below : List Frame) (meth : Method) (c : Code) (G : GT) (τ : Mem) (res : Int) : Prop := ∀ (σ : Mem) (H : Heap) (locs : List Loc) (ls : Array Slot) (l1 : Int) (l2 : Int), PW G σ H → va_S (AA G) s.heap H locs → fn σ l1 l2 = some (res, τ) → lv_has ls 7 [(0, .ref (gh G + 0)), (1, .int (i32 l1)), (2, .int (i32 l2))] → W p l e R s m args below meth c H locs 0 0 (MQ below (QM G (some (.int (i32 res))) τ) args s 0 0 (AA G)) (F0 m 0 ls [])
set_option maxHeartbeats 4000000 in
theorem a_X10_pages_127 {p : Program} {l : Launch} {e : Env} {R : Room} {s : State} {m : MethodId} {args : Array Value} {below : List Frame} {meth : Method} {c : Code} {G : GT} {τ : Mem} {res : Int} (X : CX p R s m args meth c cX10_pages 7 RX10 (some FieldType.int) 7 209 G) : S_X10_pages_127 (X10_pages_B127) p l e R s m args below meth c G τ res := by
  intro σ H locs ls l3 l4 l5 hk_l3 hk_l4 hP hS hf hl
  unfold X10_pages_B127 at hf
  refine lv_iload X.1 X.2.1 dX10_pages_127 (lv_at hl 2 rfl) ?_
  refine lv_aload_n X.1 X.2.1 dX10_pages_129 rfl (lv_at hl 0 rfl) ?_
  refine g_6_2 X hP hk_l3 (tb t_309 rfl) dX10_pages_130 ?_
  refine r_icmp_ne (tgt := 150) X dX10_pages_133 (by decide) (fun q => ?_) (fun q => ?_)
  · replace hf := it_inv q hf
    refine r_iconst X 1 dX10_pages_150 ?_
    refine lv_iload X.1 X.2.1 dX10_pages_151 (lv_at hl 2 rfl) ?_
    refine r_iadd X dX10_pages_153 ?_
    obtain ⟨rfl, rfl⟩ := so2_inv hf
    exact r_iret X hP hS dX10_pages_154
  · replace hf := ie_inv q hf
    refine lv_iload X.1 X.2.1 dX10_pages_136 (lv_at hl 2 rfl) ?_
    refine lv_aload X.1 X.2.1 dX10_pages_138 (lv_at hl 1 rfl) ?_
    refine g_2_0 X hP hk_l4 (tb t_340 rfl) dX10_pages_140 ?_
    refine r_icmp_ne (tgt := 150) X dX10_pages_143 (by decide) (fun q => ?_) (fun q => ?_)
    · replace hf := it_inv q hf
      refine r_iconst X 1 dX10_pages_150 ?_
      refine lv_iload X.1 X.2.1 dX10_pages_151 (lv_at hl 2 rfl) ?_
      refine r_iadd X dX10_pages_153 ?_
      obtain ⟨rfl, rfl⟩ := so2_inv hf
      exact r_iret X hP hS dX10_pages_154
    · replace hf := ie_inv q hf
      refine r_iconst X 0 dX10_pages_146 ?_
      refine lv_goto (tgt := 154) X.1 X.2.1 dX10_pages_147 (by decide) ?_
      obtain ⟨rfl, rfl⟩ := so2_inv hf
      exact r_iret X hP hS dX10_pages_154
set_option maxHeartbeats 4000000 in
theorem a_X10_pages_78 {p : Program} {l : Launch} {e : Env} {R : Room} {s : State} {m : MethodId} {args : Array Value} {below : List Frame} {meth : Method} {c : Code} {G : GT} {τ : Mem} {res : Int} {rec78 : Mem → Nat → Nat → Int → Int → Option (Int × Mem)} (X : CX p R s m args meth c cX10_pages 7 RX10 (some FieldType.int) 7 209 G) (h78 : S_X10_pages_78 rec78 p l e R s m args below meth c G τ res) : S_X10_pages_78 (X10_pages_B78 rec78) p l e R s m args below meth c G τ res := by
  intro σ H locs ls l3 l4 l5 l6 hk_l3 hk_l4 hP hS hf hl
  unfold X10_pages_B78 at hf
  refine lv_iload X.1 X.2.1 dX10_pages_78 (lv_at hl 3 rfl) ?_
  refine lv_aload_n X.1 X.2.1 dX10_pages_80 rfl (lv_at hl 0 rfl) ?_
  refine g_6_2 X hP hk_l3 (tb t_309 rfl) dX10_pages_81 ?_
  refine r_icmp_ge (tgt := 127) X dX10_pages_84 (by decide) (fun q => ?_) (fun q => ?_)
  · replace hf := it_inv q hf
    exact a_X10_pages_127 X σ H locs ls l3 l4 l5 hk_l3 hk_l4 hP hS hf (lv_sub hl [0, 1, 2] rfl)
  · replace hf := ie_inv q hf
    refine lv_iload X.1 X.2.1 dX10_pages_87 (lv_at hl 3 rfl) ?_
    refine lv_aload X.1 X.2.1 dX10_pages_89 (lv_at hl 1 rfl) ?_
    refine g_2_0 X hP hk_l4 (tb t_340 rfl) dX10_pages_91 ?_
    refine r_icmp_ge (tgt := 127) X dX10_pages_94 (by decide) (fun q => ?_) (fun q => ?_)
    · replace hf := it_inv q hf
      exact a_X10_pages_127 X σ H locs ls l3 l4 l5 hk_l3 hk_l4 hP hS hf (lv_sub hl [0, 1, 2] rfl)
    · replace hf := ie_inv q hf
      refine lv_aload_n X.1 X.2.1 dX10_pages_97 rfl (lv_at hl 0 rfl) ?_
      refine g_6_0 (r := l3 + 1) X hP hk_l3 rfl (tb t_305 rfl) dX10_pages_98 ?_
      refine lv_iload X.1 X.2.1 dX10_pages_101 (lv_at hl 3 rfl) ?_
      obtain ⟨j1, hij1, hjj1, hlj1, hf⟩ := ag_inv hf
      refine r_iald X hP (ch_6_0 hk_l3).1 (ch_6_0 hk_l3).2 hij1 hjj1 dX10_pages_103 ?_
      refine lv_aload X.1 X.2.1 dX10_pages_104 (lv_at hl 1 rfl) ?_
      refine g_2_7 (r := l4 + 2) X hP hk_l4 rfl (tb t_353 rfl) dX10_pages_106 ?_
      refine lv_iload X.1 X.2.1 dX10_pages_109 (lv_at hl 3 rfl) ?_
      obtain ⟨j2, hij2, hjj2, hlj2, hf⟩ := ag_inv hf
      refine r_iald X hP (ch_2_7 hk_l4).1 (ch_2_7 hk_l4).2 hij2 hjj2 dX10_pages_111 ?_
      refine r_icmp_eq (tgt := 118) X dX10_pages_112 (by decide) (fun q => ?_) (fun q => ?_)
      · replace hf := it_inv q hf
        obtain ⟨l5_3, el5_3, hf⟩ := lt_inv hf
        refine lv_iinc (v := i32 l5_3) (lv' := [(5, .int (i32 l5_3)), (3, .ref (gh G + l3)), (4, .ref (gh G + l4)), (6, .int (i32 l6))]) X.1 X.2.1 dX10_pages_118 hl (k := 2) rfl (by rw [← el5_3]; exact i32_add _ _) (by decide) rfl (fun ls hl => ?_)
        obtain ⟨l6_4, el6_4, hf⟩ := lt_inv hf
        refine lv_iinc (v := i32 l6_4) (lv' := [(6, .int (i32 l6_4)), (5, .int (i32 l5_3)), (3, .ref (gh G + l3)), (4, .ref (gh G + l4))]) X.1 X.2.1 dX10_pages_121 hl (k := 3) rfl (by rw [← el6_4]; exact i32_add _ _) (by decide) rfl (fun ls hl => ?_)
        refine lv_goto (tgt := 78) X.1 X.2.1 dX10_pages_124 (by decide) ?_
        exact h78 σ H locs ls l3 l4 l5_3 l6_4 hk_l3 hk_l4 hP hS hf (lv_sub hl [2, 3, 1, 0] rfl)
      · replace hf := ie_inv q hf
        refine lv_goto (tgt := 127) X.1 X.2.1 dX10_pages_115 (by decide) ?_
        exact a_X10_pages_127 X σ H locs ls l3 l4 l5 hk_l3 hk_l4 hP hS hf (lv_sub hl [0, 1, 2] rfl)
theorem al_X10_pages_78 {p : Program} {l : Launch} {e : Env} {R : Room} {s : State} {m : MethodId} {args : Array Value} {below : List Frame} {meth : Method} {c : Code} {G : GT} {τ : Mem} {res : Int} (X : CX p R s m args meth c cX10_pages 7 RX10 (some FieldType.int) 7 209 G) : ∀ n, S_X10_pages_78 (X10_pages_L78 n) p l e R s m args below meth c G τ res := by
  intro n
  induction n with
  | zero =>
    intro σ H locs ls l3 l4 l5 l6 hk_l3 hk_l4 hP hS hf hl
    cases hf
  | succ n ih => exact a_X10_pages_78 X ih
set_option maxHeartbeats 4000000 in
theorem a_X10_pages_0 {p : Program} {l : Launch} {e : Env} {R : Room} {s : State} {m : MethodId} {args : Array Value} {below : List Frame} {meth : Method} {c : Code} {G : GT} {τ : Mem} {res : Int} (X : CX p R s m args meth c cX10_pages 7 RX10 (some FieldType.int) 7 209 G) : S_X10_pages_0 (X10_pages) p l e R s m args below meth c G τ res := by
  intro σ H locs ls l1 l2 hP hS hf hl
  unfold X10_pages at hf
  refine lv_iload_n X.1 X.2.1 dX10_pages_0 rfl (lv_at hl 1 rfl) ?_
  obtain ⟨r1, hr1, hf⟩ := bd_inv hf
  refine k_X10_isSheet X hP hS hl.1  hr1 (tb t_997 rfl) (by decide) (Nat.le_of_ble_eq_true rfl) dX10_pages_1 (fun H locs hP hS => ?_)
  refine r_if_ne (tgt := 14) X dX10_pages_4 (by decide) (fun q => ?_) (fun q => ?_)
  · replace hf := it_inv q hf
    refine lv_aload_n X.1 X.2.1 dX10_pages_14 rfl (lv_at hl 0 rfl) ?_
    refine g_10_4 (r := 50) X hP ks_10 rfl (tb t_392 rfl) dX10_pages_15 ?_
    refine lv_iload_n X.1 X.2.1 dX10_pages_18 rfl (lv_at hl 1 rfl) ?_
    obtain ⟨j2, hij2, hjj2, hlj2, hf⟩ := ag_inv hf
    refine r_aald19 (r := 63 + 2 * j2) X hP (ch_10_4 ks_10).1 (ch_10_4 ks_10).2 hij2 hjj2 rfl dX10_pages_19 ?_
    refine lv_astore_n (lv' := [(3, .ref (gh G + (63 + 2 * j2))), (0, .ref (gh G + 0)), (1, .int (i32 l1)), (2, .int (i32 l2))]) X.1 X.2.1 dX10_pages_20 rfl hl (by decide) rfl (fun ls hl => ?_)
    refine lv_aload_n X.1 X.2.1 dX10_pages_21 rfl (lv_at hl 0 rfl) ?_
    obtain ⟨r3, hr3, hf⟩ := bd_inv hf
    refine k_X6_isMissing X hP hS hl.1 ((ch_19 (ch_10_4 ks_10).1).2 j2 hlj2) hr3 (tb t_1010 rfl) (by decide) (Nat.le_of_ble_eq_true rfl) dX10_pages_22 (fun H locs hP hS => ?_)
    refine r_if_eq (tgt := 36) X dX10_pages_25 (by decide) (fun q => ?_) (fun q => ?_)
    · replace hf := it_inv q hf
      refine lv_iload_n X.1 X.2.1 dX10_pages_36 rfl (lv_at hl 3 rfl) ?_
      obtain ⟨r4, hr4, hf⟩ := bd_inv hf
      refine k_X10_isPart X hP hS hl.1  hr4 (tb t_420 rfl) (by decide) (Nat.le_of_ble_eq_true rfl) dX10_pages_37 (fun H locs hP hS => ?_)
      refine r_if_ne (tgt := 50) X dX10_pages_40 (by decide) (fun q => ?_) (fun q => ?_)
      · replace hf := it_inv q hf
        refine lv_aload_n X.1 X.2.1 dX10_pages_50 rfl (lv_at hl 1 rfl) ?_
        refine lv_iload_n X.1 X.2.1 dX10_pages_51 rfl (lv_at hl 3 rfl) ?_
        obtain ⟨r5, s6, hr5, hf⟩ := bd2_inv hf
        refine k_X10_layingOf X hP hS hl.1  hr5 (tb t_752 rfl) (by decide) (Nat.le_of_ble_eq_true rfl) dX10_pages_52 (fun H locs hP hS => ?_)
        obtain ⟨hk_r5, hf⟩ := kg_inv hf
        refine lv_astore (lv' := [(4, .ref (gh G + r5)), (3, .ref (gh G + (63 + 2 * j2))), (0, .ref (gh G + 0)), (1, .int (i32 l1)), (2, .int (i32 l2))]) X.1 X.2.1 dX10_pages_55 hl (by decide) rfl (fun ls hl => ?_)
        refine lv_aload X.1 X.2.1 dX10_pages_57 (lv_at hl 0 rfl) ?_
        obtain ⟨r7, hr7, hf⟩ := bd_inv hf
        refine k_X2_isNone X hP hS hl.1 hk_r5 hr7 (tb t_857 rfl) (by decide) (Nat.le_of_ble_eq_true rfl) dX10_pages_59 (fun H locs hP hS => ?_)
        refine r_if_eq (tgt := 72) X dX10_pages_62 (by decide) (fun q => ?_) (fun q => ?_)
        · replace hf := it_inv q hf
          refine r_iconst X 0 dX10_pages_72 ?_
          refine lv_istore (lv' := [(5, .int (i32 0)), (4, .ref (gh G + r5)), (3, .ref (gh G + (63 + 2 * j2))), (0, .ref (gh G + 0)), (1, .int (i32 l1)), (2, .int (i32 l2))]) X.1 X.2.1 dX10_pages_73 hl (by decide) rfl (fun ls hl => ?_)
          refine r_iconst X 0 dX10_pages_75 ?_
          refine lv_istore (lv' := [(6, .int (i32 0)), (5, .int (i32 0)), (4, .ref (gh G + r5)), (3, .ref (gh G + (63 + 2 * j2))), (0, .ref (gh G + 0)), (1, .int (i32 l1)), (2, .int (i32 l2))]) X.1 X.2.1 dX10_pages_76 hl (by decide) rfl (fun ls hl => ?_)
          exact al_X10_pages_78 X 5000 s6 H locs ls (63 + 2 * j2) r5 0 0 ((ch_19 (ch_10_4 ks_10).1).2 j2 hlj2) hk_r5 hP hS hf (lv_sub hl [3, 2, 1, 0] rfl)
        · replace hf := ie_inv q hf
          refine lv_aload_n X.1 X.2.1 dX10_pages_65 rfl (lv_at hl 2 rfl) ?_
          refine r_ldc X (-1000004) (tb t_747 rfl) (by decide) dX10_pages_66 ?_
          obtain ⟨r8, s9, hr8, hf⟩ := bd2_inv hf
          refine k_X10_tell X hP hS hl.1  hr8 (tb t_431 rfl) (by decide) (Nat.le_of_ble_eq_true rfl) dX10_pages_68 (fun H locs hP hS => ?_)
          obtain ⟨rfl, rfl⟩ := so2_inv hf
          exact r_iret X hP hS dX10_pages_71
      · replace hf := ie_inv q hf
        refine lv_aload_n X.1 X.2.1 dX10_pages_43 rfl (lv_at hl 1 rfl) ?_
        refine r_ldc X (-1000001) (tb t_430 rfl) (by decide) dX10_pages_44 ?_
        obtain ⟨r10, s11, hr10, hf⟩ := bd2_inv hf
        refine k_X10_tell X hP hS hl.1  hr10 (tb t_431 rfl) (by decide) (Nat.le_of_ble_eq_true rfl) dX10_pages_46 (fun H locs hP hS => ?_)
        obtain ⟨rfl, rfl⟩ := so2_inv hf
        exact r_iret X hP hS dX10_pages_49
    · replace hf := ie_inv q hf
      refine lv_aload_n X.1 X.2.1 dX10_pages_28 rfl (lv_at hl 1 rfl) ?_
      refine r_ldcw X (-1000006) (tb t_987 rfl) (by decide) dX10_pages_29 ?_
      obtain ⟨r12, s13, hr12, hf⟩ := bd2_inv hf
      refine k_X10_tell X hP hS hl.1  hr12 (tb t_431 rfl) (by decide) (Nat.le_of_ble_eq_true rfl) dX10_pages_32 (fun H locs hP hS => ?_)
      obtain ⟨rfl, rfl⟩ := so2_inv hf
      exact r_iret X hP hS dX10_pages_35
  · replace hf := ie_inv q hf
    refine lv_aload_n X.1 X.2.1 dX10_pages_7 rfl (lv_at hl 0 rfl) ?_
    refine r_ldc X (-1000001) (tb t_430 rfl) (by decide) dX10_pages_8 ?_
    obtain ⟨r14, s15, hr14, hf⟩ := bd2_inv hf
    refine k_X10_tell X hP hS hl.1  hr14 (tb t_431 rfl) (by decide) (Nat.le_of_ble_eq_true rfl) dX10_pages_10 (fun H locs hP hS => ?_)
    obtain ⟨rfl, rfl⟩ := so2_inv hf
    exact r_iret X hP hS dX10_pages_13
set_option maxHeartbeats 4000000 in
theorem c_X10_pages {l : Launch} {G : GT} {σ τ : Mem} {res : Int} {l1 : Int} {l2 : Int} (hf : X10_pages σ l1 l2 = some (res, τ)) : CT l yX10_pages cX10_pages 7 (some FieldType.int) 7 209 G [.ref (gh G + 0), .int (i32 l1), .int (i32 l2)] σ τ (some (.int (i32 res))) := by
  refine CT.mk (own := RX10) (by decide) rfl (Nat.le_of_ble_eq_true rfl) ?_
  intro p e s m below meth c ls X hP hS hl
  have hl : lv_has ls 7 [(0, .ref (gh G + 0)), (1, .int (i32 l1)), (2, .int (i32 l2))] := hl
  exact a_X10_pages_0 X σ s.heap [] ls l1 l2 hP hS hf hl
theorem k_X10_pages {p : Program} {l : Launch} {e : Env} {R : Room} {s : State} {m : MethodId} {args : Array Value} {below : List Frame} {meth : Method} {c : Code} {H : Heap} {locs : List Loc} {Q : State → Prop} {cc : ByteArray} {nL : Nat} {own : String} {ret : Option FieldType} {fF fL : Nat} {G : GT} {pc idx : Nat} {ls : Array Slot} {rest : List Value} {σ τ : Mem} {res : Int} {l1 : Int} {l2 : Int} (X : CX p R s m args meth c cc nL own ret fF fL G) (hP : PW G σ H) (hS : va_S (AA G) s.heap H locs) (hls : ls.size = nL) (hf : X10_pages σ l1 l2 = some (res, τ)) (h1 : Cond.methodLink own idx yX10_pages ∈ TB) (hR : 7 + 1 ≤ fF ∧ 8 + (7 + 11) + 209 ≤ fL) (hW : (rest.map fun v => v.category).sum ≤ 8) (hd : decode cc pc = .ok (.invokevirtual idx, 3)) (kk : ∀ (H1 : Heap) (locs1 : List Loc), PW G τ H1 → va_S (AA G) s.heap H1 locs1 → W p l e R s m args below meth c H1 locs1 0 0 Q (F0 m (pc + 3) ls (.int (i32 res) :: rest))) : W p l e R s m args below meth c H locs 0 0 Q (F0 m pc ls (.int (i32 l2) :: .int (i32 l1) :: .ref (gh G + 0) :: rest)) := r_callV (n := 2) X hP hS hls (c_X10_pages hf) h1 (tb t_1033 rfl) (tb t_1034 rfl) (tb t_75 rfl) (tb t_1035 rfl) (by decide +kernel) hR (r_recv X hP (kd_lt ks_10 (by decide)) (cE_10 ks_10) rfl) rfl rfl hW hd kk
/-! X10_price -/
theorem dX10_price_0 : decode cX10_price 0 = .ok (.iload_n 1, 1) := by decide +kernel
theorem dX10_price_1 : decode cX10_price 1 = .ok (.invokestatic 58, 3) := by decide +kernel
theorem dX10_price_4 : decode cX10_price 4 = .ok (.ifCond .ne 10, 3) := by decide +kernel
theorem dX10_price_7 : decode cX10_price 7 = .ok (.aload_n 0, 1) := by decide +kernel
theorem dX10_price_8 : decode cX10_price 8 = .ok (.ldc 72, 2) := by decide +kernel
theorem dX10_price_10 : decode cX10_price 10 = .ok (.invokevirtual 73, 3) := by decide +kernel
theorem dX10_price_13 : decode cX10_price 13 = .ok (.ireturn, 1) := by decide +kernel
theorem dX10_price_14 : decode cX10_price 14 = .ok (.aload_n 0, 1) := by decide +kernel
theorem dX10_price_15 : decode cX10_price 15 = .ok (.getfield 10, 3) := by decide +kernel
theorem dX10_price_18 : decode cX10_price 18 = .ok (.getfield 152, 3) := by decide +kernel
theorem dX10_price_21 : decode cX10_price 21 = .ok (.astore_n 2, 1) := by decide +kernel
theorem dX10_price_22 : decode cX10_price 22 = .ok (.iconst 0, 1) := by decide +kernel
theorem dX10_price_23 : decode cX10_price 23 = .ok (.istore_n 3, 1) := by decide +kernel
theorem dX10_price_24 : decode cX10_price 24 = .ok (.iconst 0, 1) := by decide +kernel
theorem dX10_price_25 : decode cX10_price 25 = .ok (.istore 4, 2) := by decide +kernel
theorem dX10_price_27 : decode cX10_price 27 = .ok (.iload 4, 2) := by decide +kernel
theorem dX10_price_29 : decode cX10_price 29 = .ok (.aload_n 2, 1) := by decide +kernel
theorem dX10_price_30 : decode cX10_price 30 = .ok (.getfield 287, 3) := by decide +kernel
theorem dX10_price_33 : decode cX10_price 33 = .ok (.if_icmp .ge 45, 3) := by decide +kernel
theorem dX10_price_36 : decode cX10_price 36 = .ok (.aload_n 2, 1) := by decide +kernel
theorem dX10_price_37 : decode cX10_price 37 = .ok (.getfield 274, 3) := by decide +kernel
theorem dX10_price_40 : decode cX10_price 40 = .ok (.iload 4, 2) := by decide +kernel
theorem dX10_price_42 : decode cX10_price 42 = .ok (.iaload, 1) := by decide +kernel
theorem dX10_price_43 : decode cX10_price 43 = .ok (.iload_n 1, 1) := by decide +kernel
theorem dX10_price_44 : decode cX10_price 44 = .ok (.if_icmp .ne 28, 3) := by decide +kernel
theorem dX10_price_47 : decode cX10_price 47 = .ok (.iload_n 3, 1) := by decide +kernel
theorem dX10_price_48 : decode cX10_price 48 = .ok (.aload_n 0, 1) := by decide +kernel
theorem dX10_price_49 : decode cX10_price 49 = .ok (.getfield 10, 3) := by decide +kernel
theorem dX10_price_52 : decode cX10_price 52 = .ok (.aload_n 2, 1) := by decide +kernel
theorem dX10_price_53 : decode cX10_price 53 = .ok (.getfield 271, 3) := by decide +kernel
theorem dX10_price_56 : decode cX10_price 56 = .ok (.iload 4, 2) := by decide +kernel
theorem dX10_price_58 : decode cX10_price 58 = .ok (.iaload, 1) := by decide +kernel
theorem dX10_price_59 : decode cX10_price 59 = .ok (.iload_n 1, 1) := by decide +kernel
theorem dX10_price_60 : decode cX10_price 60 = .ok (.aload_n 2, 1) := by decide +kernel
theorem dX10_price_61 : decode cX10_price 61 = .ok (.getfield 276, 3) := by decide +kernel
theorem dX10_price_64 : decode cX10_price 64 = .ok (.iload 4, 2) := by decide +kernel
theorem dX10_price_66 : decode cX10_price 66 = .ok (.iaload, 1) := by decide +kernel
theorem dX10_price_67 : decode cX10_price 67 = .ok (.invokevirtual 281, 3) := by decide +kernel
theorem dX10_price_70 : decode cX10_price 70 = .ok (.iadd, 1) := by decide +kernel
theorem dX10_price_71 : decode cX10_price 71 = .ok (.istore_n 3, 1) := by decide +kernel
theorem dX10_price_72 : decode cX10_price 72 = .ok (.iinc 4 1, 3) := by decide +kernel
theorem dX10_price_75 : decode cX10_price 75 = .ok (.goto (-48), 3) := by decide +kernel
theorem dX10_price_78 : decode cX10_price 78 = .ok (.iload_n 3, 1) := by decide +kernel
theorem dX10_price_79 : decode cX10_price 79 = .ok (.ireturn, 1) := by decide +kernel
def S_X10_price_27 (fn : Mem → Int → Nat → Int → Int → Option (Int × Mem)) (p : Program) (l : Launch) (e : Env) (R : Room) (s : State) (m : MethodId) (args : Array Value) (below : List Frame) (meth : Method) (c : Code) (G : GT) (τ : Mem) (res : Int) : Prop := ∀ (σ : Mem) (H : Heap) (locs : List Loc) (ls : Array Slot) (l1 : Int) (l2 : Nat) (l3 : Int) (l4 : Int), kd l2 = 0 → PW G σ H → va_S (AA G) s.heap H locs → fn σ l1 l2 l3 l4 = some (res, τ) → lv_has ls 5 [(0, .ref (gh G + 0)), (1, .int (i32 l1)), (2, .ref (gh G + l2)), (3, .int (i32 l3)), (4, .int (i32 l4))] → W p l e R s m args below meth c H locs 0 0 (MQ below (QM G (some (.int (i32 res))) τ) args s 0 0 (AA G)) (F0 m 27 ls [])
def X10_price_B72 (rec27 : Mem → Int → Nat → Int → Int → Option (Int × Mem)) (σ : Mem) (l1 : Int) (l2 : Nat) (l3 : Int) (l4 : Int) : Option (Int × Mem) :=
  lt (l4 + 1) fun l4_1 =>
  rec27 σ l1 l2 l3 l4_1
def S_X10_price_72 (fn : Mem → Int → Nat → Int → Int → Option (Int × Mem)) (p : Program) (l : Launch) (e : Env) (R : Room) (s : State) (m : MethodId) (args : Array Value) (below : List Frame) (meth : Method) (c : Code) (G : GT) (τ : Mem) (res : Int) : Prop := ∀ (σ : Mem) (H : Heap) (locs : List Loc) (ls : Array Slot) (l1 : Int) (l2 : Nat) (l3 : Int) (l4 : Int), kd l2 = 0 → PW G σ H → va_S (AA G) s.heap H locs → fn σ l1 l2 l3 l4 = some (res, τ) → lv_has ls 5 [(0, .ref (gh G + 0)), (1, .int (i32 l1)), (2, .ref (gh G + l2)), (3, .int (i32 l3)), (4, .int (i32 l4))] → W p l e R s m args below meth c H locs 0 0 (MQ below (QM G (some (.int (i32 res))) τ) args s 0 0 (AA G)) (F0 m 72 ls [])
def X10_price_B27 (rec27 : Mem → Int → Nat → Int → Int → Option (Int × Mem)) (σ : Mem) (l1 : Int) (l2 : Nat) (l3 : Int) (l4 : Int) : Option (Int × Mem) :=
  if w32 (σ l2 3) ≤ w32 l4 then
    some (l3, σ)
  else
  ag 30 l4 fun j1 =>
  if w32 (σ (l2 + 2) j1) ≠ w32 l1 then
    X10_price_B72 rec27 σ l1 l2 l3 l4
  else
  ag 30 l4 fun j2 =>
  ag 30 l4 fun j3 =>
  bd (X7_priceOf σ 1 (σ (l2 + 1) j2) l1 (σ (l2 + 3) j3)) fun r4 =>
  lt (l3 + r4) fun l3_5 =>
  X10_price_B72 rec27 σ l1 l2 l3_5 l4
def X10_price_L27 : Nat → Mem → Int → Nat → Int → Int → Option (Int × Mem)
  | 0 => fun _ _ _ _ _ => none
  | n + 1 => X10_price_B27 (X10_price_L27 n)
def X10_price (σ : Mem) (l1 : Int) : Option (Int × Mem) :=
  bd (X10_isPart σ l1) fun r1 =>
  if w32 r1 ≠ 0 then
    X10_price_L27 5000 σ l1 4 0 0
  else
  bd2 (X10_tell σ (-1000001)) fun r2 s3 =>
  some (r2, s3)
def S_X10_price_0 (fn : Mem → Int → Option (Int × Mem)) (p : Program) (l : Launch) (e : Env) (R : Room) (s : State) (m : MethodId) (args : Array Value) (below : List Frame) (meth : Method) (c : Code) (G : GT) (τ : Mem) (res : Int) : Prop := ∀ (σ : Mem) (H : Heap) (locs : List Loc) (ls : Array Slot) (l1 : Int), PW G σ H → va_S (AA G) s.heap H locs → fn σ l1 = some (res, τ) → lv_has ls 5 [(0, .ref (gh G + 0)), (1, .int (i32 l1))] → W p l e R s m args below meth c H locs 0 0 (MQ below (QM G (some (.int (i32 res))) τ) args s 0 0 (AA G)) (F0 m 0 ls [])
set_option maxHeartbeats 4000000 in
theorem a_X10_price_72 {p : Program} {l : Launch} {e : Env} {R : Room} {s : State} {m : MethodId} {args : Array Value} {below : List Frame} {meth : Method} {c : Code} {G : GT} {τ : Mem} {res : Int} {rec27 : Mem → Int → Nat → Int → Int → Option (Int × Mem)} (X : CX p R s m args meth c cX10_price 5 RX10 (some FieldType.int) 5 158 G) (h27 : S_X10_price_27 rec27 p l e R s m args below meth c G τ res) : S_X10_price_72 (X10_price_B72 rec27) p l e R s m args below meth c G τ res := by
  intro σ H locs ls l1 l2 l3 l4 hk_l2 hP hS hf hl
  unfold X10_price_B72 at hf
  obtain ⟨l4_1, el4_1, hf⟩ := lt_inv hf
  refine lv_iinc (v := i32 l4_1) (lv' := [(4, .int (i32 l4_1)), (0, .ref (gh G + 0)), (1, .int (i32 l1)), (2, .ref (gh G + l2)), (3, .int (i32 l3))]) X.1 X.2.1 dX10_price_72 hl (k := 4) rfl (by rw [← el4_1]; exact i32_add _ _) (by decide) rfl (fun ls hl => ?_)
  refine lv_goto (tgt := 27) X.1 X.2.1 dX10_price_75 (by decide) ?_
  exact h27 σ H locs ls l1 l2 l3 l4_1 hk_l2 hP hS hf (lv_sub hl [1, 2, 3, 4, 0] rfl)
set_option maxHeartbeats 4000000 in
theorem a_X10_price_27 {p : Program} {l : Launch} {e : Env} {R : Room} {s : State} {m : MethodId} {args : Array Value} {below : List Frame} {meth : Method} {c : Code} {G : GT} {τ : Mem} {res : Int} {rec27 : Mem → Int → Nat → Int → Int → Option (Int × Mem)} (X : CX p R s m args meth c cX10_price 5 RX10 (some FieldType.int) 5 158 G) (h27 : S_X10_price_27 rec27 p l e R s m args below meth c G τ res) : S_X10_price_27 (X10_price_B27 rec27) p l e R s m args below meth c G τ res := by
  intro σ H locs ls l1 l2 l3 l4 hk_l2 hP hS hf hl
  unfold X10_price_B27 at hf
  refine lv_iload X.1 X.2.1 dX10_price_27 (lv_at hl 4 rfl) ?_
  refine lv_aload_n X.1 X.2.1 dX10_price_29 rfl (lv_at hl 2 rfl) ?_
  refine g_0_3 X hP hk_l2 (tb t_131 rfl) dX10_price_30 ?_
  refine r_icmp_ge (tgt := 78) X dX10_price_33 (by decide) (fun q => ?_) (fun q => ?_)
  · replace hf := it_inv q hf
    refine lv_iload_n X.1 X.2.1 dX10_price_78 rfl (lv_at hl 3 rfl) ?_
    obtain ⟨rfl, rfl⟩ := so2_inv hf
    exact r_iret X hP hS dX10_price_79
  · replace hf := ie_inv q hf
    refine lv_aload_n X.1 X.2.1 dX10_price_36 rfl (lv_at hl 2 rfl) ?_
    refine g_0_1 (r := l2 + 2) X hP hk_l2 rfl (tb t_125 rfl) dX10_price_37 ?_
    refine lv_iload X.1 X.2.1 dX10_price_40 (lv_at hl 4 rfl) ?_
    obtain ⟨j1, hij1, hjj1, hlj1, hf⟩ := ag_inv hf
    refine r_iald X hP (ch_0_1 hk_l2).1 (ch_0_1 hk_l2).2 hij1 hjj1 dX10_price_42 ?_
    refine lv_iload_n X.1 X.2.1 dX10_price_43 rfl (lv_at hl 1 rfl) ?_
    refine r_icmp_ne (tgt := 72) X dX10_price_44 (by decide) (fun q => ?_) (fun q => ?_)
    · replace hf := it_inv q hf
      exact a_X10_price_72 X h27 σ H locs ls l1 l2 l3 l4 hk_l2 hP hS hf hl
    · replace hf := ie_inv q hf
      refine lv_iload_n X.1 X.2.1 dX10_price_47 rfl (lv_at hl 3 rfl) ?_
      refine lv_aload_n X.1 X.2.1 dX10_price_48 rfl (lv_at hl 0 rfl) ?_
      refine g_10_0 (r := 1) X hP ks_10 rfl (tb t_388 rfl) dX10_price_49 ?_
      refine lv_aload_n X.1 X.2.1 dX10_price_52 rfl (lv_at hl 2 rfl) ?_
      refine g_0_0 (r := l2 + 1) X hP hk_l2 rfl (tb t_122 rfl) dX10_price_53 ?_
      refine lv_iload X.1 X.2.1 dX10_price_56 (lv_at hl 4 rfl) ?_
      obtain ⟨j2, hij2, hjj2, hlj2, hf⟩ := ag_inv hf
      refine r_iald X hP (ch_0_0 hk_l2).1 (ch_0_0 hk_l2).2 hij2 hjj2 dX10_price_58 ?_
      refine lv_iload_n X.1 X.2.1 dX10_price_59 rfl (lv_at hl 1 rfl) ?_
      refine lv_aload_n X.1 X.2.1 dX10_price_60 rfl (lv_at hl 2 rfl) ?_
      refine g_0_2 (r := l2 + 3) X hP hk_l2 rfl (tb t_128 rfl) dX10_price_61 ?_
      refine lv_iload X.1 X.2.1 dX10_price_64 (lv_at hl 4 rfl) ?_
      obtain ⟨j3, hij3, hjj3, hlj3, hf⟩ := ag_inv hf
      refine r_iald X hP (ch_0_2 hk_l2).1 (ch_0_2 hk_l2).2 hij3 hjj3 dX10_price_66 ?_
      obtain ⟨r4, hr4, hf⟩ := bd_inv hf
      refine k_X7_priceOf X hP hS hl.1 (ch_10_0 ks_10).1 hr4 (tb t_945 rfl) (by decide) (Nat.le_of_ble_eq_true rfl) dX10_price_67 (fun H locs hP hS => ?_)
      refine r_iadd X dX10_price_70 ?_
      obtain ⟨l3_5, el3_5, hf⟩ := lt_inv hf
      refine r_eqi el3_5 ?_
      refine lv_istore_n (lv' := [(3, .int (i32 l3_5)), (0, .ref (gh G + 0)), (1, .int (i32 l1)), (2, .ref (gh G + l2)), (4, .int (i32 l4))]) X.1 X.2.1 dX10_price_71 rfl hl (by decide) rfl (fun ls hl => ?_)
      exact a_X10_price_72 X h27 σ H locs ls l1 l2 l3_5 l4 hk_l2 hP hS hf (lv_sub hl [1, 2, 3, 0, 4] rfl)
theorem al_X10_price_27 {p : Program} {l : Launch} {e : Env} {R : Room} {s : State} {m : MethodId} {args : Array Value} {below : List Frame} {meth : Method} {c : Code} {G : GT} {τ : Mem} {res : Int} (X : CX p R s m args meth c cX10_price 5 RX10 (some FieldType.int) 5 158 G) : ∀ n, S_X10_price_27 (X10_price_L27 n) p l e R s m args below meth c G τ res := by
  intro n
  induction n with
  | zero =>
    intro σ H locs ls l1 l2 l3 l4 hk_l2 hP hS hf hl
    cases hf
  | succ n ih => exact a_X10_price_27 X ih
set_option maxHeartbeats 4000000 in
theorem a_X10_price_0 {p : Program} {l : Launch} {e : Env} {R : Room} {s : State} {m : MethodId} {args : Array Value} {below : List Frame} {meth : Method} {c : Code} {G : GT} {τ : Mem} {res : Int} (X : CX p R s m args meth c cX10_price 5 RX10 (some FieldType.int) 5 158 G) : S_X10_price_0 (X10_price) p l e R s m args below meth c G τ res := by
  intro σ H locs ls l1 hP hS hf hl
  unfold X10_price at hf
  refine lv_iload_n X.1 X.2.1 dX10_price_0 rfl (lv_at hl 1 rfl) ?_
  obtain ⟨r1, hr1, hf⟩ := bd_inv hf
  refine k_X10_isPart X hP hS hl.1  hr1 (tb t_420 rfl) (by decide) (Nat.le_of_ble_eq_true rfl) dX10_price_1 (fun H locs hP hS => ?_)
  refine r_if_ne (tgt := 14) X dX10_price_4 (by decide) (fun q => ?_) (fun q => ?_)
  · replace hf := it_inv q hf
    refine lv_aload_n X.1 X.2.1 dX10_price_14 rfl (lv_at hl 0 rfl) ?_
    refine g_10_0 (r := 1) X hP ks_10 rfl (tb t_388 rfl) dX10_price_15 ?_
    refine g_7_2 (r := 4) X hP (ch_10_0 ks_10).1 rfl (tb t_174 rfl) dX10_price_18 ?_
    refine lv_astore_n (lv' := [(2, .ref (gh G + 4)), (0, .ref (gh G + 0)), (1, .int (i32 l1))]) X.1 X.2.1 dX10_price_21 rfl hl (by decide) rfl (fun ls hl => ?_)
    refine r_iconst X 0 dX10_price_22 ?_
    refine lv_istore_n (lv' := [(3, .int (i32 0)), (2, .ref (gh G + 4)), (0, .ref (gh G + 0)), (1, .int (i32 l1))]) X.1 X.2.1 dX10_price_23 rfl hl (by decide) rfl (fun ls hl => ?_)
    refine r_iconst X 0 dX10_price_24 ?_
    refine lv_istore (lv' := [(4, .int (i32 0)), (3, .int (i32 0)), (2, .ref (gh G + 4)), (0, .ref (gh G + 0)), (1, .int (i32 l1))]) X.1 X.2.1 dX10_price_25 hl (by decide) rfl (fun ls hl => ?_)
    exact al_X10_price_27 X 5000 σ H locs ls l1 4 0 0 (ch_7_2 (ch_10_0 ks_10).1).1 hP hS hf (lv_sub hl [3, 4, 2, 1, 0] rfl)
  · replace hf := ie_inv q hf
    refine lv_aload_n X.1 X.2.1 dX10_price_7 rfl (lv_at hl 0 rfl) ?_
    refine r_ldc X (-1000001) (tb t_430 rfl) (by decide) dX10_price_8 ?_
    obtain ⟨r2, s3, hr2, hf⟩ := bd2_inv hf
    refine k_X10_tell X hP hS hl.1  hr2 (tb t_431 rfl) (by decide) (Nat.le_of_ble_eq_true rfl) dX10_price_10 (fun H locs hP hS => ?_)
    obtain ⟨rfl, rfl⟩ := so2_inv hf
    exact r_iret X hP hS dX10_price_13
set_option maxHeartbeats 4000000 in
theorem c_X10_price {l : Launch} {G : GT} {σ τ : Mem} {res : Int} {l1 : Int} (hf : X10_price σ l1 = some (res, τ)) : CT l yX10_price cX10_price 5 (some FieldType.int) 5 158 G [.ref (gh G + 0), .int (i32 l1)] σ τ (some (.int (i32 res))) := by
  refine CT.mk (own := RX10) (by decide) rfl (Nat.le_of_ble_eq_true rfl) ?_
  intro p e s m below meth c ls X hP hS hl
  have hl : lv_has ls 5 [(0, .ref (gh G + 0)), (1, .int (i32 l1))] := hl
  exact a_X10_price_0 X σ s.heap [] ls l1 hP hS hf hl
theorem k_X10_price {p : Program} {l : Launch} {e : Env} {R : Room} {s : State} {m : MethodId} {args : Array Value} {below : List Frame} {meth : Method} {c : Code} {H : Heap} {locs : List Loc} {Q : State → Prop} {cc : ByteArray} {nL : Nat} {own : String} {ret : Option FieldType} {fF fL : Nat} {G : GT} {pc idx : Nat} {ls : Array Slot} {rest : List Value} {σ τ : Mem} {res : Int} {l1 : Int} (X : CX p R s m args meth c cc nL own ret fF fL G) (hP : PW G σ H) (hS : va_S (AA G) s.heap H locs) (hls : ls.size = nL) (hf : X10_price σ l1 = some (res, τ)) (h1 : Cond.methodLink own idx yX10_price ∈ TB) (hR : 5 + 1 ≤ fF ∧ 8 + (5 + 11) + 158 ≤ fL) (hW : (rest.map fun v => v.category).sum ≤ 8) (hd : decode cc pc = .ok (.invokevirtual idx, 3)) (kk : ∀ (H1 : Heap) (locs1 : List Loc), PW G τ H1 → va_S (AA G) s.heap H1 locs1 → W p l e R s m args below meth c H1 locs1 0 0 Q (F0 m (pc + 3) ls (.int (i32 res) :: rest))) : W p l e R s m args below meth c H locs 0 0 Q (F0 m pc ls (.int (i32 l1) :: .ref (gh G + 0) :: rest)) := r_callV (n := 1) X hP hS hls (c_X10_price hf) h1 (tb t_963 rfl) (tb t_964 rfl) (tb t_75 rfl) (tb t_965 rfl) (by decide +kernel) hR (r_recv X hP (kd_lt ks_10 (by decide)) (cE_10 ks_10) rfl) rfl rfl hW hd kk
/-! X8_isLetter -/
theorem dX8_isLetter_0 : decode cX8_isLetter 0 = .ok (.aload_n 0, 1) := by decide +kernel
theorem dX8_isLetter_1 : decode cX8_isLetter 1 = .ok (.getfield 9, 3) := by decide +kernel
theorem dX8_isLetter_4 : decode cX8_isLetter 4 = .ok (.iload_n 1, 1) := by decide +kernel
theorem dX8_isLetter_5 : decode cX8_isLetter 5 = .ok (.baload, 1) := by decide +kernel
theorem dX8_isLetter_6 : decode cX8_isLetter 6 = .ok (.bipush 97, 2) := by decide +kernel
theorem dX8_isLetter_8 : decode cX8_isLetter 8 = .ok (.if_icmp .lt 18, 3) := by decide +kernel
theorem dX8_isLetter_11 : decode cX8_isLetter 11 = .ok (.aload_n 0, 1) := by decide +kernel
theorem dX8_isLetter_12 : decode cX8_isLetter 12 = .ok (.getfield 9, 3) := by decide +kernel
theorem dX8_isLetter_15 : decode cX8_isLetter 15 = .ok (.iload_n 1, 1) := by decide +kernel
theorem dX8_isLetter_16 : decode cX8_isLetter 16 = .ok (.baload, 1) := by decide +kernel
theorem dX8_isLetter_17 : decode cX8_isLetter 17 = .ok (.bipush 122, 2) := by decide +kernel
theorem dX8_isLetter_19 : decode cX8_isLetter 19 = .ok (.if_icmp .gt 7, 3) := by decide +kernel
theorem dX8_isLetter_22 : decode cX8_isLetter 22 = .ok (.iconst 1, 1) := by decide +kernel
theorem dX8_isLetter_23 : decode cX8_isLetter 23 = .ok (.goto 4, 3) := by decide +kernel
theorem dX8_isLetter_26 : decode cX8_isLetter 26 = .ok (.iconst 0, 1) := by decide +kernel
theorem dX8_isLetter_27 : decode cX8_isLetter 27 = .ok (.ireturn, 1) := by decide +kernel
def X8_isLetter (σ : Mem) (l1 : Int) : Option (Int) :=
  ag 120 l1 fun j1 =>
  if w32 (σ 43 j1) < w32 97 then
    some 0
  else
  ag 120 l1 fun j2 =>
  if w32 122 < w32 (σ 43 j2) then
    some 0
  else
  some 1
def S_X8_isLetter_0 (fn : Int → Option (Int)) (p : Program) (l : Launch) (e : Env) (R : Room) (s : State) (m : MethodId) (args : Array Value) (below : List Frame) (meth : Method) (c : Code) (G : GT) (σ : Mem) (res : Int) : Prop := ∀ (H : Heap) (locs : List Loc) (ls : Array Slot) (l1 : Int), PW G σ H → va_S (AA G) s.heap H locs → fn l1 = some res → lv_has ls 2 [(0, .ref (gh G + 42)), (1, .int (i32 l1))] → W p l e R s m args below meth c H locs 0 0 (MQ below (QM G (some (.int (i32 res))) σ) args s 0 0 (AA G)) (F0 m 0 ls [])
set_option maxHeartbeats 4000000 in
theorem a_X8_isLetter_0 {p : Program} {l : Launch} {e : Env} {R : Room} {s : State} {m : MethodId} {args : Array Value} {below : List Frame} {meth : Method} {c : Code} {G : GT} {σ : Mem} {res : Int} (X : CX p R s m args meth c cX8_isLetter 2 RX8 (some FieldType.boolean) 1 60 G) : S_X8_isLetter_0 (X8_isLetter σ) p l e R s m args below meth c G σ res := by
  intro H locs ls l1 hP hS hf hl
  unfold X8_isLetter at hf
  refine lv_aload_n X.1 X.2.1 dX8_isLetter_0 rfl (lv_at hl 0 rfl) ?_
  refine g_8_0 (r := 43) X hP ks_8 rfl (tb t_194 rfl) dX8_isLetter_1 ?_
  refine lv_iload_n X.1 X.2.1 dX8_isLetter_4 rfl (lv_at hl 1 rfl) ?_
  obtain ⟨j1, hij1, hjj1, hlj1, hf⟩ := ag_inv hf
  refine r_bald X hP (ch_8_0 ks_8).1 (ch_8_0 ks_8).2 hij1 hjj1 dX8_isLetter_5 ?_
  refine r_bipush X 97 (by decide) dX8_isLetter_6 ?_
  refine r_icmp_lt (tgt := 26) X dX8_isLetter_8 (by decide) (fun q => ?_) (fun q => ?_)
  · replace hf := it_inv q hf
    refine r_iconst X 0 dX8_isLetter_26 ?_
    cases so_inv hf
    exact r_zret X hP hS (Or.inl rfl) dX8_isLetter_27
  · replace hf := ie_inv q hf
    refine lv_aload_n X.1 X.2.1 dX8_isLetter_11 rfl (lv_at hl 0 rfl) ?_
    refine g_8_0 (r := 43) X hP ks_8 rfl (tb t_194 rfl) dX8_isLetter_12 ?_
    refine lv_iload_n X.1 X.2.1 dX8_isLetter_15 rfl (lv_at hl 1 rfl) ?_
    obtain ⟨j2, hij2, hjj2, hlj2, hf⟩ := ag_inv hf
    refine r_bald X hP (ch_8_0 ks_8).1 (ch_8_0 ks_8).2 hij2 hjj2 dX8_isLetter_16 ?_
    refine r_bipush X 122 (by decide) dX8_isLetter_17 ?_
    refine r_icmp_gt (tgt := 26) X dX8_isLetter_19 (by decide) (fun q => ?_) (fun q => ?_)
    · replace hf := it_inv q hf
      refine r_iconst X 0 dX8_isLetter_26 ?_
      cases so_inv hf
      exact r_zret X hP hS (Or.inl rfl) dX8_isLetter_27
    · replace hf := ie_inv q hf
      refine r_iconst X 1 dX8_isLetter_22 ?_
      refine lv_goto (tgt := 27) X.1 X.2.1 dX8_isLetter_23 (by decide) ?_
      cases so_inv hf
      exact r_zret X hP hS (Or.inr rfl) dX8_isLetter_27
set_option maxHeartbeats 4000000 in
theorem c_X8_isLetter {l : Launch} {G : GT} {σ : Mem} {res : Int} {l1 : Int} (hf : X8_isLetter σ l1 = some res) : CT l yX8_isLetter cX8_isLetter 2 (some FieldType.boolean) 1 60 G [.ref (gh G + 42), .int (i32 l1)] σ σ (some (.int (i32 res))) := by
  refine CT.mk (own := RX8) (by decide) rfl (Nat.le_of_ble_eq_true rfl) ?_
  intro p e s m below meth c ls X hP hS hl
  have hl : lv_has ls 2 [(0, .ref (gh G + 42)), (1, .int (i32 l1))] := hl
  exact a_X8_isLetter_0 X  s.heap [] ls l1 hP hS hf hl
theorem k_X8_isLetter {p : Program} {l : Launch} {e : Env} {R : Room} {s : State} {m : MethodId} {args : Array Value} {below : List Frame} {meth : Method} {c : Code} {H : Heap} {locs : List Loc} {Q : State → Prop} {cc : ByteArray} {nL : Nat} {own : String} {ret : Option FieldType} {fF fL : Nat} {G : GT} {pc idx : Nat} {ls : Array Slot} {rest : List Value} {σ : Mem} {res : Int} {l1 : Int} (X : CX p R s m args meth c cc nL own ret fF fL G) (hP : PW G σ H) (hS : va_S (AA G) s.heap H locs) (hls : ls.size = nL) (hf : X8_isLetter σ l1 = some res) (h1 : Cond.methodLink own idx yX8_isLetter ∈ TB) (hR : 1 + 1 ≤ fF ∧ 8 + (2 + 11) + 60 ≤ fL) (hW : (rest.map fun v => v.category).sum ≤ 8) (hd : decode cc pc = .ok (.invokevirtual idx, 3)) (kk : ∀ (H1 : Heap) (locs1 : List Loc), PW G σ H1 → va_S (AA G) s.heap H1 locs1 → W p l e R s m args below meth c H1 locs1 0 0 Q (F0 m (pc + 3) ls (.int (i32 res) :: rest))) : W p l e R s m args below meth c H locs 0 0 Q (F0 m pc ls (.int (i32 l1) :: .ref (gh G + 42) :: rest)) := r_callV (n := 1) X hP hS hls (c_X8_isLetter hf) h1 (tb t_491 rfl) (tb t_5 rfl) (tb t_81 rfl) (tb t_492 rfl) (by decide +kernel) hR (r_recv X hP (kd_lt ks_8 (by decide)) (cE_8 ks_8) rfl) rfl rfl hW hd kk
/-! X8_isDigit -/
theorem dX8_isDigit_0 : decode cX8_isDigit 0 = .ok (.aload_n 0, 1) := by decide +kernel
theorem dX8_isDigit_1 : decode cX8_isDigit 1 = .ok (.getfield 9, 3) := by decide +kernel
theorem dX8_isDigit_4 : decode cX8_isDigit 4 = .ok (.iload_n 1, 1) := by decide +kernel
theorem dX8_isDigit_5 : decode cX8_isDigit 5 = .ok (.baload, 1) := by decide +kernel
theorem dX8_isDigit_6 : decode cX8_isDigit 6 = .ok (.bipush 48, 2) := by decide +kernel
theorem dX8_isDigit_8 : decode cX8_isDigit 8 = .ok (.if_icmp .lt 18, 3) := by decide +kernel
theorem dX8_isDigit_11 : decode cX8_isDigit 11 = .ok (.aload_n 0, 1) := by decide +kernel
theorem dX8_isDigit_12 : decode cX8_isDigit 12 = .ok (.getfield 9, 3) := by decide +kernel
theorem dX8_isDigit_15 : decode cX8_isDigit 15 = .ok (.iload_n 1, 1) := by decide +kernel
theorem dX8_isDigit_16 : decode cX8_isDigit 16 = .ok (.baload, 1) := by decide +kernel
theorem dX8_isDigit_17 : decode cX8_isDigit 17 = .ok (.bipush 57, 2) := by decide +kernel
theorem dX8_isDigit_19 : decode cX8_isDigit 19 = .ok (.if_icmp .gt 7, 3) := by decide +kernel
theorem dX8_isDigit_22 : decode cX8_isDigit 22 = .ok (.iconst 1, 1) := by decide +kernel
theorem dX8_isDigit_23 : decode cX8_isDigit 23 = .ok (.goto 4, 3) := by decide +kernel
theorem dX8_isDigit_26 : decode cX8_isDigit 26 = .ok (.iconst 0, 1) := by decide +kernel
theorem dX8_isDigit_27 : decode cX8_isDigit 27 = .ok (.ireturn, 1) := by decide +kernel
def X8_isDigit (σ : Mem) (l1 : Int) : Option (Int) :=
  ag 120 l1 fun j1 =>
  if w32 (σ 43 j1) < w32 48 then
    some 0
  else
  ag 120 l1 fun j2 =>
  if w32 57 < w32 (σ 43 j2) then
    some 0
  else
  some 1
def S_X8_isDigit_0 (fn : Int → Option (Int)) (p : Program) (l : Launch) (e : Env) (R : Room) (s : State) (m : MethodId) (args : Array Value) (below : List Frame) (meth : Method) (c : Code) (G : GT) (σ : Mem) (res : Int) : Prop := ∀ (H : Heap) (locs : List Loc) (ls : Array Slot) (l1 : Int), PW G σ H → va_S (AA G) s.heap H locs → fn l1 = some res → lv_has ls 2 [(0, .ref (gh G + 42)), (1, .int (i32 l1))] → W p l e R s m args below meth c H locs 0 0 (MQ below (QM G (some (.int (i32 res))) σ) args s 0 0 (AA G)) (F0 m 0 ls [])
set_option maxHeartbeats 4000000 in
theorem a_X8_isDigit_0 {p : Program} {l : Launch} {e : Env} {R : Room} {s : State} {m : MethodId} {args : Array Value} {below : List Frame} {meth : Method} {c : Code} {G : GT} {σ : Mem} {res : Int} (X : CX p R s m args meth c cX8_isDigit 2 RX8 (some FieldType.boolean) 1 60 G) : S_X8_isDigit_0 (X8_isDigit σ) p l e R s m args below meth c G σ res := by
  intro H locs ls l1 hP hS hf hl
  unfold X8_isDigit at hf
  refine lv_aload_n X.1 X.2.1 dX8_isDigit_0 rfl (lv_at hl 0 rfl) ?_
  refine g_8_0 (r := 43) X hP ks_8 rfl (tb t_194 rfl) dX8_isDigit_1 ?_
  refine lv_iload_n X.1 X.2.1 dX8_isDigit_4 rfl (lv_at hl 1 rfl) ?_
  obtain ⟨j1, hij1, hjj1, hlj1, hf⟩ := ag_inv hf
  refine r_bald X hP (ch_8_0 ks_8).1 (ch_8_0 ks_8).2 hij1 hjj1 dX8_isDigit_5 ?_
  refine r_bipush X 48 (by decide) dX8_isDigit_6 ?_
  refine r_icmp_lt (tgt := 26) X dX8_isDigit_8 (by decide) (fun q => ?_) (fun q => ?_)
  · replace hf := it_inv q hf
    refine r_iconst X 0 dX8_isDigit_26 ?_
    cases so_inv hf
    exact r_zret X hP hS (Or.inl rfl) dX8_isDigit_27
  · replace hf := ie_inv q hf
    refine lv_aload_n X.1 X.2.1 dX8_isDigit_11 rfl (lv_at hl 0 rfl) ?_
    refine g_8_0 (r := 43) X hP ks_8 rfl (tb t_194 rfl) dX8_isDigit_12 ?_
    refine lv_iload_n X.1 X.2.1 dX8_isDigit_15 rfl (lv_at hl 1 rfl) ?_
    obtain ⟨j2, hij2, hjj2, hlj2, hf⟩ := ag_inv hf
    refine r_bald X hP (ch_8_0 ks_8).1 (ch_8_0 ks_8).2 hij2 hjj2 dX8_isDigit_16 ?_
    refine r_bipush X 57 (by decide) dX8_isDigit_17 ?_
    refine r_icmp_gt (tgt := 26) X dX8_isDigit_19 (by decide) (fun q => ?_) (fun q => ?_)
    · replace hf := it_inv q hf
      refine r_iconst X 0 dX8_isDigit_26 ?_
      cases so_inv hf
      exact r_zret X hP hS (Or.inl rfl) dX8_isDigit_27
    · replace hf := ie_inv q hf
      refine r_iconst X 1 dX8_isDigit_22 ?_
      refine lv_goto (tgt := 27) X.1 X.2.1 dX8_isDigit_23 (by decide) ?_
      cases so_inv hf
      exact r_zret X hP hS (Or.inr rfl) dX8_isDigit_27
set_option maxHeartbeats 4000000 in
theorem c_X8_isDigit {l : Launch} {G : GT} {σ : Mem} {res : Int} {l1 : Int} (hf : X8_isDigit σ l1 = some res) : CT l yX8_isDigit cX8_isDigit 2 (some FieldType.boolean) 1 60 G [.ref (gh G + 42), .int (i32 l1)] σ σ (some (.int (i32 res))) := by
  refine CT.mk (own := RX8) (by decide) rfl (Nat.le_of_ble_eq_true rfl) ?_
  intro p e s m below meth c ls X hP hS hl
  have hl : lv_has ls 2 [(0, .ref (gh G + 42)), (1, .int (i32 l1))] := hl
  exact a_X8_isDigit_0 X  s.heap [] ls l1 hP hS hf hl
theorem k_X8_isDigit {p : Program} {l : Launch} {e : Env} {R : Room} {s : State} {m : MethodId} {args : Array Value} {below : List Frame} {meth : Method} {c : Code} {H : Heap} {locs : List Loc} {Q : State → Prop} {cc : ByteArray} {nL : Nat} {own : String} {ret : Option FieldType} {fF fL : Nat} {G : GT} {pc idx : Nat} {ls : Array Slot} {rest : List Value} {σ : Mem} {res : Int} {l1 : Int} (X : CX p R s m args meth c cc nL own ret fF fL G) (hP : PW G σ H) (hS : va_S (AA G) s.heap H locs) (hls : ls.size = nL) (hf : X8_isDigit σ l1 = some res) (h1 : Cond.methodLink own idx yX8_isDigit ∈ TB) (hR : 1 + 1 ≤ fF ∧ 8 + (2 + 11) + 60 ≤ fL) (hW : (rest.map fun v => v.category).sum ≤ 8) (hd : decode cc pc = .ok (.invokevirtual idx, 3)) (kk : ∀ (H1 : Heap) (locs1 : List Loc), PW G σ H1 → va_S (AA G) s.heap H1 locs1 → W p l e R s m args below meth c H1 locs1 0 0 Q (F0 m (pc + 3) ls (.int (i32 res) :: rest))) : W p l e R s m args below meth c H locs 0 0 Q (F0 m pc ls (.int (i32 l1) :: .ref (gh G + 42) :: rest)) := r_callV (n := 1) X hP hS hls (c_X8_isDigit hf) h1 (tb t_495 rfl) (tb t_6 rfl) (tb t_81 rfl) (tb t_496 rfl) (by decide +kernel) hR (r_recv X hP (kd_lt ks_8 (by decide)) (cE_8 ks_8) rfl) rfl rfl hW hd kk
/-! X8_behindToken -/
theorem dX8_behindToken_0 : decode cX8_behindToken 0 = .ok (.iload_n 1, 1) := by decide +kernel
theorem dX8_behindToken_1 : decode cX8_behindToken 1 = .ok (.iconst 1, 1) := by decide +kernel
theorem dX8_behindToken_2 : decode cX8_behindToken 2 = .ok (.iadd, 1) := by decide +kernel
theorem dX8_behindToken_3 : decode cX8_behindToken 3 = .ok (.istore_n 2, 1) := by decide +kernel
theorem dX8_behindToken_4 : decode cX8_behindToken 4 = .ok (.aload_n 0, 1) := by decide +kernel
theorem dX8_behindToken_5 : decode cX8_behindToken 5 = .ok (.iload_n 1, 1) := by decide +kernel
theorem dX8_behindToken_6 : decode cX8_behindToken 6 = .ok (.invokevirtual 47, 3) := by decide +kernel
theorem dX8_behindToken_9 : decode cX8_behindToken 9 = .ok (.ifCond .eq 25, 3) := by decide +kernel
theorem dX8_behindToken_12 : decode cX8_behindToken 12 = .ok (.iload_n 2, 1) := by decide +kernel
theorem dX8_behindToken_13 : decode cX8_behindToken 13 = .ok (.aload_n 0, 1) := by decide +kernel
theorem dX8_behindToken_14 : decode cX8_behindToken 14 = .ok (.getfield 25, 3) := by decide +kernel
theorem dX8_behindToken_17 : decode cX8_behindToken 17 = .ok (.if_icmp .ge 47, 3) := by decide +kernel
theorem dX8_behindToken_20 : decode cX8_behindToken 20 = .ok (.aload_n 0, 1) := by decide +kernel
theorem dX8_behindToken_21 : decode cX8_behindToken 21 = .ok (.iload_n 2, 1) := by decide +kernel
theorem dX8_behindToken_22 : decode cX8_behindToken 22 = .ok (.invokevirtual 47, 3) := by decide +kernel
theorem dX8_behindToken_25 : decode cX8_behindToken 25 = .ok (.ifCond .eq 39, 3) := by decide +kernel
theorem dX8_behindToken_28 : decode cX8_behindToken 28 = .ok (.iinc 2 1, 3) := by decide +kernel
theorem dX8_behindToken_31 : decode cX8_behindToken 31 = .ok (.goto (-19), 3) := by decide +kernel
theorem dX8_behindToken_34 : decode cX8_behindToken 34 = .ok (.aload_n 0, 1) := by decide +kernel
theorem dX8_behindToken_35 : decode cX8_behindToken 35 = .ok (.iload_n 1, 1) := by decide +kernel
theorem dX8_behindToken_36 : decode cX8_behindToken 36 = .ok (.invokevirtual 50, 3) := by decide +kernel
theorem dX8_behindToken_39 : decode cX8_behindToken 39 = .ok (.ifCond .eq 25, 3) := by decide +kernel
theorem dX8_behindToken_42 : decode cX8_behindToken 42 = .ok (.iload_n 2, 1) := by decide +kernel
theorem dX8_behindToken_43 : decode cX8_behindToken 43 = .ok (.aload_n 0, 1) := by decide +kernel
theorem dX8_behindToken_44 : decode cX8_behindToken 44 = .ok (.getfield 25, 3) := by decide +kernel
theorem dX8_behindToken_47 : decode cX8_behindToken 47 = .ok (.if_icmp .ge 17, 3) := by decide +kernel
theorem dX8_behindToken_50 : decode cX8_behindToken 50 = .ok (.aload_n 0, 1) := by decide +kernel
theorem dX8_behindToken_51 : decode cX8_behindToken 51 = .ok (.iload_n 2, 1) := by decide +kernel
theorem dX8_behindToken_52 : decode cX8_behindToken 52 = .ok (.invokevirtual 50, 3) := by decide +kernel
theorem dX8_behindToken_55 : decode cX8_behindToken 55 = .ok (.ifCond .eq 9, 3) := by decide +kernel
theorem dX8_behindToken_58 : decode cX8_behindToken 58 = .ok (.iinc 2 1, 3) := by decide +kernel
theorem dX8_behindToken_61 : decode cX8_behindToken 61 = .ok (.goto (-19), 3) := by decide +kernel
theorem dX8_behindToken_64 : decode cX8_behindToken 64 = .ok (.iload_n 2, 1) := by decide +kernel
theorem dX8_behindToken_65 : decode cX8_behindToken 65 = .ok (.ireturn, 1) := by decide +kernel
def S_X8_behindToken_12 (fn : Int → Option (Int)) (p : Program) (l : Launch) (e : Env) (R : Room) (s : State) (m : MethodId) (args : Array Value) (below : List Frame) (meth : Method) (c : Code) (G : GT) (σ : Mem) (res : Int) : Prop := ∀ (H : Heap) (locs : List Loc) (ls : Array Slot) (l2 : Int), PW G σ H → va_S (AA G) s.heap H locs → fn l2 = some res → lv_has ls 3 [(0, .ref (gh G + 42)), (2, .int (i32 l2))] → W p l e R s m args below meth c H locs 0 0 (MQ below (QM G (some (.int (i32 res))) σ) args s 0 0 (AA G)) (F0 m 12 ls [])
def S_X8_behindToken_42 (fn : Int → Option (Int)) (p : Program) (l : Launch) (e : Env) (R : Room) (s : State) (m : MethodId) (args : Array Value) (below : List Frame) (meth : Method) (c : Code) (G : GT) (σ : Mem) (res : Int) : Prop := ∀ (H : Heap) (locs : List Loc) (ls : Array Slot) (l2 : Int), PW G σ H → va_S (AA G) s.heap H locs → fn l2 = some res → lv_has ls 3 [(0, .ref (gh G + 42)), (2, .int (i32 l2))] → W p l e R s m args below meth c H locs 0 0 (MQ below (QM G (some (.int (i32 res))) σ) args s 0 0 (AA G)) (F0 m 42 ls [])
def X8_behindToken_B42 (rec42 : Int → Option (Int)) (σ : Mem) (l2 : Int) : Option (Int) :=
  if w32 (σ 42 1) ≤ w32 l2 then
    some l2
  else
  bd (X8_isDigit σ l2) fun r1 =>
  if w32 r1 = 0 then
    some l2
  else
  lt (l2 + 1) fun l2_2 =>
  rec42 l2_2
def X8_behindToken_L42 (σ : Mem) : Nat → Int → Option (Int)
  | 0 => fun _ => none
  | n + 1 => X8_behindToken_B42 (X8_behindToken_L42 σ n) σ
def X8_behindToken_B12 (rec12 : Int → Option (Int)) (σ : Mem) (l2 : Int) : Option (Int) :=
  if w32 (σ 42 1) ≤ w32 l2 then
    some l2
  else
  bd (X8_isLetter σ l2) fun r1 =>
  if w32 r1 = 0 then
    some l2
  else
  lt (l2 + 1) fun l2_2 =>
  rec12 l2_2
def X8_behindToken_L12 (σ : Mem) : Nat → Int → Option (Int)
  | 0 => fun _ => none
  | n + 1 => X8_behindToken_B12 (X8_behindToken_L12 σ n) σ
def X8_behindToken (σ : Mem) (l1 : Int) : Option (Int) :=
  lt (l1 + 1) fun l2_1 =>
  bd (X8_isLetter σ l1) fun r2 =>
  if w32 r2 = 0 then
    bd (X8_isDigit σ l1) fun r3 =>
    if w32 r3 = 0 then
      some l2_1
    else
    X8_behindToken_L42 σ 5000 l2_1
  else
  X8_behindToken_L12 σ 5000 l2_1
def S_X8_behindToken_0 (fn : Int → Option (Int)) (p : Program) (l : Launch) (e : Env) (R : Room) (s : State) (m : MethodId) (args : Array Value) (below : List Frame) (meth : Method) (c : Code) (G : GT) (σ : Mem) (res : Int) : Prop := ∀ (H : Heap) (locs : List Loc) (ls : Array Slot) (l1 : Int), PW G σ H → va_S (AA G) s.heap H locs → fn l1 = some res → lv_has ls 3 [(0, .ref (gh G + 42)), (1, .int (i32 l1))] → W p l e R s m args below meth c H locs 0 0 (MQ below (QM G (some (.int (i32 res))) σ) args s 0 0 (AA G)) (F0 m 0 ls [])
set_option maxHeartbeats 4000000 in
theorem a_X8_behindToken_42 {p : Program} {l : Launch} {e : Env} {R : Room} {s : State} {m : MethodId} {args : Array Value} {below : List Frame} {meth : Method} {c : Code} {G : GT} {σ : Mem} {res : Int} {rec42 : Int → Option (Int)} (X : CX p R s m args meth c cX8_behindToken 3 RX8 (some FieldType.int) 2 81 G) (h42 : S_X8_behindToken_42 rec42 p l e R s m args below meth c G σ res) : S_X8_behindToken_42 (X8_behindToken_B42 rec42 σ) p l e R s m args below meth c G σ res := by
  intro H locs ls l2 hP hS hf hl
  unfold X8_behindToken_B42 at hf
  refine lv_iload_n X.1 X.2.1 dX8_behindToken_42 rfl (lv_at hl 1 rfl) ?_
  refine lv_aload_n X.1 X.2.1 dX8_behindToken_43 rfl (lv_at hl 0 rfl) ?_
  refine g_8_1 X hP ks_8 (tb t_195 rfl) dX8_behindToken_44 ?_
  refine r_icmp_ge (tgt := 64) X dX8_behindToken_47 (by decide) (fun q => ?_) (fun q => ?_)
  · replace hf := it_inv q hf
    refine lv_iload_n X.1 X.2.1 dX8_behindToken_64 rfl (lv_at hl 1 rfl) ?_
    cases so_inv hf
    exact r_iret X hP hS dX8_behindToken_65
  · replace hf := ie_inv q hf
    refine lv_aload_n X.1 X.2.1 dX8_behindToken_50 rfl (lv_at hl 0 rfl) ?_
    refine lv_iload_n X.1 X.2.1 dX8_behindToken_51 rfl (lv_at hl 1 rfl) ?_
    obtain ⟨r1, hr1, hf⟩ := bd_inv hf
    refine k_X8_isDigit X hP hS hl.1  hr1 (tb t_493 rfl) (by decide) (Nat.le_of_ble_eq_true rfl) dX8_behindToken_52 (fun H locs hP hS => ?_)
    refine r_if_eq (tgt := 64) X dX8_behindToken_55 (by decide) (fun q => ?_) (fun q => ?_)
    · replace hf := it_inv q hf
      refine lv_iload_n X.1 X.2.1 dX8_behindToken_64 rfl (lv_at hl 1 rfl) ?_
      cases so_inv hf
      exact r_iret X hP hS dX8_behindToken_65
    · replace hf := ie_inv q hf
      obtain ⟨l2_2, el2_2, hf⟩ := lt_inv hf
      refine lv_iinc (v := i32 l2_2) (lv' := [(2, .int (i32 l2_2)), (0, .ref (gh G + 42))]) X.1 X.2.1 dX8_behindToken_58 hl (k := 1) rfl (by rw [← el2_2]; exact i32_add _ _) (by decide) rfl (fun ls hl => ?_)
      refine lv_goto (tgt := 42) X.1 X.2.1 dX8_behindToken_61 (by decide) ?_
      exact h42  H locs ls l2_2 hP hS hf (lv_sub hl [1, 0] rfl)
theorem al_X8_behindToken_42 {p : Program} {l : Launch} {e : Env} {R : Room} {s : State} {m : MethodId} {args : Array Value} {below : List Frame} {meth : Method} {c : Code} {G : GT} {σ : Mem} {res : Int} (X : CX p R s m args meth c cX8_behindToken 3 RX8 (some FieldType.int) 2 81 G) : ∀ n, S_X8_behindToken_42 (X8_behindToken_L42 σ n) p l e R s m args below meth c G σ res := by
  intro n
  induction n with
  | zero =>
    intro H locs ls l2 hP hS hf hl
    cases hf
  | succ n ih => exact a_X8_behindToken_42 X ih
set_option maxHeartbeats 4000000 in
theorem a_X8_behindToken_12 {p : Program} {l : Launch} {e : Env} {R : Room} {s : State} {m : MethodId} {args : Array Value} {below : List Frame} {meth : Method} {c : Code} {G : GT} {σ : Mem} {res : Int} {rec12 : Int → Option (Int)} (X : CX p R s m args meth c cX8_behindToken 3 RX8 (some FieldType.int) 2 81 G) (h12 : S_X8_behindToken_12 rec12 p l e R s m args below meth c G σ res) : S_X8_behindToken_12 (X8_behindToken_B12 rec12 σ) p l e R s m args below meth c G σ res := by
  intro H locs ls l2 hP hS hf hl
  unfold X8_behindToken_B12 at hf
  refine lv_iload_n X.1 X.2.1 dX8_behindToken_12 rfl (lv_at hl 1 rfl) ?_
  refine lv_aload_n X.1 X.2.1 dX8_behindToken_13 rfl (lv_at hl 0 rfl) ?_
  refine g_8_1 X hP ks_8 (tb t_195 rfl) dX8_behindToken_14 ?_
  refine r_icmp_ge (tgt := 64) X dX8_behindToken_17 (by decide) (fun q => ?_) (fun q => ?_)
  · replace hf := it_inv q hf
    refine lv_iload_n X.1 X.2.1 dX8_behindToken_64 rfl (lv_at hl 1 rfl) ?_
    cases so_inv hf
    exact r_iret X hP hS dX8_behindToken_65
  · replace hf := ie_inv q hf
    refine lv_aload_n X.1 X.2.1 dX8_behindToken_20 rfl (lv_at hl 0 rfl) ?_
    refine lv_iload_n X.1 X.2.1 dX8_behindToken_21 rfl (lv_at hl 1 rfl) ?_
    obtain ⟨r1, hr1, hf⟩ := bd_inv hf
    refine k_X8_isLetter X hP hS hl.1  hr1 (tb t_489 rfl) (by decide) (Nat.le_of_ble_eq_true rfl) dX8_behindToken_22 (fun H locs hP hS => ?_)
    refine r_if_eq (tgt := 64) X dX8_behindToken_25 (by decide) (fun q => ?_) (fun q => ?_)
    · replace hf := it_inv q hf
      refine lv_iload_n X.1 X.2.1 dX8_behindToken_64 rfl (lv_at hl 1 rfl) ?_
      cases so_inv hf
      exact r_iret X hP hS dX8_behindToken_65
    · replace hf := ie_inv q hf
      obtain ⟨l2_2, el2_2, hf⟩ := lt_inv hf
      refine lv_iinc (v := i32 l2_2) (lv' := [(2, .int (i32 l2_2)), (0, .ref (gh G + 42))]) X.1 X.2.1 dX8_behindToken_28 hl (k := 1) rfl (by rw [← el2_2]; exact i32_add _ _) (by decide) rfl (fun ls hl => ?_)
      refine lv_goto (tgt := 12) X.1 X.2.1 dX8_behindToken_31 (by decide) ?_
      exact h12  H locs ls l2_2 hP hS hf (lv_sub hl [1, 0] rfl)
theorem al_X8_behindToken_12 {p : Program} {l : Launch} {e : Env} {R : Room} {s : State} {m : MethodId} {args : Array Value} {below : List Frame} {meth : Method} {c : Code} {G : GT} {σ : Mem} {res : Int} (X : CX p R s m args meth c cX8_behindToken 3 RX8 (some FieldType.int) 2 81 G) : ∀ n, S_X8_behindToken_12 (X8_behindToken_L12 σ n) p l e R s m args below meth c G σ res := by
  intro n
  induction n with
  | zero =>
    intro H locs ls l2 hP hS hf hl
    cases hf
  | succ n ih => exact a_X8_behindToken_12 X ih
set_option maxHeartbeats 4000000 in
theorem a_X8_behindToken_0 {p : Program} {l : Launch} {e : Env} {R : Room} {s : State} {m : MethodId} {args : Array Value} {below : List Frame} {meth : Method} {c : Code} {G : GT} {σ : Mem} {res : Int} (X : CX p R s m args meth c cX8_behindToken 3 RX8 (some FieldType.int) 2 81 G) : S_X8_behindToken_0 (X8_behindToken σ) p l e R s m args below meth c G σ res := by
  intro H locs ls l1 hP hS hf hl
  unfold X8_behindToken at hf
  refine lv_iload_n X.1 X.2.1 dX8_behindToken_0 rfl (lv_at hl 1 rfl) ?_
  refine r_iconst X 1 dX8_behindToken_1 ?_
  refine r_iadd X dX8_behindToken_2 ?_
  obtain ⟨l2_1, el2_1, hf⟩ := lt_inv hf
  refine r_eqi el2_1 ?_
  refine lv_istore_n (lv' := [(2, .int (i32 l2_1)), (0, .ref (gh G + 42)), (1, .int (i32 l1))]) X.1 X.2.1 dX8_behindToken_3 rfl hl (by decide) rfl (fun ls hl => ?_)
  refine lv_aload_n X.1 X.2.1 dX8_behindToken_4 rfl (lv_at hl 1 rfl) ?_
  refine lv_iload_n X.1 X.2.1 dX8_behindToken_5 rfl (lv_at hl 2 rfl) ?_
  obtain ⟨r2, hr2, hf⟩ := bd_inv hf
  refine k_X8_isLetter X hP hS hl.1  hr2 (tb t_489 rfl) (by decide) (Nat.le_of_ble_eq_true rfl) dX8_behindToken_6 (fun H locs hP hS => ?_)
  refine r_if_eq (tgt := 34) X dX8_behindToken_9 (by decide) (fun q => ?_) (fun q => ?_)
  · replace hf := it_inv q hf
    refine lv_aload_n X.1 X.2.1 dX8_behindToken_34 rfl (lv_at hl 1 rfl) ?_
    refine lv_iload_n X.1 X.2.1 dX8_behindToken_35 rfl (lv_at hl 2 rfl) ?_
    obtain ⟨r3, hr3, hf⟩ := bd_inv hf
    refine k_X8_isDigit X hP hS hl.1  hr3 (tb t_493 rfl) (by decide) (Nat.le_of_ble_eq_true rfl) dX8_behindToken_36 (fun H locs hP hS => ?_)
    refine r_if_eq (tgt := 64) X dX8_behindToken_39 (by decide) (fun q => ?_) (fun q => ?_)
    · replace hf := it_inv q hf
      refine lv_iload_n X.1 X.2.1 dX8_behindToken_64 rfl (lv_at hl 0 rfl) ?_
      cases so_inv hf
      exact r_iret X hP hS dX8_behindToken_65
    · replace hf := ie_inv q hf
      exact al_X8_behindToken_42 X 5000  H locs ls l2_1 hP hS hf (lv_sub hl [1, 0] rfl)
  · replace hf := ie_inv q hf
    exact al_X8_behindToken_12 X 5000  H locs ls l2_1 hP hS hf (lv_sub hl [1, 0] rfl)
set_option maxHeartbeats 4000000 in
theorem c_X8_behindToken {l : Launch} {G : GT} {σ : Mem} {res : Int} {l1 : Int} (hf : X8_behindToken σ l1 = some res) : CT l yX8_behindToken cX8_behindToken 3 (some FieldType.int) 2 81 G [.ref (gh G + 42), .int (i32 l1)] σ σ (some (.int (i32 res))) := by
  refine CT.mk (own := RX8) (by decide) rfl (Nat.le_of_ble_eq_true rfl) ?_
  intro p e s m below meth c ls X hP hS hl
  have hl : lv_has ls 3 [(0, .ref (gh G + 42)), (1, .int (i32 l1))] := hl
  exact a_X8_behindToken_0 X  s.heap [] ls l1 hP hS hf hl
theorem k_X8_behindToken {p : Program} {l : Launch} {e : Env} {R : Room} {s : State} {m : MethodId} {args : Array Value} {below : List Frame} {meth : Method} {c : Code} {H : Heap} {locs : List Loc} {Q : State → Prop} {cc : ByteArray} {nL : Nat} {own : String} {ret : Option FieldType} {fF fL : Nat} {G : GT} {pc idx : Nat} {ls : Array Slot} {rest : List Value} {σ : Mem} {res : Int} {l1 : Int} (X : CX p R s m args meth c cc nL own ret fF fL G) (hP : PW G σ H) (hS : va_S (AA G) s.heap H locs) (hls : ls.size = nL) (hf : X8_behindToken σ l1 = some res) (h1 : Cond.methodLink own idx yX8_behindToken ∈ TB) (hR : 2 + 1 ≤ fF ∧ 8 + (3 + 11) + 81 ≤ fL) (hW : (rest.map fun v => v.category).sum ≤ 8) (hd : decode cc pc = .ok (.invokevirtual idx, 3)) (kk : ∀ (H1 : Heap) (locs1 : List Loc), PW G σ H1 → va_S (AA G) s.heap H1 locs1 → W p l e R s m args below meth c H1 locs1 0 0 Q (F0 m (pc + 3) ls (.int (i32 res) :: rest))) : W p l e R s m args below meth c H locs 0 0 Q (F0 m pc ls (.int (i32 l1) :: .ref (gh G + 42) :: rest)) := r_callV (n := 1) X hP hS hls (c_X8_behindToken hf) h1 (tb t_487 rfl) (tb t_4 rfl) (tb t_81 rfl) (tb t_488 rfl) (by decide +kernel) hR (r_recv X hP (kd_lt ks_8 (by decide)) (cE_8 ks_8) rfl) rfl rfl hW hd kk
/-! X8_spells -/
theorem dX8_spells_0 : decode cX8_spells 0 = .ok (.iload_n 2, 1) := by decide +kernel
theorem dX8_spells_1 : decode cX8_spells 1 = .ok (.iload_n 1, 1) := by decide +kernel
theorem dX8_spells_2 : decode cX8_spells 2 = .ok (.isub, 1) := by decide +kernel
theorem dX8_spells_3 : decode cX8_spells 3 = .ok (.aload_n 3, 1) := by decide +kernel
theorem dX8_spells_4 : decode cX8_spells 4 = .ok (.invokevirtual 83, 3) := by decide +kernel
theorem dX8_spells_7 : decode cX8_spells 7 = .ok (.if_icmp .eq 5, 3) := by decide +kernel
theorem dX8_spells_10 : decode cX8_spells 10 = .ok (.iconst 0, 1) := by decide +kernel
theorem dX8_spells_11 : decode cX8_spells 11 = .ok (.ireturn, 1) := by decide +kernel
theorem dX8_spells_12 : decode cX8_spells 12 = .ok (.iconst 0, 1) := by decide +kernel
theorem dX8_spells_13 : decode cX8_spells 13 = .ok (.istore 4, 2) := by decide +kernel
theorem dX8_spells_15 : decode cX8_spells 15 = .ok (.iload 4, 2) := by decide +kernel
theorem dX8_spells_17 : decode cX8_spells 17 = .ok (.aload_n 3, 1) := by decide +kernel
theorem dX8_spells_18 : decode cX8_spells 18 = .ok (.invokevirtual 83, 3) := by decide +kernel
theorem dX8_spells_21 : decode cX8_spells 21 = .ok (.if_icmp .ge 29, 3) := by decide +kernel
theorem dX8_spells_24 : decode cX8_spells 24 = .ok (.aload_n 0, 1) := by decide +kernel
theorem dX8_spells_25 : decode cX8_spells 25 = .ok (.getfield 9, 3) := by decide +kernel
theorem dX8_spells_28 : decode cX8_spells 28 = .ok (.iload_n 1, 1) := by decide +kernel
theorem dX8_spells_29 : decode cX8_spells 29 = .ok (.iload 4, 2) := by decide +kernel
theorem dX8_spells_31 : decode cX8_spells 31 = .ok (.iadd, 1) := by decide +kernel
theorem dX8_spells_32 : decode cX8_spells 32 = .ok (.baload, 1) := by decide +kernel
theorem dX8_spells_33 : decode cX8_spells 33 = .ok (.aload_n 3, 1) := by decide +kernel
theorem dX8_spells_34 : decode cX8_spells 34 = .ok (.iload 4, 2) := by decide +kernel
theorem dX8_spells_36 : decode cX8_spells 36 = .ok (.invokevirtual 88, 3) := by decide +kernel
theorem dX8_spells_39 : decode cX8_spells 39 = .ok (.if_icmp .eq 5, 3) := by decide +kernel
theorem dX8_spells_42 : decode cX8_spells 42 = .ok (.iconst 0, 1) := by decide +kernel
theorem dX8_spells_43 : decode cX8_spells 43 = .ok (.ireturn, 1) := by decide +kernel
theorem dX8_spells_44 : decode cX8_spells 44 = .ok (.iinc 4 1, 3) := by decide +kernel
theorem dX8_spells_47 : decode cX8_spells 47 = .ok (.goto (-32), 3) := by decide +kernel
theorem dX8_spells_50 : decode cX8_spells 50 = .ok (.iconst 1, 1) := by decide +kernel
theorem dX8_spells_51 : decode cX8_spells 51 = .ok (.ireturn, 1) := by decide +kernel
def S_X8_spells_15 (fn : Int → Nat → Int → Option (Int)) (p : Program) (l : Launch) (e : Env) (R : Room) (s : State) (m : MethodId) (args : Array Value) (below : List Frame) (meth : Method) (c : Code) (G : GT) (σ : Mem) (res : Int) : Prop := ∀ (H : Heap) (locs : List Loc) (ls : Array Slot) (l1 : Int) (l3 : Nat) (l4 : Int), l3 < 7 → PW G σ H → va_S (AA G) s.heap H locs → fn l1 l3 l4 = some res → lv_has ls 5 [(0, .ref (gh G + 42)), (1, .int (i32 l1)), (3, .ref (gt G (10 + l3))), (4, .int (i32 l4))] → W p l e R s m args below meth c H locs 0 0 (MQ below (QM G (some (.int (i32 res))) σ) args s 0 0 (AA G)) (F0 m 15 ls [])
def X8_spells_B15 (rec15 : Int → Nat → Int → Option (Int)) (σ : Mem) (l1 : Int) (l3 : Nat) (l4 : Int) : Option (Int) :=
  if w32 (sln l3) ≤ w32 l4 then
    some 1
  else
  ag 120 (l1 + l4) fun j1 =>
  ag (sLen.getD l3 0) l4 fun j2 =>
  if w32 (σ 43 j1) = w32 (sch l3 j2) then
    lt (l4 + 1) fun l4_3 =>
    rec15 l1 l3 l4_3
  else
  some 0
def X8_spells_L15 (σ : Mem) : Nat → Int → Nat → Int → Option (Int)
  | 0 => fun _ _ _ => none
  | n + 1 => X8_spells_B15 (X8_spells_L15 σ n) σ
def X8_spells (σ : Mem) (l1 : Int) (l2 : Int) (l3 : Nat) : Option (Int) :=
  if w32 (l2 - l1) = w32 (sln l3) then
    X8_spells_L15 σ 5000 l1 l3 0
  else
  some 0
def S_X8_spells_0 (fn : Int → Int → Nat → Option (Int)) (p : Program) (l : Launch) (e : Env) (R : Room) (s : State) (m : MethodId) (args : Array Value) (below : List Frame) (meth : Method) (c : Code) (G : GT) (σ : Mem) (res : Int) : Prop := ∀ (H : Heap) (locs : List Loc) (ls : Array Slot) (l1 : Int) (l2 : Int) (l3 : Nat), l3 < 7 → PW G σ H → va_S (AA G) s.heap H locs → fn l1 l2 l3 = some res → lv_has ls 5 [(0, .ref (gh G + 42)), (1, .int (i32 l1)), (2, .int (i32 l2)), (3, .ref (gt G (10 + l3)))] → W p l e R s m args below meth c H locs 0 0 (MQ below (QM G (some (.int (i32 res))) σ) args s 0 0 (AA G)) (F0 m 0 ls [])
set_option maxHeartbeats 4000000 in
theorem a_X8_spells_15 {p : Program} {l : Launch} {e : Env} {R : Room} {s : State} {m : MethodId} {args : Array Value} {below : List Frame} {meth : Method} {c : Code} {G : GT} {σ : Mem} {res : Int} {rec15 : Int → Nat → Int → Option (Int)} (X : CX p R s m args meth c cX8_spells 5 RX8 (some FieldType.boolean) 6 300 G) (h15 : S_X8_spells_15 rec15 p l e R s m args below meth c G σ res) : S_X8_spells_15 (X8_spells_B15 rec15 σ) p l e R s m args below meth c G σ res := by
  intro H locs ls l1 l3 l4 hk_l3 hP hS hf hl
  unfold X8_spells_B15 at hf
  refine lv_iload X.1 X.2.1 dX8_spells_15 (lv_at hl 3 rfl) ?_
  refine lv_aload_n X.1 X.2.1 dX8_spells_17 rfl (lv_at hl 2 rfl) ?_
  refine r_slen X hP hS hl.1 hk_l3 (tb t_510 rfl) (by decide) (Nat.le_of_ble_eq_true rfl) dX8_spells_18 (fun H locs hP hS => ?_)
  refine r_icmp_ge (tgt := 50) X dX8_spells_21 (by decide) (fun q => ?_) (fun q => ?_)
  · replace hf := it_inv q hf
    refine r_iconst X 1 dX8_spells_50 ?_
    cases so_inv hf
    exact r_zret X hP hS (Or.inr rfl) dX8_spells_51
  · replace hf := ie_inv q hf
    refine lv_aload_n X.1 X.2.1 dX8_spells_24 rfl (lv_at hl 0 rfl) ?_
    refine g_8_0 (r := 43) X hP ks_8 rfl (tb t_194 rfl) dX8_spells_25 ?_
    refine lv_iload_n X.1 X.2.1 dX8_spells_28 rfl (lv_at hl 1 rfl) ?_
    refine lv_iload X.1 X.2.1 dX8_spells_29 (lv_at hl 3 rfl) ?_
    refine r_iadd X dX8_spells_31 ?_
    obtain ⟨j1, hij1, hjj1, hlj1, hf⟩ := ag_inv hf
    refine r_bald X hP (ch_8_0 ks_8).1 (ch_8_0 ks_8).2 hij1 hjj1 dX8_spells_32 ?_
    refine lv_aload_n X.1 X.2.1 dX8_spells_33 rfl (lv_at hl 2 rfl) ?_
    refine lv_iload X.1 X.2.1 dX8_spells_34 (lv_at hl 3 rfl) ?_
    obtain ⟨j2, hij2, hjj2, hlj2, hf⟩ := ag_inv hf
    refine r_schar X hP hS hl.1 hk_l3 hij2 hjj2 (tb t_520 rfl) (by decide) (Nat.le_of_ble_eq_true rfl) dX8_spells_36 (fun H locs hP hS => ?_)
    refine r_icmp_eq (tgt := 44) X dX8_spells_39 (by decide) (fun q => ?_) (fun q => ?_)
    · replace hf := it_inv q hf
      obtain ⟨l4_3, el4_3, hf⟩ := lt_inv hf
      refine lv_iinc (v := i32 l4_3) (lv' := [(4, .int (i32 l4_3)), (0, .ref (gh G + 42)), (1, .int (i32 l1)), (3, .ref (gt G (10 + l3)))]) X.1 X.2.1 dX8_spells_44 hl (k := 3) rfl (by rw [← el4_3]; exact i32_add _ _) (by decide) rfl (fun ls hl => ?_)
      refine lv_goto (tgt := 15) X.1 X.2.1 dX8_spells_47 (by decide) ?_
      exact h15  H locs ls l1 l3 l4_3 hk_l3 hP hS hf (lv_sub hl [1, 2, 3, 0] rfl)
    · replace hf := ie_inv q hf
      refine r_iconst X 0 dX8_spells_42 ?_
      cases so_inv hf
      exact r_zret X hP hS (Or.inl rfl) dX8_spells_43
theorem al_X8_spells_15 {p : Program} {l : Launch} {e : Env} {R : Room} {s : State} {m : MethodId} {args : Array Value} {below : List Frame} {meth : Method} {c : Code} {G : GT} {σ : Mem} {res : Int} (X : CX p R s m args meth c cX8_spells 5 RX8 (some FieldType.boolean) 6 300 G) : ∀ n, S_X8_spells_15 (X8_spells_L15 σ n) p l e R s m args below meth c G σ res := by
  intro n
  induction n with
  | zero =>
    intro H locs ls l1 l3 l4 hk_l3 hP hS hf hl
    cases hf
  | succ n ih => exact a_X8_spells_15 X ih
set_option maxHeartbeats 4000000 in
theorem a_X8_spells_0 {p : Program} {l : Launch} {e : Env} {R : Room} {s : State} {m : MethodId} {args : Array Value} {below : List Frame} {meth : Method} {c : Code} {G : GT} {σ : Mem} {res : Int} (X : CX p R s m args meth c cX8_spells 5 RX8 (some FieldType.boolean) 6 300 G) : S_X8_spells_0 (X8_spells σ) p l e R s m args below meth c G σ res := by
  intro H locs ls l1 l2 l3 hk_l3 hP hS hf hl
  unfold X8_spells at hf
  refine lv_iload_n X.1 X.2.1 dX8_spells_0 rfl (lv_at hl 2 rfl) ?_
  refine lv_iload_n X.1 X.2.1 dX8_spells_1 rfl (lv_at hl 1 rfl) ?_
  refine r_isub X dX8_spells_2 ?_
  refine lv_aload_n X.1 X.2.1 dX8_spells_3 rfl (lv_at hl 3 rfl) ?_
  refine r_slen X hP hS hl.1 hk_l3 (tb t_510 rfl) (by decide) (Nat.le_of_ble_eq_true rfl) dX8_spells_4 (fun H locs hP hS => ?_)
  refine r_icmp_eq (tgt := 12) X dX8_spells_7 (by decide) (fun q => ?_) (fun q => ?_)
  · replace hf := it_inv q hf
    refine r_iconst X 0 dX8_spells_12 ?_
    refine lv_istore (lv' := [(4, .int (i32 0)), (0, .ref (gh G + 42)), (1, .int (i32 l1)), (2, .int (i32 l2)), (3, .ref (gt G (10 + l3)))]) X.1 X.2.1 dX8_spells_13 hl (by decide) rfl (fun ls hl => ?_)
    exact al_X8_spells_15 X 5000  H locs ls l1 l3 0 hk_l3 hP hS hf (lv_sub hl [1, 2, 4, 0] rfl)
  · replace hf := ie_inv q hf
    refine r_iconst X 0 dX8_spells_10 ?_
    cases so_inv hf
    exact r_zret X hP hS (Or.inl rfl) dX8_spells_11
set_option maxHeartbeats 4000000 in
theorem c_X8_spells {l : Launch} {G : GT} {σ : Mem} {res : Int} {l1 : Int} {l2 : Int} {l3 : Nat} (hk_l3 : l3 < 7) (hf : X8_spells σ l1 l2 l3 = some res) : CT l yX8_spells cX8_spells 5 (some FieldType.boolean) 6 300 G [.ref (gh G + 42), .int (i32 l1), .int (i32 l2), .ref (gt G (10 + l3))] σ σ (some (.int (i32 res))) := by
  refine CT.mk (own := RX8) (by decide) rfl (Nat.le_of_ble_eq_true rfl) ?_
  intro p e s m below meth c ls X hP hS hl
  have hl : lv_has ls 5 [(0, .ref (gh G + 42)), (1, .int (i32 l1)), (2, .int (i32 l2)), (3, .ref (gt G (10 + l3)))] := hl
  exact a_X8_spells_0 X  s.heap [] ls l1 l2 l3 hk_l3 hP hS hf hl
theorem k_X8_spells {p : Program} {l : Launch} {e : Env} {R : Room} {s : State} {m : MethodId} {args : Array Value} {below : List Frame} {meth : Method} {c : Code} {H : Heap} {locs : List Loc} {Q : State → Prop} {cc : ByteArray} {nL : Nat} {own : String} {ret : Option FieldType} {fF fL : Nat} {G : GT} {pc idx : Nat} {ls : Array Slot} {rest : List Value} {σ : Mem} {res : Int} {l1 : Int} {l2 : Int} {l3 : Nat} (X : CX p R s m args meth c cc nL own ret fF fL G) (hP : PW G σ H) (hS : va_S (AA G) s.heap H locs) (hls : ls.size = nL) (hk_l3 : l3 < 7) (hf : X8_spells σ l1 l2 l3 = some res) (h1 : Cond.methodLink own idx yX8_spells ∈ TB) (hR : 6 + 1 ≤ fF ∧ 8 + (5 + 11) + 300 ≤ fL) (hW : (rest.map fun v => v.category).sum ≤ 8) (hd : decode cc pc = .ok (.invokevirtual idx, 3)) (kk : ∀ (H1 : Heap) (locs1 : List Loc), PW G σ H1 → va_S (AA G) s.heap H1 locs1 → W p l e R s m args below meth c H1 locs1 0 0 Q (F0 m (pc + 3) ls (.int (i32 res) :: rest))) : W p l e R s m args below meth c H locs 0 0 Q (F0 m pc ls (.ref (gt G (10 + l3)) :: .int (i32 l2) :: .int (i32 l1) :: .ref (gh G + 42) :: rest)) := r_callV (n := 3) X hP hS hls (c_X8_spells hk_l3 hf) h1 (tb t_508 rfl) (tb t_9 rfl) (tb t_81 rfl) (tb t_509 rfl) (by decide +kernel) hR (r_recv X hP (kd_lt ks_8 (by decide)) (cE_8 ks_8) rfl) rfl rfl hW hd kk
/-! X8_wordNumber -/
theorem dX8_wordNumber_0 : decode cX8_wordNumber 0 = .ok (.aload_n 0, 1) := by decide +kernel
theorem dX8_wordNumber_1 : decode cX8_wordNumber 1 = .ok (.iload_n 1, 1) := by decide +kernel
theorem dX8_wordNumber_2 : decode cX8_wordNumber 2 = .ok (.iload_n 2, 1) := by decide +kernel
theorem dX8_wordNumber_3 : decode cX8_wordNumber 3 = .ok (.ldc 65, 2) := by decide +kernel
theorem dX8_wordNumber_5 : decode cX8_wordNumber 5 = .ok (.invokevirtual 67, 3) := by decide +kernel
theorem dX8_wordNumber_8 : decode cX8_wordNumber 8 = .ok (.ifCond .eq 5, 3) := by decide +kernel
theorem dX8_wordNumber_11 : decode cX8_wordNumber 11 = .ok (.iconst 0, 1) := by decide +kernel
theorem dX8_wordNumber_12 : decode cX8_wordNumber 12 = .ok (.ireturn, 1) := by decide +kernel
theorem dX8_wordNumber_13 : decode cX8_wordNumber 13 = .ok (.aload_n 0, 1) := by decide +kernel
theorem dX8_wordNumber_14 : decode cX8_wordNumber 14 = .ok (.iload_n 1, 1) := by decide +kernel
theorem dX8_wordNumber_15 : decode cX8_wordNumber 15 = .ok (.iload_n 2, 1) := by decide +kernel
theorem dX8_wordNumber_16 : decode cX8_wordNumber 16 = .ok (.ldc 71, 2) := by decide +kernel
theorem dX8_wordNumber_18 : decode cX8_wordNumber 18 = .ok (.invokevirtual 67, 3) := by decide +kernel
theorem dX8_wordNumber_21 : decode cX8_wordNumber 21 = .ok (.ifCond .eq 5, 3) := by decide +kernel
theorem dX8_wordNumber_24 : decode cX8_wordNumber 24 = .ok (.iconst 1, 1) := by decide +kernel
theorem dX8_wordNumber_25 : decode cX8_wordNumber 25 = .ok (.ireturn, 1) := by decide +kernel
theorem dX8_wordNumber_26 : decode cX8_wordNumber 26 = .ok (.aload_n 0, 1) := by decide +kernel
theorem dX8_wordNumber_27 : decode cX8_wordNumber 27 = .ok (.iload_n 1, 1) := by decide +kernel
theorem dX8_wordNumber_28 : decode cX8_wordNumber 28 = .ok (.iload_n 2, 1) := by decide +kernel
theorem dX8_wordNumber_29 : decode cX8_wordNumber 29 = .ok (.ldc 73, 2) := by decide +kernel
theorem dX8_wordNumber_31 : decode cX8_wordNumber 31 = .ok (.invokevirtual 67, 3) := by decide +kernel
theorem dX8_wordNumber_34 : decode cX8_wordNumber 34 = .ok (.ifCond .eq 5, 3) := by decide +kernel
theorem dX8_wordNumber_37 : decode cX8_wordNumber 37 = .ok (.iconst 2, 1) := by decide +kernel
theorem dX8_wordNumber_38 : decode cX8_wordNumber 38 = .ok (.ireturn, 1) := by decide +kernel
theorem dX8_wordNumber_39 : decode cX8_wordNumber 39 = .ok (.aload_n 0, 1) := by decide +kernel
theorem dX8_wordNumber_40 : decode cX8_wordNumber 40 = .ok (.iload_n 1, 1) := by decide +kernel
theorem dX8_wordNumber_41 : decode cX8_wordNumber 41 = .ok (.iload_n 2, 1) := by decide +kernel
theorem dX8_wordNumber_42 : decode cX8_wordNumber 42 = .ok (.ldc 75, 2) := by decide +kernel
theorem dX8_wordNumber_44 : decode cX8_wordNumber 44 = .ok (.invokevirtual 67, 3) := by decide +kernel
theorem dX8_wordNumber_47 : decode cX8_wordNumber 47 = .ok (.ifCond .eq 5, 3) := by decide +kernel
theorem dX8_wordNumber_50 : decode cX8_wordNumber 50 = .ok (.iconst 3, 1) := by decide +kernel
theorem dX8_wordNumber_51 : decode cX8_wordNumber 51 = .ok (.ireturn, 1) := by decide +kernel
theorem dX8_wordNumber_52 : decode cX8_wordNumber 52 = .ok (.aload_n 0, 1) := by decide +kernel
theorem dX8_wordNumber_53 : decode cX8_wordNumber 53 = .ok (.iload_n 1, 1) := by decide +kernel
theorem dX8_wordNumber_54 : decode cX8_wordNumber 54 = .ok (.iload_n 2, 1) := by decide +kernel
theorem dX8_wordNumber_55 : decode cX8_wordNumber 55 = .ok (.ldc 77, 2) := by decide +kernel
theorem dX8_wordNumber_57 : decode cX8_wordNumber 57 = .ok (.invokevirtual 67, 3) := by decide +kernel
theorem dX8_wordNumber_60 : decode cX8_wordNumber 60 = .ok (.ifCond .eq 5, 3) := by decide +kernel
theorem dX8_wordNumber_63 : decode cX8_wordNumber 63 = .ok (.iconst 4, 1) := by decide +kernel
theorem dX8_wordNumber_64 : decode cX8_wordNumber 64 = .ok (.ireturn, 1) := by decide +kernel
theorem dX8_wordNumber_65 : decode cX8_wordNumber 65 = .ok (.aload_n 0, 1) := by decide +kernel
theorem dX8_wordNumber_66 : decode cX8_wordNumber 66 = .ok (.iload_n 1, 1) := by decide +kernel
theorem dX8_wordNumber_67 : decode cX8_wordNumber 67 = .ok (.iload_n 2, 1) := by decide +kernel
theorem dX8_wordNumber_68 : decode cX8_wordNumber 68 = .ok (.ldc 79, 2) := by decide +kernel
theorem dX8_wordNumber_70 : decode cX8_wordNumber 70 = .ok (.invokevirtual 67, 3) := by decide +kernel
theorem dX8_wordNumber_73 : decode cX8_wordNumber 73 = .ok (.ifCond .eq 5, 3) := by decide +kernel
theorem dX8_wordNumber_76 : decode cX8_wordNumber 76 = .ok (.iconst 5, 1) := by decide +kernel
theorem dX8_wordNumber_77 : decode cX8_wordNumber 77 = .ok (.ireturn, 1) := by decide +kernel
theorem dX8_wordNumber_78 : decode cX8_wordNumber 78 = .ok (.aload_n 0, 1) := by decide +kernel
theorem dX8_wordNumber_79 : decode cX8_wordNumber 79 = .ok (.iload_n 1, 1) := by decide +kernel
theorem dX8_wordNumber_80 : decode cX8_wordNumber 80 = .ok (.iload_n 2, 1) := by decide +kernel
theorem dX8_wordNumber_81 : decode cX8_wordNumber 81 = .ok (.ldc 81, 2) := by decide +kernel
theorem dX8_wordNumber_83 : decode cX8_wordNumber 83 = .ok (.invokevirtual 67, 3) := by decide +kernel
theorem dX8_wordNumber_86 : decode cX8_wordNumber 86 = .ok (.ifCond .eq 8, 3) := by decide +kernel
theorem dX8_wordNumber_89 : decode cX8_wordNumber 89 = .ok (.bipush 6, 2) := by decide +kernel
theorem dX8_wordNumber_91 : decode cX8_wordNumber 91 = .ok (.goto 5, 3) := by decide +kernel
theorem dX8_wordNumber_94 : decode cX8_wordNumber 94 = .ok (.bipush 7, 2) := by decide +kernel
theorem dX8_wordNumber_96 : decode cX8_wordNumber 96 = .ok (.ireturn, 1) := by decide +kernel
def X8_wordNumber (σ : Mem) (l1 : Int) (l2 : Int) : Option (Int) :=
  bd (X8_spells σ l1 l2 0) fun r1 =>
  if w32 r1 = 0 then
    bd (X8_spells σ l1 l2 1) fun r2 =>
    if w32 r2 = 0 then
      bd (X8_spells σ l1 l2 2) fun r3 =>
      if w32 r3 = 0 then
        bd (X8_spells σ l1 l2 3) fun r4 =>
        if w32 r4 = 0 then
          bd (X8_spells σ l1 l2 4) fun r5 =>
          if w32 r5 = 0 then
            bd (X8_spells σ l1 l2 5) fun r6 =>
            if w32 r6 = 0 then
              bd (X8_spells σ l1 l2 6) fun r7 =>
              if w32 r7 = 0 then
                some 7
              else
              some 6
            else
            some 5
          else
          some 4
        else
        some 3
      else
      some 2
    else
    some 1
  else
  some 0
def S_X8_wordNumber_0 (fn : Int → Int → Option (Int)) (p : Program) (l : Launch) (e : Env) (R : Room) (s : State) (m : MethodId) (args : Array Value) (below : List Frame) (meth : Method) (c : Code) (G : GT) (σ : Mem) (res : Int) : Prop := ∀ (H : Heap) (locs : List Loc) (ls : Array Slot) (l1 : Int) (l2 : Int), PW G σ H → va_S (AA G) s.heap H locs → fn l1 l2 = some res → lv_has ls 3 [(0, .ref (gh G + 42)), (1, .int (i32 l1)), (2, .int (i32 l2))] → W p l e R s m args below meth c H locs 0 0 (MQ below (QM G (some (.int (i32 res))) σ) args s 0 0 (AA G)) (F0 m 0 ls [])
set_option maxHeartbeats 4000000 in
theorem a_X8_wordNumber_0 {p : Program} {l : Launch} {e : Env} {R : Room} {s : State} {m : MethodId} {args : Array Value} {below : List Frame} {meth : Method} {c : Code} {G : GT} {σ : Mem} {res : Int} (X : CX p R s m args meth c cX8_wordNumber 3 RX8 (some FieldType.int) 7 324 G) : S_X8_wordNumber_0 (X8_wordNumber σ) p l e R s m args below meth c G σ res := by
  intro H locs ls l1 l2 hP hS hf hl
  unfold X8_wordNumber at hf
  refine lv_aload_n X.1 X.2.1 dX8_wordNumber_0 rfl (lv_at hl 0 rfl) ?_
  refine lv_iload_n X.1 X.2.1 dX8_wordNumber_1 rfl (lv_at hl 1 rfl) ?_
  refine lv_iload_n X.1 X.2.1 dX8_wordNumber_2 rfl (lv_at hl 2 rfl) ?_
  refine va_ldcS X.1 X.2.1 X.ow (X.S.2.2.2.2.1 0 (by decide)) dX8_wordNumber_3 ?_
  obtain ⟨r1, hr1, hf⟩ := bd_inv hf
  refine k_X8_spells X hP hS hl.1 (by decide : 0 < 7) hr1 (tb t_506 rfl) (by decide) (Nat.le_of_ble_eq_true rfl) dX8_wordNumber_5 (fun H locs hP hS => ?_)
  refine r_if_eq (tgt := 13) X dX8_wordNumber_8 (by decide) (fun q => ?_) (fun q => ?_)
  · replace hf := it_inv q hf
    refine lv_aload_n X.1 X.2.1 dX8_wordNumber_13 rfl (lv_at hl 0 rfl) ?_
    refine lv_iload_n X.1 X.2.1 dX8_wordNumber_14 rfl (lv_at hl 1 rfl) ?_
    refine lv_iload_n X.1 X.2.1 dX8_wordNumber_15 rfl (lv_at hl 2 rfl) ?_
    refine va_ldcS X.1 X.2.1 X.ow (X.S.2.2.2.2.1 1 (by decide)) dX8_wordNumber_16 ?_
    obtain ⟨r2, hr2, hf⟩ := bd_inv hf
    refine k_X8_spells X hP hS hl.1 (by decide : 1 < 7) hr2 (tb t_506 rfl) (by decide) (Nat.le_of_ble_eq_true rfl) dX8_wordNumber_18 (fun H locs hP hS => ?_)
    refine r_if_eq (tgt := 26) X dX8_wordNumber_21 (by decide) (fun q => ?_) (fun q => ?_)
    · replace hf := it_inv q hf
      refine lv_aload_n X.1 X.2.1 dX8_wordNumber_26 rfl (lv_at hl 0 rfl) ?_
      refine lv_iload_n X.1 X.2.1 dX8_wordNumber_27 rfl (lv_at hl 1 rfl) ?_
      refine lv_iload_n X.1 X.2.1 dX8_wordNumber_28 rfl (lv_at hl 2 rfl) ?_
      refine va_ldcS X.1 X.2.1 X.ow (X.S.2.2.2.2.1 2 (by decide)) dX8_wordNumber_29 ?_
      obtain ⟨r3, hr3, hf⟩ := bd_inv hf
      refine k_X8_spells X hP hS hl.1 (by decide : 2 < 7) hr3 (tb t_506 rfl) (by decide) (Nat.le_of_ble_eq_true rfl) dX8_wordNumber_31 (fun H locs hP hS => ?_)
      refine r_if_eq (tgt := 39) X dX8_wordNumber_34 (by decide) (fun q => ?_) (fun q => ?_)
      · replace hf := it_inv q hf
        refine lv_aload_n X.1 X.2.1 dX8_wordNumber_39 rfl (lv_at hl 0 rfl) ?_
        refine lv_iload_n X.1 X.2.1 dX8_wordNumber_40 rfl (lv_at hl 1 rfl) ?_
        refine lv_iload_n X.1 X.2.1 dX8_wordNumber_41 rfl (lv_at hl 2 rfl) ?_
        refine va_ldcS X.1 X.2.1 X.ow (X.S.2.2.2.2.1 3 (by decide)) dX8_wordNumber_42 ?_
        obtain ⟨r4, hr4, hf⟩ := bd_inv hf
        refine k_X8_spells X hP hS hl.1 (by decide : 3 < 7) hr4 (tb t_506 rfl) (by decide) (Nat.le_of_ble_eq_true rfl) dX8_wordNumber_44 (fun H locs hP hS => ?_)
        refine r_if_eq (tgt := 52) X dX8_wordNumber_47 (by decide) (fun q => ?_) (fun q => ?_)
        · replace hf := it_inv q hf
          refine lv_aload_n X.1 X.2.1 dX8_wordNumber_52 rfl (lv_at hl 0 rfl) ?_
          refine lv_iload_n X.1 X.2.1 dX8_wordNumber_53 rfl (lv_at hl 1 rfl) ?_
          refine lv_iload_n X.1 X.2.1 dX8_wordNumber_54 rfl (lv_at hl 2 rfl) ?_
          refine va_ldcS X.1 X.2.1 X.ow (X.S.2.2.2.2.1 4 (by decide)) dX8_wordNumber_55 ?_
          obtain ⟨r5, hr5, hf⟩ := bd_inv hf
          refine k_X8_spells X hP hS hl.1 (by decide : 4 < 7) hr5 (tb t_506 rfl) (by decide) (Nat.le_of_ble_eq_true rfl) dX8_wordNumber_57 (fun H locs hP hS => ?_)
          refine r_if_eq (tgt := 65) X dX8_wordNumber_60 (by decide) (fun q => ?_) (fun q => ?_)
          · replace hf := it_inv q hf
            refine lv_aload_n X.1 X.2.1 dX8_wordNumber_65 rfl (lv_at hl 0 rfl) ?_
            refine lv_iload_n X.1 X.2.1 dX8_wordNumber_66 rfl (lv_at hl 1 rfl) ?_
            refine lv_iload_n X.1 X.2.1 dX8_wordNumber_67 rfl (lv_at hl 2 rfl) ?_
            refine va_ldcS X.1 X.2.1 X.ow (X.S.2.2.2.2.1 5 (by decide)) dX8_wordNumber_68 ?_
            obtain ⟨r6, hr6, hf⟩ := bd_inv hf
            refine k_X8_spells X hP hS hl.1 (by decide : 5 < 7) hr6 (tb t_506 rfl) (by decide) (Nat.le_of_ble_eq_true rfl) dX8_wordNumber_70 (fun H locs hP hS => ?_)
            refine r_if_eq (tgt := 78) X dX8_wordNumber_73 (by decide) (fun q => ?_) (fun q => ?_)
            · replace hf := it_inv q hf
              refine lv_aload_n X.1 X.2.1 dX8_wordNumber_78 rfl (lv_at hl 0 rfl) ?_
              refine lv_iload_n X.1 X.2.1 dX8_wordNumber_79 rfl (lv_at hl 1 rfl) ?_
              refine lv_iload_n X.1 X.2.1 dX8_wordNumber_80 rfl (lv_at hl 2 rfl) ?_
              refine va_ldcS X.1 X.2.1 X.ow (X.S.2.2.2.2.1 6 (by decide)) dX8_wordNumber_81 ?_
              obtain ⟨r7, hr7, hf⟩ := bd_inv hf
              refine k_X8_spells X hP hS hl.1 (by decide : 6 < 7) hr7 (tb t_506 rfl) (by decide) (Nat.le_of_ble_eq_true rfl) dX8_wordNumber_83 (fun H locs hP hS => ?_)
              refine r_if_eq (tgt := 94) X dX8_wordNumber_86 (by decide) (fun q => ?_) (fun q => ?_)
              · replace hf := it_inv q hf
                refine r_bipush X 7 (by decide) dX8_wordNumber_94 ?_
                cases so_inv hf
                exact r_iret X hP hS dX8_wordNumber_96
              · replace hf := ie_inv q hf
                refine r_bipush X 6 (by decide) dX8_wordNumber_89 ?_
                refine lv_goto (tgt := 96) X.1 X.2.1 dX8_wordNumber_91 (by decide) ?_
                cases so_inv hf
                exact r_iret X hP hS dX8_wordNumber_96
            · replace hf := ie_inv q hf
              refine r_iconst X 5 dX8_wordNumber_76 ?_
              cases so_inv hf
              exact r_iret X hP hS dX8_wordNumber_77
          · replace hf := ie_inv q hf
            refine r_iconst X 4 dX8_wordNumber_63 ?_
            cases so_inv hf
            exact r_iret X hP hS dX8_wordNumber_64
        · replace hf := ie_inv q hf
          refine r_iconst X 3 dX8_wordNumber_50 ?_
          cases so_inv hf
          exact r_iret X hP hS dX8_wordNumber_51
      · replace hf := ie_inv q hf
        refine r_iconst X 2 dX8_wordNumber_37 ?_
        cases so_inv hf
        exact r_iret X hP hS dX8_wordNumber_38
    · replace hf := ie_inv q hf
      refine r_iconst X 1 dX8_wordNumber_24 ?_
      cases so_inv hf
      exact r_iret X hP hS dX8_wordNumber_25
  · replace hf := ie_inv q hf
    refine r_iconst X 0 dX8_wordNumber_11 ?_
    cases so_inv hf
    exact r_iret X hP hS dX8_wordNumber_12
set_option maxHeartbeats 4000000 in
theorem c_X8_wordNumber {l : Launch} {G : GT} {σ : Mem} {res : Int} {l1 : Int} {l2 : Int} (hf : X8_wordNumber σ l1 l2 = some res) : CT l yX8_wordNumber cX8_wordNumber 3 (some FieldType.int) 7 324 G [.ref (gh G + 42), .int (i32 l1), .int (i32 l2)] σ σ (some (.int (i32 res))) := by
  refine CT.mk (own := RX8) (by decide) rfl (Nat.le_of_ble_eq_true rfl) ?_
  intro p e s m below meth c ls X hP hS hl
  have hl : lv_has ls 3 [(0, .ref (gh G + 42)), (1, .int (i32 l1)), (2, .int (i32 l2))] := hl
  exact a_X8_wordNumber_0 X  s.heap [] ls l1 l2 hP hS hf hl
theorem k_X8_wordNumber {p : Program} {l : Launch} {e : Env} {R : Room} {s : State} {m : MethodId} {args : Array Value} {below : List Frame} {meth : Method} {c : Code} {H : Heap} {locs : List Loc} {Q : State → Prop} {cc : ByteArray} {nL : Nat} {own : String} {ret : Option FieldType} {fF fL : Nat} {G : GT} {pc idx : Nat} {ls : Array Slot} {rest : List Value} {σ : Mem} {res : Int} {l1 : Int} {l2 : Int} (X : CX p R s m args meth c cc nL own ret fF fL G) (hP : PW G σ H) (hS : va_S (AA G) s.heap H locs) (hls : ls.size = nL) (hf : X8_wordNumber σ l1 l2 = some res) (h1 : Cond.methodLink own idx yX8_wordNumber ∈ TB) (hR : 7 + 1 ≤ fF ∧ 8 + (3 + 11) + 324 ≤ fL) (hW : (rest.map fun v => v.category).sum ≤ 8) (hd : decode cc pc = .ok (.invokevirtual idx, 3)) (kk : ∀ (H1 : Heap) (locs1 : List Loc), PW G σ H1 → va_S (AA G) s.heap H1 locs1 → W p l e R s m args below meth c H1 locs1 0 0 Q (F0 m (pc + 3) ls (.int (i32 res) :: rest))) : W p l e R s m args below meth c H locs 0 0 Q (F0 m pc ls (.int (i32 l2) :: .int (i32 l1) :: .ref (gh G + 42) :: rest)) := r_callV (n := 2) X hP hS hls (c_X8_wordNumber hf) h1 (tb t_503 rfl) (tb t_8 rfl) (tb t_81 rfl) (tb t_504 rfl) (by decide +kernel) hR (r_recv X hP (kd_lt ks_8 (by decide)) (cE_8 ks_8) rfl) rfl rfl hW hd kk
/-! X8_numberValue -/
theorem dX8_numberValue_0 : decode cX8_numberValue 0 = .ok (.iconst 0, 1) := by decide +kernel
theorem dX8_numberValue_1 : decode cX8_numberValue 1 = .ok (.istore_n 3, 1) := by decide +kernel
theorem dX8_numberValue_2 : decode cX8_numberValue 2 = .ok (.iload_n 1, 1) := by decide +kernel
theorem dX8_numberValue_3 : decode cX8_numberValue 3 = .ok (.istore 4, 2) := by decide +kernel
theorem dX8_numberValue_5 : decode cX8_numberValue 5 = .ok (.iload 4, 2) := by decide +kernel
theorem dX8_numberValue_7 : decode cX8_numberValue 7 = .ok (.iload_n 2, 1) := by decide +kernel
theorem dX8_numberValue_8 : decode cX8_numberValue 8 = .ok (.if_icmp .ge 31, 3) := by decide +kernel
theorem dX8_numberValue_11 : decode cX8_numberValue 11 = .ok (.sipush 10000, 3) := by decide +kernel
theorem dX8_numberValue_14 : decode cX8_numberValue 14 = .ok (.iload_n 3, 1) := by decide +kernel
theorem dX8_numberValue_15 : decode cX8_numberValue 15 = .ok (.bipush 10, 2) := by decide +kernel
theorem dX8_numberValue_17 : decode cX8_numberValue 17 = .ok (.imul, 1) := by decide +kernel
theorem dX8_numberValue_18 : decode cX8_numberValue 18 = .ok (.aload_n 0, 1) := by decide +kernel
theorem dX8_numberValue_19 : decode cX8_numberValue 19 = .ok (.getfield 9, 3) := by decide +kernel
theorem dX8_numberValue_22 : decode cX8_numberValue 22 = .ok (.iload 4, 2) := by decide +kernel
theorem dX8_numberValue_24 : decode cX8_numberValue 24 = .ok (.baload, 1) := by decide +kernel
theorem dX8_numberValue_25 : decode cX8_numberValue 25 = .ok (.iadd, 1) := by decide +kernel
theorem dX8_numberValue_26 : decode cX8_numberValue 26 = .ok (.bipush 48, 2) := by decide +kernel
theorem dX8_numberValue_28 : decode cX8_numberValue 28 = .ok (.isub, 1) := by decide +kernel
theorem dX8_numberValue_29 : decode cX8_numberValue 29 = .ok (.invokestatic 60, 3) := by decide +kernel
theorem dX8_numberValue_32 : decode cX8_numberValue 32 = .ok (.istore_n 3, 1) := by decide +kernel
theorem dX8_numberValue_33 : decode cX8_numberValue 33 = .ok (.iinc 4 1, 3) := by decide +kernel
theorem dX8_numberValue_36 : decode cX8_numberValue 36 = .ok (.goto (-31), 3) := by decide +kernel
theorem dX8_numberValue_39 : decode cX8_numberValue 39 = .ok (.iload_n 3, 1) := by decide +kernel
theorem dX8_numberValue_40 : decode cX8_numberValue 40 = .ok (.ireturn, 1) := by decide +kernel
def S_X8_numberValue_5 (fn : Int → Int → Int → Option (Int)) (p : Program) (l : Launch) (e : Env) (R : Room) (s : State) (m : MethodId) (args : Array Value) (below : List Frame) (meth : Method) (c : Code) (G : GT) (σ : Mem) (res : Int) : Prop := ∀ (H : Heap) (locs : List Loc) (ls : Array Slot) (l2 : Int) (l3 : Int) (l4 : Int), PW G σ H → va_S (AA G) s.heap H locs → fn l2 l3 l4 = some res → lv_has ls 5 [(0, .ref (gh G + 42)), (2, .int (i32 l2)), (3, .int (i32 l3)), (4, .int (i32 l4))] → W p l e R s m args below meth c H locs 0 0 (MQ below (QM G (some (.int (i32 res))) σ) args s 0 0 (AA G)) (F0 m 5 ls [])
def X8_numberValue_B5 (rec5 : Int → Int → Int → Option (Int)) (σ : Mem) (l2 : Int) (l3 : Int) (l4 : Int) : Option (Int) :=
  if w32 l2 ≤ w32 l4 then
    some l3
  else
  ag 120 l4 fun j1 =>
  lt (imn 10000 (((l3 * 10) + (σ 43 j1)) - 48)) fun l3_2 =>
  lt (l4 + 1) fun l4_3 =>
  rec5 l2 l3_2 l4_3
def X8_numberValue_L5 (σ : Mem) : Nat → Int → Int → Int → Option (Int)
  | 0 => fun _ _ _ => none
  | n + 1 => X8_numberValue_B5 (X8_numberValue_L5 σ n) σ
def X8_numberValue (σ : Mem) (l1 : Int) (l2 : Int) : Option (Int) :=
  X8_numberValue_L5 σ 5000 l2 0 l1
def S_X8_numberValue_0 (fn : Int → Int → Option (Int)) (p : Program) (l : Launch) (e : Env) (R : Room) (s : State) (m : MethodId) (args : Array Value) (below : List Frame) (meth : Method) (c : Code) (G : GT) (σ : Mem) (res : Int) : Prop := ∀ (H : Heap) (locs : List Loc) (ls : Array Slot) (l1 : Int) (l2 : Int), PW G σ H → va_S (AA G) s.heap H locs → fn l1 l2 = some res → lv_has ls 5 [(0, .ref (gh G + 42)), (1, .int (i32 l1)), (2, .int (i32 l2))] → W p l e R s m args below meth c H locs 0 0 (MQ below (QM G (some (.int (i32 res))) σ) args s 0 0 (AA G)) (F0 m 0 ls [])
set_option maxHeartbeats 4000000 in
theorem a_X8_numberValue_5 {p : Program} {l : Launch} {e : Env} {R : Room} {s : State} {m : MethodId} {args : Array Value} {below : List Frame} {meth : Method} {c : Code} {G : GT} {σ : Mem} {res : Int} {rec5 : Int → Int → Int → Option (Int)} (X : CX p R s m args meth c cX8_numberValue 5 RX8 (some FieldType.int) 1 60 G) (h5 : S_X8_numberValue_5 rec5 p l e R s m args below meth c G σ res) : S_X8_numberValue_5 (X8_numberValue_B5 rec5 σ) p l e R s m args below meth c G σ res := by
  intro H locs ls l2 l3 l4 hP hS hf hl
  unfold X8_numberValue_B5 at hf
  refine lv_iload X.1 X.2.1 dX8_numberValue_5 (lv_at hl 3 rfl) ?_
  refine lv_iload_n X.1 X.2.1 dX8_numberValue_7 rfl (lv_at hl 1 rfl) ?_
  refine r_icmp_ge (tgt := 39) X dX8_numberValue_8 (by decide) (fun q => ?_) (fun q => ?_)
  · replace hf := it_inv q hf
    refine lv_iload_n X.1 X.2.1 dX8_numberValue_39 rfl (lv_at hl 2 rfl) ?_
    cases so_inv hf
    exact r_iret X hP hS dX8_numberValue_40
  · replace hf := ie_inv q hf
    refine r_sipush X 10000 (by decide) dX8_numberValue_11 ?_
    refine lv_iload_n X.1 X.2.1 dX8_numberValue_14 rfl (lv_at hl 2 rfl) ?_
    refine r_bipush X 10 (by decide) dX8_numberValue_15 ?_
    refine r_imul X dX8_numberValue_17 ?_
    refine lv_aload_n X.1 X.2.1 dX8_numberValue_18 rfl (lv_at hl 0 rfl) ?_
    refine g_8_0 (r := 43) X hP ks_8 rfl (tb t_194 rfl) dX8_numberValue_19 ?_
    refine lv_iload X.1 X.2.1 dX8_numberValue_22 (lv_at hl 3 rfl) ?_
    obtain ⟨j1, hij1, hjj1, hlj1, hf⟩ := ag_inv hf
    refine r_bald X hP (ch_8_0 ks_8).1 (ch_8_0 ks_8).2 hij1 hjj1 dX8_numberValue_24 ?_
    refine r_iadd X dX8_numberValue_25 ?_
    refine r_bipush X 48 (by decide) dX8_numberValue_26 ?_
    refine r_isub X dX8_numberValue_28 ?_
    refine r_mmin X hl.1 (tb t_568 rfl) (tb t_569 rfl) (tb t_92 rfl) (tb t_570 rfl) (by decide) (Nat.le_of_ble_eq_true rfl) dX8_numberValue_29 ?_
    obtain ⟨l3_2, el3_2, hf⟩ := lt_inv hf
    refine r_eqi el3_2 ?_
    refine lv_istore_n (lv' := [(3, .int (i32 l3_2)), (0, .ref (gh G + 42)), (2, .int (i32 l2)), (4, .int (i32 l4))]) X.1 X.2.1 dX8_numberValue_32 rfl hl (by decide) rfl (fun ls hl => ?_)
    obtain ⟨l4_3, el4_3, hf⟩ := lt_inv hf
    refine lv_iinc (v := i32 l4_3) (lv' := [(4, .int (i32 l4_3)), (3, .int (i32 l3_2)), (0, .ref (gh G + 42)), (2, .int (i32 l2))]) X.1 X.2.1 dX8_numberValue_33 hl (k := 3) rfl (by rw [← el4_3]; exact i32_add _ _) (by decide) rfl (fun ls hl => ?_)
    refine lv_goto (tgt := 5) X.1 X.2.1 dX8_numberValue_36 (by decide) ?_
    exact h5  H locs ls l2 l3_2 l4_3 hP hS hf (lv_sub hl [2, 3, 1, 0] rfl)
theorem al_X8_numberValue_5 {p : Program} {l : Launch} {e : Env} {R : Room} {s : State} {m : MethodId} {args : Array Value} {below : List Frame} {meth : Method} {c : Code} {G : GT} {σ : Mem} {res : Int} (X : CX p R s m args meth c cX8_numberValue 5 RX8 (some FieldType.int) 1 60 G) : ∀ n, S_X8_numberValue_5 (X8_numberValue_L5 σ n) p l e R s m args below meth c G σ res := by
  intro n
  induction n with
  | zero =>
    intro H locs ls l2 l3 l4 hP hS hf hl
    cases hf
  | succ n ih => exact a_X8_numberValue_5 X ih
set_option maxHeartbeats 4000000 in
theorem a_X8_numberValue_0 {p : Program} {l : Launch} {e : Env} {R : Room} {s : State} {m : MethodId} {args : Array Value} {below : List Frame} {meth : Method} {c : Code} {G : GT} {σ : Mem} {res : Int} (X : CX p R s m args meth c cX8_numberValue 5 RX8 (some FieldType.int) 1 60 G) : S_X8_numberValue_0 (X8_numberValue σ) p l e R s m args below meth c G σ res := by
  intro H locs ls l1 l2 hP hS hf hl
  unfold X8_numberValue at hf
  refine r_iconst X 0 dX8_numberValue_0 ?_
  refine lv_istore_n (lv' := [(3, .int (i32 0)), (0, .ref (gh G + 42)), (1, .int (i32 l1)), (2, .int (i32 l2))]) X.1 X.2.1 dX8_numberValue_1 rfl hl (by decide) rfl (fun ls hl => ?_)
  refine lv_iload_n X.1 X.2.1 dX8_numberValue_2 rfl (lv_at hl 2 rfl) ?_
  refine lv_istore (lv' := [(4, .int (i32 l1)), (3, .int (i32 0)), (0, .ref (gh G + 42)), (1, .int (i32 l1)), (2, .int (i32 l2))]) X.1 X.2.1 dX8_numberValue_3 hl (by decide) rfl (fun ls hl => ?_)
  exact al_X8_numberValue_5 X 5000  H locs ls l2 0 l1 hP hS hf (lv_sub hl [2, 4, 1, 0] rfl)
set_option maxHeartbeats 4000000 in
theorem c_X8_numberValue {l : Launch} {G : GT} {σ : Mem} {res : Int} {l1 : Int} {l2 : Int} (hf : X8_numberValue σ l1 l2 = some res) : CT l yX8_numberValue cX8_numberValue 5 (some FieldType.int) 1 60 G [.ref (gh G + 42), .int (i32 l1), .int (i32 l2)] σ σ (some (.int (i32 res))) := by
  refine CT.mk (own := RX8) (by decide) rfl (Nat.le_of_ble_eq_true rfl) ?_
  intro p e s m below meth c ls X hP hS hl
  have hl : lv_has ls 5 [(0, .ref (gh G + 42)), (1, .int (i32 l1)), (2, .int (i32 l2))] := hl
  exact a_X8_numberValue_0 X  s.heap [] ls l1 l2 hP hS hf hl
theorem k_X8_numberValue {p : Program} {l : Launch} {e : Env} {R : Room} {s : State} {m : MethodId} {args : Array Value} {below : List Frame} {meth : Method} {c : Code} {H : Heap} {locs : List Loc} {Q : State → Prop} {cc : ByteArray} {nL : Nat} {own : String} {ret : Option FieldType} {fF fL : Nat} {G : GT} {pc idx : Nat} {ls : Array Slot} {rest : List Value} {σ : Mem} {res : Int} {l1 : Int} {l2 : Int} (X : CX p R s m args meth c cc nL own ret fF fL G) (hP : PW G σ H) (hS : va_S (AA G) s.heap H locs) (hls : ls.size = nL) (hf : X8_numberValue σ l1 l2 = some res) (h1 : Cond.methodLink own idx yX8_numberValue ∈ TB) (hR : 1 + 1 ≤ fF ∧ 8 + (5 + 11) + 60 ≤ fL) (hW : (rest.map fun v => v.category).sum ≤ 8) (hd : decode cc pc = .ok (.invokevirtual idx, 3)) (kk : ∀ (H1 : Heap) (locs1 : List Loc), PW G σ H1 → va_S (AA G) s.heap H1 locs1 → W p l e R s m args below meth c H1 locs1 0 0 Q (F0 m (pc + 3) ls (.int (i32 res) :: rest))) : W p l e R s m args below meth c H locs 0 0 Q (F0 m pc ls (.int (i32 l2) :: .int (i32 l1) :: .ref (gh G + 42) :: rest)) := r_callV (n := 2) X hP hS hls (c_X8_numberValue hf) h1 (tb t_566 rfl) (tb t_10 rfl) (tb t_81 rfl) (tb t_567 rfl) (by decide +kernel) hR (r_recv X hP (kd_lt ks_8 (by decide)) (cE_8 ks_8) rfl) rfl rfl hW hd kk
/-! X8_addToken -/
theorem dX8_addToken_0 : decode cX8_addToken 0 = .ok (.aload_n 0, 1) := by decide +kernel
theorem dX8_addToken_1 : decode cX8_addToken 1 = .ok (.getfield 33, 3) := by decide +kernel
theorem dX8_addToken_4 : decode cX8_addToken 4 = .ok (.bipush 120, 2) := by decide +kernel
theorem dX8_addToken_6 : decode cX8_addToken 6 = .ok (.if_icmp .lt 4, 3) := by decide +kernel
theorem dX8_addToken_9 : decode cX8_addToken 9 = .ok (.return_, 1) := by decide +kernel
theorem dX8_addToken_10 : decode cX8_addToken 10 = .ok (.aload_n 0, 1) := by decide +kernel
theorem dX8_addToken_11 : decode cX8_addToken 11 = .ok (.getfield 19, 3) := by decide +kernel
theorem dX8_addToken_14 : decode cX8_addToken 14 = .ok (.aload_n 0, 1) := by decide +kernel
theorem dX8_addToken_15 : decode cX8_addToken 15 = .ok (.getfield 33, 3) := by decide +kernel
theorem dX8_addToken_18 : decode cX8_addToken 18 = .ok (.iload_n 1, 1) := by decide +kernel
theorem dX8_addToken_19 : decode cX8_addToken 19 = .ok (.iastore, 1) := by decide +kernel
theorem dX8_addToken_20 : decode cX8_addToken 20 = .ok (.aload_n 0, 1) := by decide +kernel
theorem dX8_addToken_21 : decode cX8_addToken 21 = .ok (.getfield 22, 3) := by decide +kernel
theorem dX8_addToken_24 : decode cX8_addToken 24 = .ok (.aload_n 0, 1) := by decide +kernel
theorem dX8_addToken_25 : decode cX8_addToken 25 = .ok (.getfield 33, 3) := by decide +kernel
theorem dX8_addToken_28 : decode cX8_addToken 28 = .ok (.iconst 0, 1) := by decide +kernel
theorem dX8_addToken_29 : decode cX8_addToken 29 = .ok (.iastore, 1) := by decide +kernel
theorem dX8_addToken_30 : decode cX8_addToken 30 = .ok (.aload_n 0, 1) := by decide +kernel
theorem dX8_addToken_31 : decode cX8_addToken 31 = .ok (.iload_n 1, 1) := by decide +kernel
theorem dX8_addToken_32 : decode cX8_addToken 32 = .ok (.invokevirtual 47, 3) := by decide +kernel
theorem dX8_addToken_35 : decode cX8_addToken 35 = .ok (.ifCond .eq 31, 3) := by decide +kernel
theorem dX8_addToken_38 : decode cX8_addToken 38 = .ok (.aload_n 0, 1) := by decide +kernel
theorem dX8_addToken_39 : decode cX8_addToken 39 = .ok (.getfield 15, 3) := by decide +kernel
theorem dX8_addToken_42 : decode cX8_addToken 42 = .ok (.aload_n 0, 1) := by decide +kernel
theorem dX8_addToken_43 : decode cX8_addToken 43 = .ok (.getfield 33, 3) := by decide +kernel
theorem dX8_addToken_46 : decode cX8_addToken 46 = .ok (.iconst 1, 1) := by decide +kernel
theorem dX8_addToken_47 : decode cX8_addToken 47 = .ok (.iastore, 1) := by decide +kernel
theorem dX8_addToken_48 : decode cX8_addToken 48 = .ok (.aload_n 0, 1) := by decide +kernel
theorem dX8_addToken_49 : decode cX8_addToken 49 = .ok (.getfield 22, 3) := by decide +kernel
theorem dX8_addToken_52 : decode cX8_addToken 52 = .ok (.aload_n 0, 1) := by decide +kernel
theorem dX8_addToken_53 : decode cX8_addToken 53 = .ok (.getfield 33, 3) := by decide +kernel
theorem dX8_addToken_56 : decode cX8_addToken 56 = .ok (.aload_n 0, 1) := by decide +kernel
theorem dX8_addToken_57 : decode cX8_addToken 57 = .ok (.iload_n 1, 1) := by decide +kernel
theorem dX8_addToken_58 : decode cX8_addToken 58 = .ok (.iload_n 2, 1) := by decide +kernel
theorem dX8_addToken_59 : decode cX8_addToken 59 = .ok (.invokevirtual 53, 3) := by decide +kernel
theorem dX8_addToken_62 : decode cX8_addToken 62 = .ok (.iastore, 1) := by decide +kernel
theorem dX8_addToken_63 : decode cX8_addToken 63 = .ok (.goto 88, 3) := by decide +kernel
theorem dX8_addToken_66 : decode cX8_addToken 66 = .ok (.aload_n 0, 1) := by decide +kernel
theorem dX8_addToken_67 : decode cX8_addToken 67 = .ok (.iload_n 1, 1) := by decide +kernel
theorem dX8_addToken_68 : decode cX8_addToken 68 = .ok (.invokevirtual 50, 3) := by decide +kernel
theorem dX8_addToken_71 : decode cX8_addToken 71 = .ok (.ifCond .eq 31, 3) := by decide +kernel
theorem dX8_addToken_74 : decode cX8_addToken 74 = .ok (.aload_n 0, 1) := by decide +kernel
theorem dX8_addToken_75 : decode cX8_addToken 75 = .ok (.getfield 15, 3) := by decide +kernel
theorem dX8_addToken_78 : decode cX8_addToken 78 = .ok (.aload_n 0, 1) := by decide +kernel
theorem dX8_addToken_79 : decode cX8_addToken 79 = .ok (.getfield 33, 3) := by decide +kernel
theorem dX8_addToken_82 : decode cX8_addToken 82 = .ok (.iconst 2, 1) := by decide +kernel
theorem dX8_addToken_83 : decode cX8_addToken 83 = .ok (.iastore, 1) := by decide +kernel
theorem dX8_addToken_84 : decode cX8_addToken 84 = .ok (.aload_n 0, 1) := by decide +kernel
theorem dX8_addToken_85 : decode cX8_addToken 85 = .ok (.getfield 22, 3) := by decide +kernel
theorem dX8_addToken_88 : decode cX8_addToken 88 = .ok (.aload_n 0, 1) := by decide +kernel
theorem dX8_addToken_89 : decode cX8_addToken 89 = .ok (.getfield 33, 3) := by decide +kernel
theorem dX8_addToken_92 : decode cX8_addToken 92 = .ok (.aload_n 0, 1) := by decide +kernel
theorem dX8_addToken_93 : decode cX8_addToken 93 = .ok (.iload_n 1, 1) := by decide +kernel
theorem dX8_addToken_94 : decode cX8_addToken 94 = .ok (.iload_n 2, 1) := by decide +kernel
theorem dX8_addToken_95 : decode cX8_addToken 95 = .ok (.invokevirtual 57, 3) := by decide +kernel
theorem dX8_addToken_98 : decode cX8_addToken 98 = .ok (.iastore, 1) := by decide +kernel
theorem dX8_addToken_99 : decode cX8_addToken 99 = .ok (.goto 52, 3) := by decide +kernel
theorem dX8_addToken_102 : decode cX8_addToken 102 = .ok (.aload_n 0, 1) := by decide +kernel
theorem dX8_addToken_103 : decode cX8_addToken 103 = .ok (.getfield 9, 3) := by decide +kernel
theorem dX8_addToken_106 : decode cX8_addToken 106 = .ok (.iload_n 1, 1) := by decide +kernel
theorem dX8_addToken_107 : decode cX8_addToken 107 = .ok (.baload, 1) := by decide +kernel
theorem dX8_addToken_108 : decode cX8_addToken 108 = .ok (.bipush 40, 2) := by decide +kernel
theorem dX8_addToken_110 : decode cX8_addToken 110 = .ok (.if_icmp .ne 16, 3) := by decide +kernel
theorem dX8_addToken_113 : decode cX8_addToken 113 = .ok (.aload_n 0, 1) := by decide +kernel
theorem dX8_addToken_114 : decode cX8_addToken 114 = .ok (.getfield 15, 3) := by decide +kernel
theorem dX8_addToken_117 : decode cX8_addToken 117 = .ok (.aload_n 0, 1) := by decide +kernel
theorem dX8_addToken_118 : decode cX8_addToken 118 = .ok (.getfield 33, 3) := by decide +kernel
theorem dX8_addToken_121 : decode cX8_addToken 121 = .ok (.iconst 3, 1) := by decide +kernel
theorem dX8_addToken_122 : decode cX8_addToken 122 = .ok (.iastore, 1) := by decide +kernel
theorem dX8_addToken_123 : decode cX8_addToken 123 = .ok (.goto 28, 3) := by decide +kernel
theorem dX8_addToken_126 : decode cX8_addToken 126 = .ok (.aload_n 0, 1) := by decide +kernel
theorem dX8_addToken_127 : decode cX8_addToken 127 = .ok (.getfield 15, 3) := by decide +kernel
theorem dX8_addToken_130 : decode cX8_addToken 130 = .ok (.aload_n 0, 1) := by decide +kernel
theorem dX8_addToken_131 : decode cX8_addToken 131 = .ok (.getfield 33, 3) := by decide +kernel
theorem dX8_addToken_134 : decode cX8_addToken 134 = .ok (.aload_n 0, 1) := by decide +kernel
theorem dX8_addToken_135 : decode cX8_addToken 135 = .ok (.getfield 9, 3) := by decide +kernel
theorem dX8_addToken_138 : decode cX8_addToken 138 = .ok (.iload_n 1, 1) := by decide +kernel
theorem dX8_addToken_139 : decode cX8_addToken 139 = .ok (.baload, 1) := by decide +kernel
theorem dX8_addToken_140 : decode cX8_addToken 140 = .ok (.bipush 41, 2) := by decide +kernel
theorem dX8_addToken_142 : decode cX8_addToken 142 = .ok (.if_icmp .ne 7, 3) := by decide +kernel
theorem dX8_addToken_145 : decode cX8_addToken 145 = .ok (.iconst 4, 1) := by decide +kernel
theorem dX8_addToken_146 : decode cX8_addToken 146 = .ok (.goto 4, 3) := by decide +kernel
theorem dX8_addToken_149 : decode cX8_addToken 149 = .ok (.iconst 5, 1) := by decide +kernel
theorem dX8_addToken_150 : decode cX8_addToken 150 = .ok (.iastore, 1) := by decide +kernel
theorem dX8_addToken_151 : decode cX8_addToken 151 = .ok (.aload_n 0, 1) := by decide +kernel
theorem dX8_addToken_152 : decode cX8_addToken 152 = .ok (.dup, 1) := by decide +kernel
theorem dX8_addToken_153 : decode cX8_addToken 153 = .ok (.getfield 33, 3) := by decide +kernel
theorem dX8_addToken_156 : decode cX8_addToken 156 = .ok (.iconst 1, 1) := by decide +kernel
theorem dX8_addToken_157 : decode cX8_addToken 157 = .ok (.iadd, 1) := by decide +kernel
theorem dX8_addToken_158 : decode cX8_addToken 158 = .ok (.putfield 33, 3) := by decide +kernel
theorem dX8_addToken_161 : decode cX8_addToken 161 = .ok (.return_, 1) := by decide +kernel
def X8_addToken_B151 (σ : Mem) : Option (Mem) :=
  lt (st σ 42 5 ((σ 42 5) + 1)) fun s1 =>
  some s1
def S_X8_addToken_151 (fn : Mem → Option (Mem)) (p : Program) (l : Launch) (e : Env) (R : Room) (s : State) (m : MethodId) (args : Array Value) (below : List Frame) (meth : Method) (c : Code) (G : GT) (τ : Mem) : Prop := ∀ (σ : Mem) (H : Heap) (locs : List Loc) (ls : Array Slot), PW G σ H → va_S (AA G) s.heap H locs → fn σ = some τ → lv_has ls 3 [(0, .ref (gh G + 42))] → W p l e R s m args below meth c H locs 0 0 (MQ below (QM G none τ) args s 0 0 (AA G)) (F0 m 151 ls [])
def X8_addToken_B150 (σ : Mem) (k0 : Nat) (k1 : Int) (k2 : Int) : Option (Mem) :=
  ag 121 k1 fun j1 =>
  lt (st σ k0 j1 k2) fun s2 =>
  X8_addToken_B151 s2
def S_X8_addToken_150 (fn : Mem → Nat → Int → Int → Option (Mem)) (p : Program) (l : Launch) (e : Env) (R : Room) (s : State) (m : MethodId) (args : Array Value) (below : List Frame) (meth : Method) (c : Code) (G : GT) (τ : Mem) : Prop := ∀ (σ : Mem) (H : Heap) (locs : List Loc) (ls : Array Slot) (k0 : Nat) (k1 : Int) (k2 : Int), kd k0 = 13 → ln k0 = 121 → PW G σ H → va_S (AA G) s.heap H locs → fn σ k0 k1 k2 = some τ → lv_has ls 3 [(0, .ref (gh G + 42))] → W p l e R s m args below meth c H locs 0 0 (MQ below (QM G none τ) args s 0 0 (AA G)) (F0 m 150 ls [.int (i32 k2), .int (i32 k1), .ref (gh G + k0)])
def X8_addToken (σ : Mem) (l1 : Int) (l2 : Int) : Option (Mem) :=
  if w32 (σ 42 5) < w32 120 then
    ag 121 (σ 42 5) fun j1 =>
    lt (st σ 45 j1 l1) fun s2 =>
    ag 121 (s2 42 5) fun j3 =>
    lt (st s2 46 j3 0) fun s4 =>
    bd (X8_isLetter s4 l1) fun r5 =>
    if w32 r5 = 0 then
      bd (X8_isDigit s4 l1) fun r6 =>
      if w32 r6 = 0 then
        ag 120 l1 fun j7 =>
        if w32 (s4 43 j7) ≠ w32 40 then
          ag 120 l1 fun j8 =>
          if w32 (s4 43 j8) ≠ w32 41 then
            X8_addToken_B150 s4 44 (s4 42 5) 5
          else
          X8_addToken_B150 s4 44 (s4 42 5) 4
        else
        ag 121 (s4 42 5) fun j9 =>
        lt (st s4 44 j9 3) fun s10 =>
        X8_addToken_B151 s10
      else
      ag 121 (s4 42 5) fun j11 =>
      lt (st s4 44 j11 2) fun s12 =>
      bd (X8_numberValue s12 l1 l2) fun r13 =>
      ag 121 (s12 42 5) fun j14 =>
      lt (st s12 46 j14 r13) fun s15 =>
      X8_addToken_B151 s15
    else
    ag 121 (s4 42 5) fun j16 =>
    lt (st s4 44 j16 1) fun s17 =>
    bd (X8_wordNumber s17 l1 l2) fun r18 =>
    ag 121 (s17 42 5) fun j19 =>
    lt (st s17 46 j19 r18) fun s20 =>
    X8_addToken_B151 s20
  else
  some σ
def S_X8_addToken_0 (fn : Mem → Int → Int → Option (Mem)) (p : Program) (l : Launch) (e : Env) (R : Room) (s : State) (m : MethodId) (args : Array Value) (below : List Frame) (meth : Method) (c : Code) (G : GT) (τ : Mem) : Prop := ∀ (σ : Mem) (H : Heap) (locs : List Loc) (ls : Array Slot) (l1 : Int) (l2 : Int), PW G σ H → va_S (AA G) s.heap H locs → fn σ l1 l2 = some τ → lv_has ls 3 [(0, .ref (gh G + 42)), (1, .int (i32 l1)), (2, .int (i32 l2))] → W p l e R s m args below meth c H locs 0 0 (MQ below (QM G none τ) args s 0 0 (AA G)) (F0 m 0 ls [])
set_option maxHeartbeats 4000000 in
theorem a_X8_addToken_151 {p : Program} {l : Launch} {e : Env} {R : Room} {s : State} {m : MethodId} {args : Array Value} {below : List Frame} {meth : Method} {c : Code} {G : GT} {τ : Mem} (X : CX p R s m args meth c cX8_addToken 3 RX8 none 8 346 G) : S_X8_addToken_151 (X8_addToken_B151) p l e R s m args below meth c G τ := by
  intro σ H locs ls hP hS hf hl
  unfold X8_addToken_B151 at hf
  refine lv_aload_n X.1 X.2.1 dX8_addToken_151 rfl (lv_at hl 0 rfl) ?_
  refine lv_dup X.1 X.2.1 dX8_addToken_152 rfl ?_
  refine g_8_5 X hP ks_8 (tb t_200 rfl) dX8_addToken_153 ?_
  refine r_iconst X 1 dX8_addToken_156 ?_
  refine r_iadd X dX8_addToken_157 ?_
  refine p_8_5 X hP hS ks_8 (tb t_200 rfl) dX8_addToken_158 (fun H locs hP hS => ?_)
  obtain ⟨s1, es1, hf⟩ := lt_inv hf
  rw [es1] at hP
  cases so_inv hf
  exact r_vret X hP hS dX8_addToken_161
set_option maxHeartbeats 4000000 in
theorem a_X8_addToken_150 {p : Program} {l : Launch} {e : Env} {R : Room} {s : State} {m : MethodId} {args : Array Value} {below : List Frame} {meth : Method} {c : Code} {G : GT} {τ : Mem} (X : CX p R s m args meth c cX8_addToken 3 RX8 none 8 346 G) : S_X8_addToken_150 (X8_addToken_B150) p l e R s m args below meth c G τ := by
  intro σ H locs ls k0 k1 k2 hk_k0 hn_k0 hP hS hf hl
  unfold X8_addToken_B150 at hf
  obtain ⟨j1, hij1, hjj1, hlj1, hf⟩ := ag_inv hf
  refine r_iast X hP hS hk_k0 hn_k0 hij1 hjj1 dX8_addToken_150 (fun H locs hP hS => ?_)
  obtain ⟨s2, es2, hf⟩ := lt_inv hf
  rw [es2] at hP
  exact a_X8_addToken_151 X s2 H locs ls  hP hS hf hl
set_option maxHeartbeats 4000000 in
theorem a_X8_addToken_0 {p : Program} {l : Launch} {e : Env} {R : Room} {s : State} {m : MethodId} {args : Array Value} {below : List Frame} {meth : Method} {c : Code} {G : GT} {τ : Mem} (X : CX p R s m args meth c cX8_addToken 3 RX8 none 8 346 G) : S_X8_addToken_0 (X8_addToken) p l e R s m args below meth c G τ := by
  intro σ H locs ls l1 l2 hP hS hf hl
  unfold X8_addToken at hf
  refine lv_aload_n X.1 X.2.1 dX8_addToken_0 rfl (lv_at hl 0 rfl) ?_
  refine g_8_5 X hP ks_8 (tb t_200 rfl) dX8_addToken_1 ?_
  refine r_bipush X 120 (by decide) dX8_addToken_4 ?_
  refine r_icmp_lt (tgt := 10) X dX8_addToken_6 (by decide) (fun q => ?_) (fun q => ?_)
  · replace hf := it_inv q hf
    refine lv_aload_n X.1 X.2.1 dX8_addToken_10 rfl (lv_at hl 0 rfl) ?_
    refine g_8_3 (r := 45) X hP ks_8 rfl (tb t_198 rfl) dX8_addToken_11 ?_
    refine lv_aload_n X.1 X.2.1 dX8_addToken_14 rfl (lv_at hl 0 rfl) ?_
    refine g_8_5 X hP ks_8 (tb t_200 rfl) dX8_addToken_15 ?_
    refine lv_iload_n X.1 X.2.1 dX8_addToken_18 rfl (lv_at hl 1 rfl) ?_
    obtain ⟨j1, hij1, hjj1, hlj1, hf⟩ := ag_inv hf
    refine r_iast X hP hS (ch_8_3 ks_8).1 (ch_8_3 ks_8).2 hij1 hjj1 dX8_addToken_19 (fun H locs hP hS => ?_)
    obtain ⟨s2, es2, hf⟩ := lt_inv hf
    rw [es2] at hP
    refine lv_aload_n X.1 X.2.1 dX8_addToken_20 rfl (lv_at hl 0 rfl) ?_
    refine g_8_4 (r := 46) X hP ks_8 rfl (tb t_199 rfl) dX8_addToken_21 ?_
    refine lv_aload_n X.1 X.2.1 dX8_addToken_24 rfl (lv_at hl 0 rfl) ?_
    refine g_8_5 X hP ks_8 (tb t_200 rfl) dX8_addToken_25 ?_
    refine r_iconst X 0 dX8_addToken_28 ?_
    obtain ⟨j3, hij3, hjj3, hlj3, hf⟩ := ag_inv hf
    refine r_iast X hP hS (ch_8_4 ks_8).1 (ch_8_4 ks_8).2 hij3 hjj3 dX8_addToken_29 (fun H locs hP hS => ?_)
    obtain ⟨s4, es4, hf⟩ := lt_inv hf
    rw [es4] at hP
    refine lv_aload_n X.1 X.2.1 dX8_addToken_30 rfl (lv_at hl 0 rfl) ?_
    refine lv_iload_n X.1 X.2.1 dX8_addToken_31 rfl (lv_at hl 1 rfl) ?_
    obtain ⟨r5, hr5, hf⟩ := bd_inv hf
    refine k_X8_isLetter X hP hS hl.1  hr5 (tb t_489 rfl) (by decide) (Nat.le_of_ble_eq_true rfl) dX8_addToken_32 (fun H locs hP hS => ?_)
    refine r_if_eq (tgt := 66) X dX8_addToken_35 (by decide) (fun q => ?_) (fun q => ?_)
    · replace hf := it_inv q hf
      refine lv_aload_n X.1 X.2.1 dX8_addToken_66 rfl (lv_at hl 0 rfl) ?_
      refine lv_iload_n X.1 X.2.1 dX8_addToken_67 rfl (lv_at hl 1 rfl) ?_
      obtain ⟨r6, hr6, hf⟩ := bd_inv hf
      refine k_X8_isDigit X hP hS hl.1  hr6 (tb t_493 rfl) (by decide) (Nat.le_of_ble_eq_true rfl) dX8_addToken_68 (fun H locs hP hS => ?_)
      refine r_if_eq (tgt := 102) X dX8_addToken_71 (by decide) (fun q => ?_) (fun q => ?_)
      · replace hf := it_inv q hf
        refine lv_aload_n X.1 X.2.1 dX8_addToken_102 rfl (lv_at hl 0 rfl) ?_
        refine g_8_0 (r := 43) X hP ks_8 rfl (tb t_194 rfl) dX8_addToken_103 ?_
        refine lv_iload_n X.1 X.2.1 dX8_addToken_106 rfl (lv_at hl 1 rfl) ?_
        obtain ⟨j7, hij7, hjj7, hlj7, hf⟩ := ag_inv hf
        refine r_bald X hP (ch_8_0 ks_8).1 (ch_8_0 ks_8).2 hij7 hjj7 dX8_addToken_107 ?_
        refine r_bipush X 40 (by decide) dX8_addToken_108 ?_
        refine r_icmp_ne (tgt := 126) X dX8_addToken_110 (by decide) (fun q => ?_) (fun q => ?_)
        · replace hf := it_inv q hf
          refine lv_aload_n X.1 X.2.1 dX8_addToken_126 rfl (lv_at hl 0 rfl) ?_
          refine g_8_2 (r := 44) X hP ks_8 rfl (tb t_197 rfl) dX8_addToken_127 ?_
          refine lv_aload_n X.1 X.2.1 dX8_addToken_130 rfl (lv_at hl 0 rfl) ?_
          refine g_8_5 X hP ks_8 (tb t_200 rfl) dX8_addToken_131 ?_
          refine lv_aload_n X.1 X.2.1 dX8_addToken_134 rfl (lv_at hl 0 rfl) ?_
          refine g_8_0 (r := 43) X hP ks_8 rfl (tb t_194 rfl) dX8_addToken_135 ?_
          refine lv_iload_n X.1 X.2.1 dX8_addToken_138 rfl (lv_at hl 1 rfl) ?_
          obtain ⟨j8, hij8, hjj8, hlj8, hf⟩ := ag_inv hf
          refine r_bald X hP (ch_8_0 ks_8).1 (ch_8_0 ks_8).2 hij8 hjj8 dX8_addToken_139 ?_
          refine r_bipush X 41 (by decide) dX8_addToken_140 ?_
          refine r_icmp_ne (tgt := 149) X dX8_addToken_142 (by decide) (fun q => ?_) (fun q => ?_)
          · replace hf := it_inv q hf
            refine r_iconst X 5 dX8_addToken_149 ?_
            exact a_X8_addToken_150 X s4 H locs ls 44 (s4 42 5) 5 (ch_8_2 ks_8).1 (ch_8_2 ks_8).2 hP hS hf (lv_sub hl [0] rfl)
          · replace hf := ie_inv q hf
            refine r_iconst X 4 dX8_addToken_145 ?_
            refine lv_goto (tgt := 150) X.1 X.2.1 dX8_addToken_146 (by decide) ?_
            exact a_X8_addToken_150 X s4 H locs ls 44 (s4 42 5) 4 (ch_8_2 ks_8).1 (ch_8_2 ks_8).2 hP hS hf (lv_sub hl [0] rfl)
        · replace hf := ie_inv q hf
          refine lv_aload_n X.1 X.2.1 dX8_addToken_113 rfl (lv_at hl 0 rfl) ?_
          refine g_8_2 (r := 44) X hP ks_8 rfl (tb t_197 rfl) dX8_addToken_114 ?_
          refine lv_aload_n X.1 X.2.1 dX8_addToken_117 rfl (lv_at hl 0 rfl) ?_
          refine g_8_5 X hP ks_8 (tb t_200 rfl) dX8_addToken_118 ?_
          refine r_iconst X 3 dX8_addToken_121 ?_
          obtain ⟨j9, hij9, hjj9, hlj9, hf⟩ := ag_inv hf
          refine r_iast X hP hS (ch_8_2 ks_8).1 (ch_8_2 ks_8).2 hij9 hjj9 dX8_addToken_122 (fun H locs hP hS => ?_)
          obtain ⟨s10, es10, hf⟩ := lt_inv hf
          rw [es10] at hP
          refine lv_goto (tgt := 151) X.1 X.2.1 dX8_addToken_123 (by decide) ?_
          exact a_X8_addToken_151 X s10 H locs ls  hP hS hf (lv_sub hl [0] rfl)
      · replace hf := ie_inv q hf
        refine lv_aload_n X.1 X.2.1 dX8_addToken_74 rfl (lv_at hl 0 rfl) ?_
        refine g_8_2 (r := 44) X hP ks_8 rfl (tb t_197 rfl) dX8_addToken_75 ?_
        refine lv_aload_n X.1 X.2.1 dX8_addToken_78 rfl (lv_at hl 0 rfl) ?_
        refine g_8_5 X hP ks_8 (tb t_200 rfl) dX8_addToken_79 ?_
        refine r_iconst X 2 dX8_addToken_82 ?_
        obtain ⟨j11, hij11, hjj11, hlj11, hf⟩ := ag_inv hf
        refine r_iast X hP hS (ch_8_2 ks_8).1 (ch_8_2 ks_8).2 hij11 hjj11 dX8_addToken_83 (fun H locs hP hS => ?_)
        obtain ⟨s12, es12, hf⟩ := lt_inv hf
        rw [es12] at hP
        refine lv_aload_n X.1 X.2.1 dX8_addToken_84 rfl (lv_at hl 0 rfl) ?_
        refine g_8_4 (r := 46) X hP ks_8 rfl (tb t_199 rfl) dX8_addToken_85 ?_
        refine lv_aload_n X.1 X.2.1 dX8_addToken_88 rfl (lv_at hl 0 rfl) ?_
        refine g_8_5 X hP ks_8 (tb t_200 rfl) dX8_addToken_89 ?_
        refine lv_aload_n X.1 X.2.1 dX8_addToken_92 rfl (lv_at hl 0 rfl) ?_
        refine lv_iload_n X.1 X.2.1 dX8_addToken_93 rfl (lv_at hl 1 rfl) ?_
        refine lv_iload_n X.1 X.2.1 dX8_addToken_94 rfl (lv_at hl 2 rfl) ?_
        obtain ⟨r13, hr13, hf⟩ := bd_inv hf
        refine k_X8_numberValue X hP hS hl.1  hr13 (tb t_564 rfl) (by decide) (Nat.le_of_ble_eq_true rfl) dX8_addToken_95 (fun H locs hP hS => ?_)
        obtain ⟨j14, hij14, hjj14, hlj14, hf⟩ := ag_inv hf
        refine r_iast X hP hS (ch_8_4 ks_8).1 (ch_8_4 ks_8).2 hij14 hjj14 dX8_addToken_98 (fun H locs hP hS => ?_)
        obtain ⟨s15, es15, hf⟩ := lt_inv hf
        rw [es15] at hP
        refine lv_goto (tgt := 151) X.1 X.2.1 dX8_addToken_99 (by decide) ?_
        exact a_X8_addToken_151 X s15 H locs ls  hP hS hf (lv_sub hl [0] rfl)
    · replace hf := ie_inv q hf
      refine lv_aload_n X.1 X.2.1 dX8_addToken_38 rfl (lv_at hl 0 rfl) ?_
      refine g_8_2 (r := 44) X hP ks_8 rfl (tb t_197 rfl) dX8_addToken_39 ?_
      refine lv_aload_n X.1 X.2.1 dX8_addToken_42 rfl (lv_at hl 0 rfl) ?_
      refine g_8_5 X hP ks_8 (tb t_200 rfl) dX8_addToken_43 ?_
      refine r_iconst X 1 dX8_addToken_46 ?_
      obtain ⟨j16, hij16, hjj16, hlj16, hf⟩ := ag_inv hf
      refine r_iast X hP hS (ch_8_2 ks_8).1 (ch_8_2 ks_8).2 hij16 hjj16 dX8_addToken_47 (fun H locs hP hS => ?_)
      obtain ⟨s17, es17, hf⟩ := lt_inv hf
      rw [es17] at hP
      refine lv_aload_n X.1 X.2.1 dX8_addToken_48 rfl (lv_at hl 0 rfl) ?_
      refine g_8_4 (r := 46) X hP ks_8 rfl (tb t_199 rfl) dX8_addToken_49 ?_
      refine lv_aload_n X.1 X.2.1 dX8_addToken_52 rfl (lv_at hl 0 rfl) ?_
      refine g_8_5 X hP ks_8 (tb t_200 rfl) dX8_addToken_53 ?_
      refine lv_aload_n X.1 X.2.1 dX8_addToken_56 rfl (lv_at hl 0 rfl) ?_
      refine lv_iload_n X.1 X.2.1 dX8_addToken_57 rfl (lv_at hl 1 rfl) ?_
      refine lv_iload_n X.1 X.2.1 dX8_addToken_58 rfl (lv_at hl 2 rfl) ?_
      obtain ⟨r18, hr18, hf⟩ := bd_inv hf
      refine k_X8_wordNumber X hP hS hl.1  hr18 (tb t_501 rfl) (by decide) (Nat.le_of_ble_eq_true rfl) dX8_addToken_59 (fun H locs hP hS => ?_)
      obtain ⟨j19, hij19, hjj19, hlj19, hf⟩ := ag_inv hf
      refine r_iast X hP hS (ch_8_4 ks_8).1 (ch_8_4 ks_8).2 hij19 hjj19 dX8_addToken_62 (fun H locs hP hS => ?_)
      obtain ⟨s20, es20, hf⟩ := lt_inv hf
      rw [es20] at hP
      refine lv_goto (tgt := 151) X.1 X.2.1 dX8_addToken_63 (by decide) ?_
      exact a_X8_addToken_151 X s20 H locs ls  hP hS hf (lv_sub hl [0] rfl)
  · replace hf := ie_inv q hf
    cases so_inv hf
    exact r_vret X hP hS dX8_addToken_9
set_option maxHeartbeats 4000000 in
theorem c_X8_addToken {l : Launch} {G : GT} {σ τ : Mem} {l1 : Int} {l2 : Int} (hf : X8_addToken σ l1 l2 = some τ) : CT l yX8_addToken cX8_addToken 3 none 8 346 G [.ref (gh G + 42), .int (i32 l1), .int (i32 l2)] σ τ none := by
  refine CT.mk (own := RX8) (by decide) rfl (Nat.le_of_ble_eq_true rfl) ?_
  intro p e s m below meth c ls X hP hS hl
  have hl : lv_has ls 3 [(0, .ref (gh G + 42)), (1, .int (i32 l1)), (2, .int (i32 l2))] := hl
  exact a_X8_addToken_0 X σ s.heap [] ls l1 l2 hP hS hf hl
theorem k_X8_addToken {p : Program} {l : Launch} {e : Env} {R : Room} {s : State} {m : MethodId} {args : Array Value} {below : List Frame} {meth : Method} {c : Code} {H : Heap} {locs : List Loc} {Q : State → Prop} {cc : ByteArray} {nL : Nat} {own : String} {ret : Option FieldType} {fF fL : Nat} {G : GT} {pc idx : Nat} {ls : Array Slot} {rest : List Value} {σ τ : Mem} {l1 : Int} {l2 : Int} (X : CX p R s m args meth c cc nL own ret fF fL G) (hP : PW G σ H) (hS : va_S (AA G) s.heap H locs) (hls : ls.size = nL) (hf : X8_addToken σ l1 l2 = some τ) (h1 : Cond.methodLink own idx yX8_addToken ∈ TB) (hR : 8 + 1 ≤ fF ∧ 8 + (3 + 11) + 346 ≤ fL) (hW : (rest.map fun v => v.category).sum ≤ 8) (hd : decode cc pc = .ok (.invokevirtual idx, 3)) (kk : ∀ (H1 : Heap) (locs1 : List Loc), PW G τ H1 → va_S (AA G) s.heap H1 locs1 → W p l e R s m args below meth c H1 locs1 0 0 Q (F0 m (pc + 3) ls (rest))) : W p l e R s m args below meth c H locs 0 0 Q (F0 m pc ls (.int (i32 l2) :: .int (i32 l1) :: .ref (gh G + 42) :: rest)) := r_callV (n := 2) X hP hS hls (c_X8_addToken hf) h1 (tb t_499 rfl) (tb t_7 rfl) (tb t_81 rfl) (tb t_500 rfl) (by decide +kernel) hR (r_recv X hP (kd_lt ks_8 (by decide)) (cE_8 ks_8) rfl) rfl rfl hW hd kk
/-! X8_split -/
theorem dX8_split_0 : decode cX8_split 0 = .ok (.aload_n 0, 1) := by decide +kernel
theorem dX8_split_1 : decode cX8_split 1 = .ok (.iconst 0, 1) := by decide +kernel
theorem dX8_split_2 : decode cX8_split 2 = .ok (.putfield 33, 3) := by decide +kernel
theorem dX8_split_5 : decode cX8_split 5 = .ok (.iconst 0, 1) := by decide +kernel
theorem dX8_split_6 : decode cX8_split 6 = .ok (.istore_n 1, 1) := by decide +kernel
theorem dX8_split_7 : decode cX8_split 7 = .ok (.iconst 0, 1) := by decide +kernel
theorem dX8_split_8 : decode cX8_split 8 = .ok (.istore_n 2, 1) := by decide +kernel
theorem dX8_split_9 : decode cX8_split 9 = .ok (.iload_n 2, 1) := by decide +kernel
theorem dX8_split_10 : decode cX8_split 10 = .ok (.aload_n 0, 1) := by decide +kernel
theorem dX8_split_11 : decode cX8_split 11 = .ok (.getfield 25, 3) := by decide +kernel
theorem dX8_split_14 : decode cX8_split 14 = .ok (.if_icmp .ge 37, 3) := by decide +kernel
theorem dX8_split_17 : decode cX8_split 17 = .ok (.iload_n 2, 1) := by decide +kernel
theorem dX8_split_18 : decode cX8_split 18 = .ok (.iload_n 1, 1) := by decide +kernel
theorem dX8_split_19 : decode cX8_split 19 = .ok (.if_icmp .lt 26, 3) := by decide +kernel
theorem dX8_split_22 : decode cX8_split 22 = .ok (.aload_n 0, 1) := by decide +kernel
theorem dX8_split_23 : decode cX8_split 23 = .ok (.getfield 9, 3) := by decide +kernel
theorem dX8_split_26 : decode cX8_split 26 = .ok (.iload_n 2, 1) := by decide +kernel
theorem dX8_split_27 : decode cX8_split 27 = .ok (.baload, 1) := by decide +kernel
theorem dX8_split_28 : decode cX8_split 28 = .ok (.bipush 32, 2) := by decide +kernel
theorem dX8_split_30 : decode cX8_split 30 = .ok (.if_icmp .eq 15, 3) := by decide +kernel
theorem dX8_split_33 : decode cX8_split 33 = .ok (.aload_n 0, 1) := by decide +kernel
theorem dX8_split_34 : decode cX8_split 34 = .ok (.iload_n 2, 1) := by decide +kernel
theorem dX8_split_35 : decode cX8_split 35 = .ok (.invokevirtual 40, 3) := by decide +kernel
theorem dX8_split_38 : decode cX8_split 38 = .ok (.istore_n 1, 1) := by decide +kernel
theorem dX8_split_39 : decode cX8_split 39 = .ok (.aload_n 0, 1) := by decide +kernel
theorem dX8_split_40 : decode cX8_split 40 = .ok (.iload_n 2, 1) := by decide +kernel
theorem dX8_split_41 : decode cX8_split 41 = .ok (.iload_n 1, 1) := by decide +kernel
theorem dX8_split_42 : decode cX8_split 42 = .ok (.invokevirtual 43, 3) := by decide +kernel
theorem dX8_split_45 : decode cX8_split 45 = .ok (.iinc 2 1, 3) := by decide +kernel
theorem dX8_split_48 : decode cX8_split 48 = .ok (.goto (-39), 3) := by decide +kernel
theorem dX8_split_51 : decode cX8_split 51 = .ok (.aload_n 0, 1) := by decide +kernel
theorem dX8_split_52 : decode cX8_split 52 = .ok (.getfield 15, 3) := by decide +kernel
theorem dX8_split_55 : decode cX8_split 55 = .ok (.aload_n 0, 1) := by decide +kernel
theorem dX8_split_56 : decode cX8_split 56 = .ok (.getfield 33, 3) := by decide +kernel
theorem dX8_split_59 : decode cX8_split 59 = .ok (.iconst 0, 1) := by decide +kernel
theorem dX8_split_60 : decode cX8_split 60 = .ok (.iastore, 1) := by decide +kernel
theorem dX8_split_61 : decode cX8_split 61 = .ok (.aload_n 0, 1) := by decide +kernel
theorem dX8_split_62 : decode cX8_split 62 = .ok (.getfield 19, 3) := by decide +kernel
theorem dX8_split_65 : decode cX8_split 65 = .ok (.aload_n 0, 1) := by decide +kernel
theorem dX8_split_66 : decode cX8_split 66 = .ok (.getfield 33, 3) := by decide +kernel
theorem dX8_split_69 : decode cX8_split 69 = .ok (.aload_n 0, 1) := by decide +kernel
theorem dX8_split_70 : decode cX8_split 70 = .ok (.getfield 25, 3) := by decide +kernel
theorem dX8_split_73 : decode cX8_split 73 = .ok (.iastore, 1) := by decide +kernel
theorem dX8_split_74 : decode cX8_split 74 = .ok (.aload_n 0, 1) := by decide +kernel
theorem dX8_split_75 : decode cX8_split 75 = .ok (.getfield 22, 3) := by decide +kernel
theorem dX8_split_78 : decode cX8_split 78 = .ok (.aload_n 0, 1) := by decide +kernel
theorem dX8_split_79 : decode cX8_split 79 = .ok (.getfield 33, 3) := by decide +kernel
theorem dX8_split_82 : decode cX8_split 82 = .ok (.iconst 0, 1) := by decide +kernel
theorem dX8_split_83 : decode cX8_split 83 = .ok (.iastore, 1) := by decide +kernel
theorem dX8_split_84 : decode cX8_split 84 = .ok (.return_, 1) := by decide +kernel
def S_X8_split_9 (fn : Mem → Int → Int → Option (Mem)) (p : Program) (l : Launch) (e : Env) (R : Room) (s : State) (m : MethodId) (args : Array Value) (below : List Frame) (meth : Method) (c : Code) (G : GT) (τ : Mem) : Prop := ∀ (σ : Mem) (H : Heap) (locs : List Loc) (ls : Array Slot) (l1 : Int) (l2 : Int), PW G σ H → va_S (AA G) s.heap H locs → fn σ l1 l2 = some τ → lv_has ls 3 [(0, .ref (gh G + 42)), (1, .int (i32 l1)), (2, .int (i32 l2))] → W p l e R s m args below meth c H locs 0 0 (MQ below (QM G none τ) args s 0 0 (AA G)) (F0 m 9 ls [])
def X8_split_B45 (rec9 : Mem → Int → Int → Option (Mem)) (σ : Mem) (l1 : Int) (l2 : Int) : Option (Mem) :=
  lt (l2 + 1) fun l2_1 =>
  rec9 σ l1 l2_1
def S_X8_split_45 (fn : Mem → Int → Int → Option (Mem)) (p : Program) (l : Launch) (e : Env) (R : Room) (s : State) (m : MethodId) (args : Array Value) (below : List Frame) (meth : Method) (c : Code) (G : GT) (τ : Mem) : Prop := ∀ (σ : Mem) (H : Heap) (locs : List Loc) (ls : Array Slot) (l1 : Int) (l2 : Int), PW G σ H → va_S (AA G) s.heap H locs → fn σ l1 l2 = some τ → lv_has ls 3 [(0, .ref (gh G + 42)), (1, .int (i32 l1)), (2, .int (i32 l2))] → W p l e R s m args below meth c H locs 0 0 (MQ below (QM G none τ) args s 0 0 (AA G)) (F0 m 45 ls [])
def X8_split_B9 (rec9 : Mem → Int → Int → Option (Mem)) (σ : Mem) (l1 : Int) (l2 : Int) : Option (Mem) :=
  if w32 (σ 42 1) ≤ w32 l2 then
    ag 121 (σ 42 5) fun j1 =>
    lt (st σ 44 j1 0) fun s2 =>
    ag 121 (s2 42 5) fun j3 =>
    lt (st s2 45 j3 (s2 42 1)) fun s4 =>
    ag 121 (s4 42 5) fun j5 =>
    lt (st s4 46 j5 0) fun s6 =>
    some s6
  else
  if w32 l2 < w32 l1 then
    X8_split_B45 rec9 σ l1 l2
  else
  ag 120 l2 fun j7 =>
  if w32 (σ 43 j7) = w32 32 then
    X8_split_B45 rec9 σ l1 l2
  else
  bd (X8_behindToken σ l2) fun r8 =>
  bd (X8_addToken σ l2 r8) fun s10 =>
  X8_split_B45 rec9 s10 r8 l2
def X8_split_L9 : Nat → Mem → Int → Int → Option (Mem)
  | 0 => fun _ _ _ => none
  | n + 1 => X8_split_B9 (X8_split_L9 n)
def X8_split (σ : Mem) : Option (Mem) :=
  lt (st σ 42 5 0) fun s1 =>
  X8_split_L9 5000 s1 0 0
def S_X8_split_0 (fn : Mem → Option (Mem)) (p : Program) (l : Launch) (e : Env) (R : Room) (s : State) (m : MethodId) (args : Array Value) (below : List Frame) (meth : Method) (c : Code) (G : GT) (τ : Mem) : Prop := ∀ (σ : Mem) (H : Heap) (locs : List Loc) (ls : Array Slot), PW G σ H → va_S (AA G) s.heap H locs → fn σ = some τ → lv_has ls 3 [(0, .ref (gh G + 42))] → W p l e R s m args below meth c H locs 0 0 (MQ below (QM G none τ) args s 0 0 (AA G)) (F0 m 0 ls [])
set_option maxHeartbeats 4000000 in
theorem a_X8_split_45 {p : Program} {l : Launch} {e : Env} {R : Room} {s : State} {m : MethodId} {args : Array Value} {below : List Frame} {meth : Method} {c : Code} {G : GT} {τ : Mem} {rec9 : Mem → Int → Int → Option (Mem)} (X : CX p R s m args meth c cX8_split 3 RX8 none 9 368 G) (h9 : S_X8_split_9 rec9 p l e R s m args below meth c G τ) : S_X8_split_45 (X8_split_B45 rec9) p l e R s m args below meth c G τ := by
  intro σ H locs ls l1 l2 hP hS hf hl
  unfold X8_split_B45 at hf
  obtain ⟨l2_1, el2_1, hf⟩ := lt_inv hf
  refine lv_iinc (v := i32 l2_1) (lv' := [(2, .int (i32 l2_1)), (0, .ref (gh G + 42)), (1, .int (i32 l1))]) X.1 X.2.1 dX8_split_45 hl (k := 2) rfl (by rw [← el2_1]; exact i32_add _ _) (by decide) rfl (fun ls hl => ?_)
  refine lv_goto (tgt := 9) X.1 X.2.1 dX8_split_48 (by decide) ?_
  exact h9 σ H locs ls l1 l2_1 hP hS hf (lv_sub hl [1, 2, 0] rfl)
set_option maxHeartbeats 4000000 in
theorem a_X8_split_9 {p : Program} {l : Launch} {e : Env} {R : Room} {s : State} {m : MethodId} {args : Array Value} {below : List Frame} {meth : Method} {c : Code} {G : GT} {τ : Mem} {rec9 : Mem → Int → Int → Option (Mem)} (X : CX p R s m args meth c cX8_split 3 RX8 none 9 368 G) (h9 : S_X8_split_9 rec9 p l e R s m args below meth c G τ) : S_X8_split_9 (X8_split_B9 rec9) p l e R s m args below meth c G τ := by
  intro σ H locs ls l1 l2 hP hS hf hl
  unfold X8_split_B9 at hf
  refine lv_iload_n X.1 X.2.1 dX8_split_9 rfl (lv_at hl 2 rfl) ?_
  refine lv_aload_n X.1 X.2.1 dX8_split_10 rfl (lv_at hl 0 rfl) ?_
  refine g_8_1 X hP ks_8 (tb t_195 rfl) dX8_split_11 ?_
  refine r_icmp_ge (tgt := 51) X dX8_split_14 (by decide) (fun q => ?_) (fun q => ?_)
  · replace hf := it_inv q hf
    refine lv_aload_n X.1 X.2.1 dX8_split_51 rfl (lv_at hl 0 rfl) ?_
    refine g_8_2 (r := 44) X hP ks_8 rfl (tb t_197 rfl) dX8_split_52 ?_
    refine lv_aload_n X.1 X.2.1 dX8_split_55 rfl (lv_at hl 0 rfl) ?_
    refine g_8_5 X hP ks_8 (tb t_200 rfl) dX8_split_56 ?_
    refine r_iconst X 0 dX8_split_59 ?_
    obtain ⟨j1, hij1, hjj1, hlj1, hf⟩ := ag_inv hf
    refine r_iast X hP hS (ch_8_2 ks_8).1 (ch_8_2 ks_8).2 hij1 hjj1 dX8_split_60 (fun H locs hP hS => ?_)
    obtain ⟨s2, es2, hf⟩ := lt_inv hf
    rw [es2] at hP
    refine lv_aload_n X.1 X.2.1 dX8_split_61 rfl (lv_at hl 0 rfl) ?_
    refine g_8_3 (r := 45) X hP ks_8 rfl (tb t_198 rfl) dX8_split_62 ?_
    refine lv_aload_n X.1 X.2.1 dX8_split_65 rfl (lv_at hl 0 rfl) ?_
    refine g_8_5 X hP ks_8 (tb t_200 rfl) dX8_split_66 ?_
    refine lv_aload_n X.1 X.2.1 dX8_split_69 rfl (lv_at hl 0 rfl) ?_
    refine g_8_1 X hP ks_8 (tb t_195 rfl) dX8_split_70 ?_
    obtain ⟨j3, hij3, hjj3, hlj3, hf⟩ := ag_inv hf
    refine r_iast X hP hS (ch_8_3 ks_8).1 (ch_8_3 ks_8).2 hij3 hjj3 dX8_split_73 (fun H locs hP hS => ?_)
    obtain ⟨s4, es4, hf⟩ := lt_inv hf
    rw [es4] at hP
    refine lv_aload_n X.1 X.2.1 dX8_split_74 rfl (lv_at hl 0 rfl) ?_
    refine g_8_4 (r := 46) X hP ks_8 rfl (tb t_199 rfl) dX8_split_75 ?_
    refine lv_aload_n X.1 X.2.1 dX8_split_78 rfl (lv_at hl 0 rfl) ?_
    refine g_8_5 X hP ks_8 (tb t_200 rfl) dX8_split_79 ?_
    refine r_iconst X 0 dX8_split_82 ?_
    obtain ⟨j5, hij5, hjj5, hlj5, hf⟩ := ag_inv hf
    refine r_iast X hP hS (ch_8_4 ks_8).1 (ch_8_4 ks_8).2 hij5 hjj5 dX8_split_83 (fun H locs hP hS => ?_)
    obtain ⟨s6, es6, hf⟩ := lt_inv hf
    rw [es6] at hP
    cases so_inv hf
    exact r_vret X hP hS dX8_split_84
  · replace hf := ie_inv q hf
    refine lv_iload_n X.1 X.2.1 dX8_split_17 rfl (lv_at hl 2 rfl) ?_
    refine lv_iload_n X.1 X.2.1 dX8_split_18 rfl (lv_at hl 1 rfl) ?_
    refine r_icmp_lt (tgt := 45) X dX8_split_19 (by decide) (fun q => ?_) (fun q => ?_)
    · replace hf := it_inv q hf
      exact a_X8_split_45 X h9 σ H locs ls l1 l2 hP hS hf hl
    · replace hf := ie_inv q hf
      refine lv_aload_n X.1 X.2.1 dX8_split_22 rfl (lv_at hl 0 rfl) ?_
      refine g_8_0 (r := 43) X hP ks_8 rfl (tb t_194 rfl) dX8_split_23 ?_
      refine lv_iload_n X.1 X.2.1 dX8_split_26 rfl (lv_at hl 2 rfl) ?_
      obtain ⟨j7, hij7, hjj7, hlj7, hf⟩ := ag_inv hf
      refine r_bald X hP (ch_8_0 ks_8).1 (ch_8_0 ks_8).2 hij7 hjj7 dX8_split_27 ?_
      refine r_bipush X 32 (by decide) dX8_split_28 ?_
      refine r_icmp_eq (tgt := 45) X dX8_split_30 (by decide) (fun q => ?_) (fun q => ?_)
      · replace hf := it_inv q hf
        exact a_X8_split_45 X h9 σ H locs ls l1 l2 hP hS hf hl
      · replace hf := ie_inv q hf
        refine lv_aload_n X.1 X.2.1 dX8_split_33 rfl (lv_at hl 0 rfl) ?_
        refine lv_iload_n X.1 X.2.1 dX8_split_34 rfl (lv_at hl 2 rfl) ?_
        obtain ⟨r8, hr8, hf⟩ := bd_inv hf
        refine k_X8_behindToken X hP hS hl.1  hr8 (tb t_485 rfl) (by decide) (Nat.le_of_ble_eq_true rfl) dX8_split_35 (fun H locs hP hS => ?_)
        refine lv_istore_n (lv' := [(1, .int (i32 r8)), (0, .ref (gh G + 42)), (2, .int (i32 l2))]) X.1 X.2.1 dX8_split_38 rfl hl (by decide) rfl (fun ls hl => ?_)
        refine lv_aload_n X.1 X.2.1 dX8_split_39 rfl (lv_at hl 1 rfl) ?_
        refine lv_iload_n X.1 X.2.1 dX8_split_40 rfl (lv_at hl 2 rfl) ?_
        refine lv_iload_n X.1 X.2.1 dX8_split_41 rfl (lv_at hl 0 rfl) ?_
        obtain ⟨s10, hr9, hf⟩ := bd_inv hf
        refine k_X8_addToken X hP hS hl.1  hr9 (tb t_497 rfl) (by decide) (Nat.le_of_ble_eq_true rfl) dX8_split_42 (fun H locs hP hS => ?_)
        exact a_X8_split_45 X h9 s10 H locs ls r8 l2 hP hS hf (lv_sub hl [1, 0, 2] rfl)
theorem al_X8_split_9 {p : Program} {l : Launch} {e : Env} {R : Room} {s : State} {m : MethodId} {args : Array Value} {below : List Frame} {meth : Method} {c : Code} {G : GT} {τ : Mem} (X : CX p R s m args meth c cX8_split 3 RX8 none 9 368 G) : ∀ n, S_X8_split_9 (X8_split_L9 n) p l e R s m args below meth c G τ := by
  intro n
  induction n with
  | zero =>
    intro σ H locs ls l1 l2 hP hS hf hl
    cases hf
  | succ n ih => exact a_X8_split_9 X ih
set_option maxHeartbeats 4000000 in
theorem a_X8_split_0 {p : Program} {l : Launch} {e : Env} {R : Room} {s : State} {m : MethodId} {args : Array Value} {below : List Frame} {meth : Method} {c : Code} {G : GT} {τ : Mem} (X : CX p R s m args meth c cX8_split 3 RX8 none 9 368 G) : S_X8_split_0 (X8_split) p l e R s m args below meth c G τ := by
  intro σ H locs ls hP hS hf hl
  unfold X8_split at hf
  refine lv_aload_n X.1 X.2.1 dX8_split_0 rfl (lv_at hl 0 rfl) ?_
  refine r_iconst X 0 dX8_split_1 ?_
  refine p_8_5 X hP hS ks_8 (tb t_200 rfl) dX8_split_2 (fun H locs hP hS => ?_)
  obtain ⟨s1, es1, hf⟩ := lt_inv hf
  rw [es1] at hP
  refine r_iconst X 0 dX8_split_5 ?_
  refine lv_istore_n (lv' := [(1, .int (i32 0)), (0, .ref (gh G + 42))]) X.1 X.2.1 dX8_split_6 rfl hl (by decide) rfl (fun ls hl => ?_)
  refine r_iconst X 0 dX8_split_7 ?_
  refine lv_istore_n (lv' := [(2, .int (i32 0)), (1, .int (i32 0)), (0, .ref (gh G + 42))]) X.1 X.2.1 dX8_split_8 rfl hl (by decide) rfl (fun ls hl => ?_)
  exact al_X8_split_9 X 5000 s1 H locs ls 0 0 hP hS hf (lv_sub hl [2, 1, 0] rfl)
set_option maxHeartbeats 4000000 in
theorem c_X8_split {l : Launch} {G : GT} {σ τ : Mem} (hf : X8_split σ = some τ) : CT l yX8_split cX8_split 3 none 9 368 G [.ref (gh G + 42)] σ τ none := by
  refine CT.mk (own := RX8) (by decide) rfl (Nat.le_of_ble_eq_true rfl) ?_
  intro p e s m below meth c ls X hP hS hl
  have hl : lv_has ls 3 [(0, .ref (gh G + 42))] := hl
  exact a_X8_split_0 X σ s.heap [] ls hP hS hf hl
theorem k_X8_split {p : Program} {l : Launch} {e : Env} {R : Room} {s : State} {m : MethodId} {args : Array Value} {below : List Frame} {meth : Method} {c : Code} {H : Heap} {locs : List Loc} {Q : State → Prop} {cc : ByteArray} {nL : Nat} {own : String} {ret : Option FieldType} {fF fL : Nat} {G : GT} {pc idx : Nat} {ls : Array Slot} {rest : List Value} {σ τ : Mem} (X : CX p R s m args meth c cc nL own ret fF fL G) (hP : PW G σ H) (hS : va_S (AA G) s.heap H locs) (hls : ls.size = nL) (hf : X8_split σ = some τ) (h1 : Cond.methodLink own idx yX8_split ∈ TB) (hR : 9 + 1 ≤ fF ∧ 8 + (3 + 11) + 368 ≤ fL) (hW : (rest.map fun v => v.category).sum ≤ 8) (hd : decode cc pc = .ok (.invokevirtual idx, 3)) (kk : ∀ (H1 : Heap) (locs1 : List Loc), PW G τ H1 → va_S (AA G) s.heap H1 locs1 → W p l e R s m args below meth c H1 locs1 0 0 Q (F0 m (pc + 3) ls (rest))) : W p l e R s m args below meth c H locs 0 0 Q (F0 m pc ls (.ref (gh G + 42) :: rest)) := r_callV (n := 0) X hP hS hls (c_X8_split hf) h1 (tb t_482 rfl) (tb t_483 rfl) (tb t_81 rfl) (tb t_484 rfl) (by decide +kernel) hR (r_recv X hP (kd_lt ks_8 (by decide)) (cE_8 ks_8) rfl) rfl rfl hW hd kk
/-! X8_known -/
theorem dX8_known_0 : decode cX8_known 0 = .ok (.iload_n 1, 1) := by decide +kernel
theorem dX8_known_1 : decode cX8_known 1 = .ok (.ifCond .lt 15, 3) := by decide +kernel
theorem dX8_known_4 : decode cX8_known 4 = .ok (.iload_n 1, 1) := by decide +kernel
theorem dX8_known_5 : decode cX8_known 5 = .ok (.aload_n 0, 1) := by decide +kernel
theorem dX8_known_6 : decode cX8_known 6 = .ok (.getfield 33, 3) := by decide +kernel
theorem dX8_known_9 : decode cX8_known 9 = .ok (.if_icmp .ge 7, 3) := by decide +kernel
theorem dX8_known_12 : decode cX8_known 12 = .ok (.iload_n 1, 1) := by decide +kernel
theorem dX8_known_13 : decode cX8_known 13 = .ok (.goto 7, 3) := by decide +kernel
theorem dX8_known_16 : decode cX8_known 16 = .ok (.aload_n 0, 1) := by decide +kernel
theorem dX8_known_17 : decode cX8_known 17 = .ok (.getfield 33, 3) := by decide +kernel
theorem dX8_known_20 : decode cX8_known 20 = .ok (.ireturn, 1) := by decide +kernel
def X8_known (σ : Mem) (l1 : Int) : Option (Int) :=
  if w32 l1 < 0 then
    some (σ 42 5)
  else
  if w32 (σ 42 5) ≤ w32 l1 then
    some (σ 42 5)
  else
  some l1
def S_X8_known_0 (fn : Int → Option (Int)) (p : Program) (l : Launch) (e : Env) (R : Room) (s : State) (m : MethodId) (args : Array Value) (below : List Frame) (meth : Method) (c : Code) (G : GT) (σ : Mem) (res : Int) : Prop := ∀ (H : Heap) (locs : List Loc) (ls : Array Slot) (l1 : Int), PW G σ H → va_S (AA G) s.heap H locs → fn l1 = some res → lv_has ls 2 [(0, .ref (gh G + 42)), (1, .int (i32 l1))] → W p l e R s m args below meth c H locs 0 0 (MQ below (QM G (some (.int (i32 res))) σ) args s 0 0 (AA G)) (F0 m 0 ls [])
set_option maxHeartbeats 4000000 in
theorem a_X8_known_0 {p : Program} {l : Launch} {e : Env} {R : Room} {s : State} {m : MethodId} {args : Array Value} {below : List Frame} {meth : Method} {c : Code} {G : GT} {σ : Mem} {res : Int} (X : CX p R s m args meth c cX8_known 2 RX8 (some FieldType.int) 1 60 G) : S_X8_known_0 (X8_known σ) p l e R s m args below meth c G σ res := by
  intro H locs ls l1 hP hS hf hl
  unfold X8_known at hf
  refine lv_iload_n X.1 X.2.1 dX8_known_0 rfl (lv_at hl 1 rfl) ?_
  refine r_if_lt (tgt := 16) X dX8_known_1 (by decide) (fun q => ?_) (fun q => ?_)
  · replace hf := it_inv q hf
    refine lv_aload_n X.1 X.2.1 dX8_known_16 rfl (lv_at hl 0 rfl) ?_
    refine g_8_5 X hP ks_8 (tb t_200 rfl) dX8_known_17 ?_
    cases so_inv hf
    exact r_iret X hP hS dX8_known_20
  · replace hf := ie_inv q hf
    refine lv_iload_n X.1 X.2.1 dX8_known_4 rfl (lv_at hl 1 rfl) ?_
    refine lv_aload_n X.1 X.2.1 dX8_known_5 rfl (lv_at hl 0 rfl) ?_
    refine g_8_5 X hP ks_8 (tb t_200 rfl) dX8_known_6 ?_
    refine r_icmp_ge (tgt := 16) X dX8_known_9 (by decide) (fun q => ?_) (fun q => ?_)
    · replace hf := it_inv q hf
      refine lv_aload_n X.1 X.2.1 dX8_known_16 rfl (lv_at hl 0 rfl) ?_
      refine g_8_5 X hP ks_8 (tb t_200 rfl) dX8_known_17 ?_
      cases so_inv hf
      exact r_iret X hP hS dX8_known_20
    · replace hf := ie_inv q hf
      refine lv_iload_n X.1 X.2.1 dX8_known_12 rfl (lv_at hl 1 rfl) ?_
      refine lv_goto (tgt := 20) X.1 X.2.1 dX8_known_13 (by decide) ?_
      cases so_inv hf
      exact r_iret X hP hS dX8_known_20
set_option maxHeartbeats 4000000 in
theorem c_X8_known {l : Launch} {G : GT} {σ : Mem} {res : Int} {l1 : Int} (hf : X8_known σ l1 = some res) : CT l yX8_known cX8_known 2 (some FieldType.int) 1 60 G [.ref (gh G + 42), .int (i32 l1)] σ σ (some (.int (i32 res))) := by
  refine CT.mk (own := RX8) (by decide) rfl (Nat.le_of_ble_eq_true rfl) ?_
  intro p e s m below meth c ls X hP hS hl
  have hl : lv_has ls 2 [(0, .ref (gh G + 42)), (1, .int (i32 l1))] := hl
  exact a_X8_known_0 X  s.heap [] ls l1 hP hS hf hl
theorem k_X8_known {p : Program} {l : Launch} {e : Env} {R : Room} {s : State} {m : MethodId} {args : Array Value} {below : List Frame} {meth : Method} {c : Code} {H : Heap} {locs : List Loc} {Q : State → Prop} {cc : ByteArray} {nL : Nat} {own : String} {ret : Option FieldType} {fF fL : Nat} {G : GT} {pc idx : Nat} {ls : Array Slot} {rest : List Value} {σ : Mem} {res : Int} {l1 : Int} (X : CX p R s m args meth c cc nL own ret fF fL G) (hP : PW G σ H) (hS : va_S (AA G) s.heap H locs) (hls : ls.size = nL) (hf : X8_known σ l1 = some res) (h1 : Cond.methodLink own idx yX8_known ∈ TB) (hR : 1 + 1 ≤ fF ∧ 8 + (2 + 11) + 60 ≤ fL) (hW : (rest.map fun v => v.category).sum ≤ 8) (hd : decode cc pc = .ok (.invokevirtual idx, 3)) (kk : ∀ (H1 : Heap) (locs1 : List Loc), PW G σ H1 → va_S (AA G) s.heap H1 locs1 → W p l e R s m args below meth c H1 locs1 0 0 Q (F0 m (pc + 3) ls (.int (i32 res) :: rest))) : W p l e R s m args below meth c H locs 0 0 Q (F0 m pc ls (.int (i32 l1) :: .ref (gh G + 42) :: rest)) := r_callV (n := 1) X hP hS hls (c_X8_known hf) h1 (tb t_577 rfl) (tb t_11 rfl) (tb t_81 rfl) (tb t_578 rfl) (by decide +kernel) hR (r_recv X hP (kd_lt ks_8 (by decide)) (cE_8 ks_8) rfl) rfl rfl hW hd kk
/-! X8_kindOf -/
theorem dX8_kindOf_0 : decode cX8_kindOf 0 = .ok (.aload_n 0, 1) := by decide +kernel
theorem dX8_kindOf_1 : decode cX8_kindOf 1 = .ok (.getfield 15, 3) := by decide +kernel
theorem dX8_kindOf_4 : decode cX8_kindOf 4 = .ok (.aload_n 0, 1) := by decide +kernel
theorem dX8_kindOf_5 : decode cX8_kindOf 5 = .ok (.iload_n 1, 1) := by decide +kernel
theorem dX8_kindOf_6 : decode cX8_kindOf 6 = .ok (.invokevirtual 36, 3) := by decide +kernel
theorem dX8_kindOf_9 : decode cX8_kindOf 9 = .ok (.iaload, 1) := by decide +kernel
theorem dX8_kindOf_10 : decode cX8_kindOf 10 = .ok (.ireturn, 1) := by decide +kernel
def X8_kindOf (σ : Mem) (l1 : Int) : Option (Int) :=
  bd (X8_known σ l1) fun r1 =>
  ag 121 r1 fun j2 =>
  some (σ 44 j2)
def S_X8_kindOf_0 (fn : Int → Option (Int)) (p : Program) (l : Launch) (e : Env) (R : Room) (s : State) (m : MethodId) (args : Array Value) (below : List Frame) (meth : Method) (c : Code) (G : GT) (σ : Mem) (res : Int) : Prop := ∀ (H : Heap) (locs : List Loc) (ls : Array Slot) (l1 : Int), PW G σ H → va_S (AA G) s.heap H locs → fn l1 = some res → lv_has ls 2 [(0, .ref (gh G + 42)), (1, .int (i32 l1))] → W p l e R s m args below meth c H locs 0 0 (MQ below (QM G (some (.int (i32 res))) σ) args s 0 0 (AA G)) (F0 m 0 ls [])
set_option maxHeartbeats 4000000 in
theorem a_X8_kindOf_0 {p : Program} {l : Launch} {e : Env} {R : Room} {s : State} {m : MethodId} {args : Array Value} {below : List Frame} {meth : Method} {c : Code} {G : GT} {σ : Mem} {res : Int} (X : CX p R s m args meth c cX8_kindOf 2 RX8 (some FieldType.int) 2 81 G) : S_X8_kindOf_0 (X8_kindOf σ) p l e R s m args below meth c G σ res := by
  intro H locs ls l1 hP hS hf hl
  unfold X8_kindOf at hf
  refine lv_aload_n X.1 X.2.1 dX8_kindOf_0 rfl (lv_at hl 0 rfl) ?_
  refine g_8_2 (r := 44) X hP ks_8 rfl (tb t_197 rfl) dX8_kindOf_1 ?_
  refine lv_aload_n X.1 X.2.1 dX8_kindOf_4 rfl (lv_at hl 0 rfl) ?_
  refine lv_iload_n X.1 X.2.1 dX8_kindOf_5 rfl (lv_at hl 1 rfl) ?_
  obtain ⟨r1, hr1, hf⟩ := bd_inv hf
  refine k_X8_known X hP hS hl.1  hr1 (tb t_575 rfl) (by decide) (Nat.le_of_ble_eq_true rfl) dX8_kindOf_6 (fun H locs hP hS => ?_)
  obtain ⟨j2, hij2, hjj2, hlj2, hf⟩ := ag_inv hf
  refine r_iald X hP (ch_8_2 ks_8).1 (ch_8_2 ks_8).2 hij2 hjj2 dX8_kindOf_9 ?_
  cases so_inv hf
  exact r_iret X hP hS dX8_kindOf_10
set_option maxHeartbeats 4000000 in
theorem c_X8_kindOf {l : Launch} {G : GT} {σ : Mem} {res : Int} {l1 : Int} (hf : X8_kindOf σ l1 = some res) : CT l yX8_kindOf cX8_kindOf 2 (some FieldType.int) 2 81 G [.ref (gh G + 42), .int (i32 l1)] σ σ (some (.int (i32 res))) := by
  refine CT.mk (own := RX8) (by decide) rfl (Nat.le_of_ble_eq_true rfl) ?_
  intro p e s m below meth c ls X hP hS hl
  have hl : lv_has ls 2 [(0, .ref (gh G + 42)), (1, .int (i32 l1))] := hl
  exact a_X8_kindOf_0 X  s.heap [] ls l1 hP hS hf hl
theorem k_X8_kindOf {p : Program} {l : Launch} {e : Env} {R : Room} {s : State} {m : MethodId} {args : Array Value} {below : List Frame} {meth : Method} {c : Code} {H : Heap} {locs : List Loc} {Q : State → Prop} {cc : ByteArray} {nL : Nat} {own : String} {ret : Option FieldType} {fF fL : Nat} {G : GT} {pc idx : Nat} {ls : Array Slot} {rest : List Value} {σ : Mem} {res : Int} {l1 : Int} (X : CX p R s m args meth c cc nL own ret fF fL G) (hP : PW G σ H) (hS : va_S (AA G) s.heap H locs) (hls : ls.size = nL) (hf : X8_kindOf σ l1 = some res) (h1 : Cond.methodLink own idx yX8_kindOf ∈ TB) (hR : 2 + 1 ≤ fF ∧ 8 + (2 + 11) + 81 ≤ fL) (hW : (rest.map fun v => v.category).sum ≤ 8) (hd : decode cc pc = .ok (.invokevirtual idx, 3)) (kk : ∀ (H1 : Heap) (locs1 : List Loc), PW G σ H1 → va_S (AA G) s.heap H1 locs1 → W p l e R s m args below meth c H1 locs1 0 0 Q (F0 m (pc + 3) ls (.int (i32 res) :: rest))) : W p l e R s m args below meth c H locs 0 0 Q (F0 m pc ls (.int (i32 l1) :: .ref (gh G + 42) :: rest)) := r_callV (n := 1) X hP hS hls (c_X8_kindOf hf) h1 (tb t_572 rfl) (tb t_573 rfl) (tb t_81 rfl) (tb t_574 rfl) (by decide +kernel) hR (r_recv X hP (kd_lt ks_8 (by decide)) (cE_8 ks_8) rfl) rfl rfl hW hd kk
/-! X8_valueOf -/
theorem dX8_valueOf_0 : decode cX8_valueOf 0 = .ok (.aload_n 0, 1) := by decide +kernel
theorem dX8_valueOf_1 : decode cX8_valueOf 1 = .ok (.getfield 22, 3) := by decide +kernel
theorem dX8_valueOf_4 : decode cX8_valueOf 4 = .ok (.aload_n 0, 1) := by decide +kernel
theorem dX8_valueOf_5 : decode cX8_valueOf 5 = .ok (.iload_n 1, 1) := by decide +kernel
theorem dX8_valueOf_6 : decode cX8_valueOf 6 = .ok (.invokevirtual 36, 3) := by decide +kernel
theorem dX8_valueOf_9 : decode cX8_valueOf 9 = .ok (.iaload, 1) := by decide +kernel
theorem dX8_valueOf_10 : decode cX8_valueOf 10 = .ok (.ireturn, 1) := by decide +kernel
def X8_valueOf (σ : Mem) (l1 : Int) : Option (Int) :=
  bd (X8_known σ l1) fun r1 =>
  ag 121 r1 fun j2 =>
  some (σ 46 j2)
def S_X8_valueOf_0 (fn : Int → Option (Int)) (p : Program) (l : Launch) (e : Env) (R : Room) (s : State) (m : MethodId) (args : Array Value) (below : List Frame) (meth : Method) (c : Code) (G : GT) (σ : Mem) (res : Int) : Prop := ∀ (H : Heap) (locs : List Loc) (ls : Array Slot) (l1 : Int), PW G σ H → va_S (AA G) s.heap H locs → fn l1 = some res → lv_has ls 2 [(0, .ref (gh G + 42)), (1, .int (i32 l1))] → W p l e R s m args below meth c H locs 0 0 (MQ below (QM G (some (.int (i32 res))) σ) args s 0 0 (AA G)) (F0 m 0 ls [])
set_option maxHeartbeats 4000000 in
theorem a_X8_valueOf_0 {p : Program} {l : Launch} {e : Env} {R : Room} {s : State} {m : MethodId} {args : Array Value} {below : List Frame} {meth : Method} {c : Code} {G : GT} {σ : Mem} {res : Int} (X : CX p R s m args meth c cX8_valueOf 2 RX8 (some FieldType.int) 2 81 G) : S_X8_valueOf_0 (X8_valueOf σ) p l e R s m args below meth c G σ res := by
  intro H locs ls l1 hP hS hf hl
  unfold X8_valueOf at hf
  refine lv_aload_n X.1 X.2.1 dX8_valueOf_0 rfl (lv_at hl 0 rfl) ?_
  refine g_8_4 (r := 46) X hP ks_8 rfl (tb t_199 rfl) dX8_valueOf_1 ?_
  refine lv_aload_n X.1 X.2.1 dX8_valueOf_4 rfl (lv_at hl 0 rfl) ?_
  refine lv_iload_n X.1 X.2.1 dX8_valueOf_5 rfl (lv_at hl 1 rfl) ?_
  obtain ⟨r1, hr1, hf⟩ := bd_inv hf
  refine k_X8_known X hP hS hl.1  hr1 (tb t_575 rfl) (by decide) (Nat.le_of_ble_eq_true rfl) dX8_valueOf_6 (fun H locs hP hS => ?_)
  obtain ⟨j2, hij2, hjj2, hlj2, hf⟩ := ag_inv hf
  refine r_iald X hP (ch_8_4 ks_8).1 (ch_8_4 ks_8).2 hij2 hjj2 dX8_valueOf_9 ?_
  cases so_inv hf
  exact r_iret X hP hS dX8_valueOf_10
set_option maxHeartbeats 4000000 in
theorem c_X8_valueOf {l : Launch} {G : GT} {σ : Mem} {res : Int} {l1 : Int} (hf : X8_valueOf σ l1 = some res) : CT l yX8_valueOf cX8_valueOf 2 (some FieldType.int) 2 81 G [.ref (gh G + 42), .int (i32 l1)] σ σ (some (.int (i32 res))) := by
  refine CT.mk (own := RX8) (by decide) rfl (Nat.le_of_ble_eq_true rfl) ?_
  intro p e s m below meth c ls X hP hS hl
  have hl : lv_has ls 2 [(0, .ref (gh G + 42)), (1, .int (i32 l1))] := hl
  exact a_X8_valueOf_0 X  s.heap [] ls l1 hP hS hf hl
theorem k_X8_valueOf {p : Program} {l : Launch} {e : Env} {R : Room} {s : State} {m : MethodId} {args : Array Value} {below : List Frame} {meth : Method} {c : Code} {H : Heap} {locs : List Loc} {Q : State → Prop} {cc : ByteArray} {nL : Nat} {own : String} {ret : Option FieldType} {fF fL : Nat} {G : GT} {pc idx : Nat} {ls : Array Slot} {rest : List Value} {σ : Mem} {res : Int} {l1 : Int} (X : CX p R s m args meth c cc nL own ret fF fL G) (hP : PW G σ H) (hS : va_S (AA G) s.heap H locs) (hls : ls.size = nL) (hf : X8_valueOf σ l1 = some res) (h1 : Cond.methodLink own idx yX8_valueOf ∈ TB) (hR : 2 + 1 ≤ fF ∧ 8 + (2 + 11) + 81 ≤ fL) (hW : (rest.map fun v => v.category).sum ≤ 8) (hd : decode cc pc = .ok (.invokevirtual idx, 3)) (kk : ∀ (H1 : Heap) (locs1 : List Loc), PW G σ H1 → va_S (AA G) s.heap H1 locs1 → W p l e R s m args below meth c H1 locs1 0 0 Q (F0 m (pc + 3) ls (.int (i32 res) :: rest))) : W p l e R s m args below meth c H locs 0 0 Q (F0 m pc ls (.int (i32 l1) :: .ref (gh G + 42) :: rest)) := r_callV (n := 1) X hP hS hls (c_X8_valueOf hf) h1 (tb t_588 rfl) (tb t_589 rfl) (tb t_81 rfl) (tb t_590 rfl) (by decide +kernel) hR (r_recv X hP (kd_lt ks_8 (by decide)) (cE_8 ks_8) rfl) rfl rfl hW hd kk
/-! X9_isNumber -/
theorem dX9_isNumber_0 : decode cX9_isNumber 0 = .ok (.aload_n 0, 1) := by decide +kernel
theorem dX9_isNumber_1 : decode cX9_isNumber 1 = .ok (.getfield 12, 3) := by decide +kernel
theorem dX9_isNumber_4 : decode cX9_isNumber 4 = .ok (.aload_n 0, 1) := by decide +kernel
theorem dX9_isNumber_5 : decode cX9_isNumber 5 = .ok (.getfield 31, 3) := by decide +kernel
theorem dX9_isNumber_8 : decode cX9_isNumber 8 = .ok (.invokevirtual 45, 3) := by decide +kernel
theorem dX9_isNumber_11 : decode cX9_isNumber 11 = .ok (.iconst 2, 1) := by decide +kernel
theorem dX9_isNumber_12 : decode cX9_isNumber 12 = .ok (.if_icmp .ne 26, 3) := by decide +kernel
theorem dX9_isNumber_15 : decode cX9_isNumber 15 = .ok (.aload_n 0, 1) := by decide +kernel
theorem dX9_isNumber_16 : decode cX9_isNumber 16 = .ok (.getfield 12, 3) := by decide +kernel
theorem dX9_isNumber_19 : decode cX9_isNumber 19 = .ok (.aload_n 0, 1) := by decide +kernel
theorem dX9_isNumber_20 : decode cX9_isNumber 20 = .ok (.getfield 31, 3) := by decide +kernel
theorem dX9_isNumber_23 : decode cX9_isNumber 23 = .ok (.invokevirtual 66, 3) := by decide +kernel
theorem dX9_isNumber_26 : decode cX9_isNumber 26 = .ok (.iload_n 1, 1) := by decide +kernel
theorem dX9_isNumber_27 : decode cX9_isNumber 27 = .ok (.iload_n 2, 1) := by decide +kernel
theorem dX9_isNumber_28 : decode cX9_isNumber 28 = .ok (.invokestatic 91, 3) := by decide +kernel
theorem dX9_isNumber_31 : decode cX9_isNumber 31 = .ok (.ifCond .eq 7, 3) := by decide +kernel
theorem dX9_isNumber_34 : decode cX9_isNumber 34 = .ok (.iconst 1, 1) := by decide +kernel
theorem dX9_isNumber_35 : decode cX9_isNumber 35 = .ok (.goto 4, 3) := by decide +kernel
theorem dX9_isNumber_38 : decode cX9_isNumber 38 = .ok (.iconst 0, 1) := by decide +kernel
theorem dX9_isNumber_39 : decode cX9_isNumber 39 = .ok (.ireturn, 1) := by decide +kernel
def X9_isNumber (σ : Mem) (l1 : Int) (l2 : Int) : Option (Int) :=
  bd (X8_kindOf σ (σ 41 1)) fun r1 =>
  if w32 r1 ≠ w32 2 then
    some 0
  else
  bd (X8_valueOf σ (σ 41 1)) fun r2 =>
  bd (X10_within σ r2 l1 l2) fun r3 =>
  if w32 r3 = 0 then
    some 0
  else
  some 1
def S_X9_isNumber_0 (fn : Int → Int → Option (Int)) (p : Program) (l : Launch) (e : Env) (R : Room) (s : State) (m : MethodId) (args : Array Value) (below : List Frame) (meth : Method) (c : Code) (G : GT) (σ : Mem) (res : Int) : Prop := ∀ (H : Heap) (locs : List Loc) (ls : Array Slot) (l1 : Int) (l2 : Int), PW G σ H → va_S (AA G) s.heap H locs → fn l1 l2 = some res → lv_has ls 3 [(0, .ref (gh G + 41)), (1, .int (i32 l1)), (2, .int (i32 l2))] → W p l e R s m args below meth c H locs 0 0 (MQ below (QM G (some (.int (i32 res))) σ) args s 0 0 (AA G)) (F0 m 0 ls [])
set_option maxHeartbeats 4000000 in
theorem a_X9_isNumber_0 {p : Program} {l : Launch} {e : Env} {R : Room} {s : State} {m : MethodId} {args : Array Value} {below : List Frame} {meth : Method} {c : Code} {G : GT} {σ : Mem} {res : Int} (X : CX p R s m args meth c cX9_isNumber 3 RX9 (some FieldType.boolean) 3 102 G) : S_X9_isNumber_0 (X9_isNumber σ) p l e R s m args below meth c G σ res := by
  intro H locs ls l1 l2 hP hS hf hl
  unfold X9_isNumber at hf
  refine lv_aload_n X.1 X.2.1 dX9_isNumber_0 rfl (lv_at hl 0 rfl) ?_
  refine g_9_0 (r := 42) X hP ks_9 rfl (tb t_215 rfl) dX9_isNumber_1 ?_
  refine lv_aload_n X.1 X.2.1 dX9_isNumber_4 rfl (lv_at hl 0 rfl) ?_
  refine g_9_1 X hP ks_9 (tb t_217 rfl) dX9_isNumber_5 ?_
  obtain ⟨r1, hr1, hf⟩ := bd_inv hf
  refine k_X8_kindOf X hP hS hl.1  hr1 (tb t_571 rfl) (by decide) (Nat.le_of_ble_eq_true rfl) dX9_isNumber_8 (fun H locs hP hS => ?_)
  refine r_iconst X 2 dX9_isNumber_11 ?_
  refine r_icmp_ne (tgt := 38) X dX9_isNumber_12 (by decide) (fun q => ?_) (fun q => ?_)
  · replace hf := it_inv q hf
    refine r_iconst X 0 dX9_isNumber_38 ?_
    cases so_inv hf
    exact r_zret X hP hS (Or.inl rfl) dX9_isNumber_39
  · replace hf := ie_inv q hf
    refine lv_aload_n X.1 X.2.1 dX9_isNumber_15 rfl (lv_at hl 0 rfl) ?_
    refine g_9_0 (r := 42) X hP ks_9 rfl (tb t_215 rfl) dX9_isNumber_16 ?_
    refine lv_aload_n X.1 X.2.1 dX9_isNumber_19 rfl (lv_at hl 0 rfl) ?_
    refine g_9_1 X hP ks_9 (tb t_217 rfl) dX9_isNumber_20 ?_
    obtain ⟨r2, hr2, hf⟩ := bd_inv hf
    refine k_X8_valueOf X hP hS hl.1  hr2 (tb t_587 rfl) (by decide) (Nat.le_of_ble_eq_true rfl) dX9_isNumber_23 (fun H locs hP hS => ?_)
    refine lv_iload_n X.1 X.2.1 dX9_isNumber_26 rfl (lv_at hl 1 rfl) ?_
    refine lv_iload_n X.1 X.2.1 dX9_isNumber_27 rfl (lv_at hl 2 rfl) ?_
    obtain ⟨r3, hr3, hf⟩ := bd_inv hf
    refine kn_X10_within X hP hS hl.1  hr3 (host := RX10) (by decide +kernel) (by decide) (Nat.le_of_ble_eq_true rfl) dX9_isNumber_28 (fun H locs hP hS => ?_)
    refine r_if_eq (tgt := 38) X dX9_isNumber_31 (by decide) (fun q => ?_) (fun q => ?_)
    · replace hf := it_inv q hf
      refine r_iconst X 0 dX9_isNumber_38 ?_
      cases so_inv hf
      exact r_zret X hP hS (Or.inl rfl) dX9_isNumber_39
    · replace hf := ie_inv q hf
      refine r_iconst X 1 dX9_isNumber_34 ?_
      refine lv_goto (tgt := 39) X.1 X.2.1 dX9_isNumber_35 (by decide) ?_
      cases so_inv hf
      exact r_zret X hP hS (Or.inr rfl) dX9_isNumber_39
set_option maxHeartbeats 4000000 in
theorem c_X9_isNumber {l : Launch} {G : GT} {σ : Mem} {res : Int} {l1 : Int} {l2 : Int} (hf : X9_isNumber σ l1 l2 = some res) : CT l yX9_isNumber cX9_isNumber 3 (some FieldType.boolean) 3 102 G [.ref (gh G + 41), .int (i32 l1), .int (i32 l2)] σ σ (some (.int (i32 res))) := by
  refine CT.mk (own := RX9) (by decide) rfl (Nat.le_of_ble_eq_true rfl) ?_
  intro p e s m below meth c ls X hP hS hl
  have hl : lv_has ls 3 [(0, .ref (gh G + 41)), (1, .int (i32 l1)), (2, .int (i32 l2))] := hl
  exact a_X9_isNumber_0 X  s.heap [] ls l1 l2 hP hS hf hl
theorem k_X9_isNumber {p : Program} {l : Launch} {e : Env} {R : Room} {s : State} {m : MethodId} {args : Array Value} {below : List Frame} {meth : Method} {c : Code} {H : Heap} {locs : List Loc} {Q : State → Prop} {cc : ByteArray} {nL : Nat} {own : String} {ret : Option FieldType} {fF fL : Nat} {G : GT} {pc idx : Nat} {ls : Array Slot} {rest : List Value} {σ : Mem} {res : Int} {l1 : Int} {l2 : Int} (X : CX p R s m args meth c cc nL own ret fF fL G) (hP : PW G σ H) (hS : va_S (AA G) s.heap H locs) (hls : ls.size = nL) (hf : X9_isNumber σ l1 l2 = some res) (h1 : Cond.methodLink own idx yX9_isNumber ∈ TB) (hR : 3 + 1 ≤ fF ∧ 8 + (3 + 11) + 102 ≤ fL) (hW : (rest.map fun v => v.category).sum ≤ 8) (hd : decode cc pc = .ok (.invokevirtual idx, 3)) (kk : ∀ (H1 : Heap) (locs1 : List Loc), PW G σ H1 → va_S (AA G) s.heap H1 locs1 → W p l e R s m args below meth c H1 locs1 0 0 Q (F0 m (pc + 3) ls (.int (i32 res) :: rest))) : W p l e R s m args below meth c H locs 0 0 Q (F0 m pc ls (.int (i32 l2) :: .int (i32 l1) :: .ref (gh G + 41) :: rest)) := r_callV (n := 2) X hP hS hls (c_X9_isNumber hf) h1 (tb t_585 rfl) (tb t_13 rfl) (tb t_80 rfl) (tb t_586 rfl) (by decide +kernel) hR (r_recv X hP (kd_lt ks_9 (by decide)) (cE_9 ks_9) rfl) rfl rfl hW hd kk
