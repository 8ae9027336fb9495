/-! X10_cut -/
theorem dX10_cut_0 : decode cX10_cut 0 = .ok (.aload_n 0, 1) := by decide +kernel
theorem dX10_cut_1 : decode cX10_cut 1 = .ok (.iload_n 1, 1) := by decide +kernel
theorem dX10_cut_2 : decode cX10_cut 2 = .ok (.iload_n 2, 1) := by decide +kernel
theorem dX10_cut_3 : decode cX10_cut 3 = .ok (.invokevirtual 141, 3) := by decide +kernel
theorem dX10_cut_6 : decode cX10_cut 6 = .ok (.ifCond .eq 25, 3) := by decide +kernel
theorem dX10_cut_9 : decode cX10_cut 9 = .ok (.iload_n 3, 1) := by decide +kernel
theorem dX10_cut_10 : decode cX10_cut 10 = .ok (.iconst 1, 1) := by decide +kernel
theorem dX10_cut_11 : decode cX10_cut 11 = .ok (.aload_n 0, 1) := by decide +kernel
theorem dX10_cut_12 : decode cX10_cut 12 = .ok (.getfield 10, 3) := by decide +kernel
theorem dX10_cut_15 : decode cX10_cut 15 = .ok (.getfield 77, 3) := by decide +kernel
theorem dX10_cut_18 : decode cX10_cut 18 = .ok (.iload_n 1, 1) := by decide +kernel
theorem dX10_cut_19 : decode cX10_cut 19 = .ok (.aaload, 1) := by decide +kernel
theorem dX10_cut_20 : decode cX10_cut 20 = .ok (.getfield 140, 3) := by decide +kernel
theorem dX10_cut_23 : decode cX10_cut 23 = .ok (.iload_n 2, 1) := by decide +kernel
theorem dX10_cut_24 : decode cX10_cut 24 = .ok (.isub, 1) := by decide +kernel
theorem dX10_cut_25 : decode cX10_cut 25 = .ok (.invokestatic 62, 3) := by decide +kernel
theorem dX10_cut_28 : decode cX10_cut 28 = .ok (.ifCond .ne 10, 3) := by decide +kernel
theorem dX10_cut_31 : decode cX10_cut 31 = .ok (.aload_n 0, 1) := by decide +kernel
theorem dX10_cut_32 : decode cX10_cut 32 = .ok (.ldc 72, 2) := by decide +kernel
theorem dX10_cut_34 : decode cX10_cut 34 = .ok (.invokevirtual 73, 3) := by decide +kernel
theorem dX10_cut_37 : decode cX10_cut 37 = .ok (.ireturn, 1) := by decide +kernel
theorem dX10_cut_38 : decode cX10_cut 38 = .ok (.aload_n 0, 1) := by decide +kernel
theorem dX10_cut_39 : decode cX10_cut 39 = .ok (.getfield 10, 3) := by decide +kernel
theorem dX10_cut_42 : decode cX10_cut 42 = .ok (.getfield 152, 3) := by decide +kernel
theorem dX10_cut_45 : decode cX10_cut 45 = .ok (.iload_n 1, 1) := by decide +kernel
theorem dX10_cut_46 : decode cX10_cut 46 = .ok (.invokevirtual 156, 3) := by decide +kernel
theorem dX10_cut_49 : decode cX10_cut 49 = .ok (.ifCond .le 10, 3) := by decide +kernel
theorem dX10_cut_52 : decode cX10_cut 52 = .ok (.aload_n 0, 1) := by decide +kernel
theorem dX10_cut_53 : decode cX10_cut 53 = .ok (.ldc 161, 2) := by decide +kernel
theorem dX10_cut_55 : decode cX10_cut 55 = .ok (.invokevirtual 73, 3) := by decide +kernel
theorem dX10_cut_58 : decode cX10_cut 58 = .ok (.ireturn, 1) := by decide +kernel
theorem dX10_cut_59 : decode cX10_cut 59 = .ok (.aload_n 0, 1) := by decide +kernel
theorem dX10_cut_60 : decode cX10_cut 60 = .ok (.getfield 10, 3) := by decide +kernel
theorem dX10_cut_63 : decode cX10_cut 63 = .ok (.getfield 77, 3) := by decide +kernel
theorem dX10_cut_66 : decode cX10_cut 66 = .ok (.iload_n 1, 1) := by decide +kernel
theorem dX10_cut_67 : decode cX10_cut 67 = .ok (.aaload, 1) := by decide +kernel
theorem dX10_cut_68 : decode cX10_cut 68 = .ok (.iload_n 2, 1) := by decide +kernel
theorem dX10_cut_69 : decode cX10_cut 69 = .ok (.iload_n 3, 1) := by decide +kernel
theorem dX10_cut_70 : decode cX10_cut 70 = .ok (.invokevirtual 162, 3) := by decide +kernel
theorem dX10_cut_73 : decode cX10_cut 73 = .ok (.aload_n 0, 1) := by decide +kernel
theorem dX10_cut_74 : decode cX10_cut 74 = .ok (.iload_n 1, 1) := by decide +kernel
theorem dX10_cut_75 : decode cX10_cut 75 = .ok (.invokevirtual 137, 3) := by decide +kernel
theorem dX10_cut_78 : decode cX10_cut 78 = .ok (.aload_n 0, 1) := by decide +kernel
theorem dX10_cut_79 : decode cX10_cut 79 = .ok (.getfield 10, 3) := by decide +kernel
theorem dX10_cut_82 : decode cX10_cut 82 = .ok (.getfield 77, 3) := by decide +kernel
theorem dX10_cut_85 : decode cX10_cut 85 = .ok (.iload_n 1, 1) := by decide +kernel
theorem dX10_cut_86 : decode cX10_cut 86 = .ok (.aaload, 1) := by decide +kernel
theorem dX10_cut_87 : decode cX10_cut 87 = .ok (.getfield 140, 3) := by decide +kernel
theorem dX10_cut_90 : decode cX10_cut 90 = .ok (.ireturn, 1) := by decide +kernel
def X10_cut_B31 (σ : Mem) : Option (Int × Mem) :=
  bd2 (X10_tell σ (-1000001)) fun r1 s2 =>
  some (r1, s2)
def S_X10_cut_31 (fn : Mem → Option (Int × Mem)) (p : Program) (l : Launch) (e : Env) (R : Room) (s : State) (m : MethodId) (args : Array Value) (below : List Frame) (meth : Method) (c : Code) (G : GT) (τ : Mem) (res : Int) : Prop := ∀ (σ : Mem) (H : Heap) (locs : List Loc) (ls : Array Slot), PW G σ H → va_S (AA G) s.heap H locs → fn σ = some (res, τ) → lv_has ls 4 [(0, .ref (gh G + 0))] → W p l e R s m args below meth c H locs 0 0 (MQ below (QM G (some (.int (i32 res))) τ) args s 0 0 (AA G)) (F0 m 31 ls [])
def X10_cut (σ : Mem) (l1 : Int) (l2 : Int) (l3 : Int) : Option (Int × Mem) :=
  bd (X10_isBar σ l1 l2) fun r1 =>
  if w32 r1 = 0 then
    X10_cut_B31 σ
  else
  ag 4 l1 fun j2 =>
  bd (X10_within σ l3 1 ((σ (9 + 3 * j2) 2) - l2)) fun r3 =>
  if w32 r3 ≠ 0 then
    bd (X0_ofPart σ 4 l1) fun r4 =>
    if w32 r4 ≤ 0 then
      ag 4 l1 fun j5 =>
      bd (X5_drop σ (9 + 3 * j5) l2 l3) fun s7 =>
      bd (X10_forgetPart s7 l1) fun s9 =>
      ag 4 l1 fun j10 =>
      some (s9 (9 + 3 * j10) 2, s9)
    else
    bd2 (X10_tell σ (-1000005)) fun r11 s12 =>
    some (r11, s12)
  else
  X10_cut_B31 σ
def S_X10_cut_0 (fn : Mem → Int → Int → Int → Option (Int × Mem)) (p : Program) (l : Launch) (e : Env) (R : Room) (s : State) (m : MethodId) (args : Array Value) (below : List Frame) (meth : Method) (c : Code) (G : GT) (τ : Mem) (res : Int) : Prop := ∀ (σ : Mem) (H : Heap) (locs : List Loc) (ls : Array Slot) (l1 : Int) (l2 : Int) (l3 : Int), PW G σ H → va_S (AA G) s.heap H locs → fn σ l1 l2 l3 = some (res, τ) → lv_has ls 4 [(0, .ref (gh G + 0)), (1, .int (i32 l1)), (2, .int (i32 l2)), (3, .int (i32 l3))] → W p l e R s m args below meth c H locs 0 0 (MQ below (QM G (some (.int (i32 res))) τ) args s 0 0 (AA G)) (F0 m 0 ls [])
set_option maxHeartbeats 4000000 in
theorem a_X10_cut_31 {p : Program} {l : Launch} {e : Env} {R : Room} {s : State} {m : MethodId} {args : Array Value} {below : List Frame} {meth : Method} {c : Code} {G : GT} {τ : Mem} {res : Int} (X : CX p R s m args meth c cX10_cut 4 RX10 (some FieldType.int) 4 124 G) : S_X10_cut_31 (X10_cut_B31) p l e R s m args below meth c G τ res := by
  intro σ H locs ls hP hS hf hl
  unfold X10_cut_B31 at hf
  refine lv_aload_n X.1 X.2.1 dX10_cut_31 rfl (lv_at hl 0 rfl) ?_
  refine r_ldc X (-1000001) (tb t_430 rfl) (by decide) dX10_cut_32 ?_
  obtain ⟨r1, s2, hr1, hf⟩ := bd2_inv hf
  refine k_X10_tell X hP hS hl.1  hr1 (tb t_431 rfl) (by decide) (Nat.le_of_ble_eq_true rfl) dX10_cut_34 (fun H locs hP hS => ?_)
  obtain ⟨rfl, rfl⟩ := so2_inv hf
  exact r_iret X hP hS dX10_cut_37
set_option maxHeartbeats 4000000 in
theorem a_X10_cut_0 {p : Program} {l : Launch} {e : Env} {R : Room} {s : State} {m : MethodId} {args : Array Value} {below : List Frame} {meth : Method} {c : Code} {G : GT} {τ : Mem} {res : Int} (X : CX p R s m args meth c cX10_cut 4 RX10 (some FieldType.int) 4 124 G) : S_X10_cut_0 (X10_cut) p l e R s m args below meth c G τ res := by
  intro σ H locs ls l1 l2 l3 hP hS hf hl
  unfold X10_cut at hf
  refine lv_aload_n X.1 X.2.1 dX10_cut_0 rfl (lv_at hl 0 rfl) ?_
  refine lv_iload_n X.1 X.2.1 dX10_cut_1 rfl (lv_at hl 1 rfl) ?_
  refine lv_iload_n X.1 X.2.1 dX10_cut_2 rfl (lv_at hl 2 rfl) ?_
  obtain ⟨r1, hr1, hf⟩ := bd_inv hf
  refine k_X10_isBar X hP hS hl.1  hr1 (tb t_632 rfl) (by decide) (Nat.le_of_ble_eq_true rfl) dX10_cut_3 (fun H locs hP hS => ?_)
  refine r_if_eq (tgt := 31) X dX10_cut_6 (by decide) (fun q => ?_) (fun q => ?_)
  · replace hf := it_inv q hf
    exact a_X10_cut_31 X σ H locs ls  hP hS hf (lv_sub hl [0] rfl)
  · replace hf := ie_inv q hf
    refine lv_iload_n X.1 X.2.1 dX10_cut_9 rfl (lv_at hl 3 rfl) ?_
    refine r_iconst X 1 dX10_cut_10 ?_
    refine lv_aload_n X.1 X.2.1 dX10_cut_11 rfl (lv_at hl 0 rfl) ?_
    refine g_10_0 (r := 1) X hP ks_10 rfl (tb t_388 rfl) dX10_cut_12 ?_
    refine g_7_0 (r := 2) X hP (ch_10_0 ks_10).1 rfl (tb t_170 rfl) dX10_cut_15 ?_
    refine lv_iload_n X.1 X.2.1 dX10_cut_18 rfl (lv_at hl 1 rfl) ?_
    obtain ⟨j2, hij2, hjj2, hlj2, hf⟩ := ag_inv hf
    refine r_aald18 (r := 9 + 3 * j2) X hP (ch_7_0 (ch_10_0 ks_10).1).1 (ch_7_0 (ch_10_0 ks_10).1).2 hij2 hjj2 rfl dX10_cut_19 ?_
    refine g_5_2 X hP ((ch_18 (ch_7_0 (ch_10_0 ks_10).1).1).2 j2 hlj2) (tb t_160 rfl) dX10_cut_20 ?_
    refine lv_iload_n X.1 X.2.1 dX10_cut_23 rfl (lv_at hl 2 rfl) ?_
    refine r_isub X dX10_cut_24 ?_
    obtain ⟨r3, hr3, hf⟩ := bd_inv hf
    refine k_X10_within X hP hS hl.1  hr3 (tb t_423 rfl) (by decide) (Nat.le_of_ble_eq_true rfl) dX10_cut_25 (fun H locs hP hS => ?_)
    refine r_if_ne (tgt := 38) X dX10_cut_28 (by decide) (fun q => ?_) (fun q => ?_)
    · replace hf := it_inv q hf
      refine lv_aload_n X.1 X.2.1 dX10_cut_38 rfl (lv_at hl 0 rfl) ?_
      refine g_10_0 (r := 1) X hP ks_10 rfl (tb t_388 rfl) dX10_cut_39 ?_
      refine g_7_2 (r := 4) X hP (ch_10_0 ks_10).1 rfl (tb t_174 rfl) dX10_cut_42 ?_
      refine lv_iload_n X.1 X.2.1 dX10_cut_45 rfl (lv_at hl 1 rfl) ?_
      obtain ⟨r4, hr4, hf⟩ := bd_inv hf
      refine k_X0_ofPart X hP hS hl.1 (ch_7_2 (ch_10_0 ks_10).1).1 hr4 (tb t_656 rfl) (by decide) (Nat.le_of_ble_eq_true rfl) dX10_cut_46 (fun H locs hP hS => ?_)
      refine r_if_le (tgt := 59) X dX10_cut_49 (by decide) (fun q => ?_) (fun q => ?_)
      · replace hf := it_inv q hf
        refine lv_aload_n X.1 X.2.1 dX10_cut_59 rfl (lv_at hl 0 rfl) ?_
        refine g_10_0 (r := 1) X hP ks_10 rfl (tb t_388 rfl) dX10_cut_60 ?_
        refine g_7_0 (r := 2) X hP (ch_10_0 ks_10).1 rfl (tb t_170 rfl) dX10_cut_63 ?_
        refine lv_iload_n X.1 X.2.1 dX10_cut_66 rfl (lv_at hl 1 rfl) ?_
        obtain ⟨j5, hij5, hjj5, hlj5, hf⟩ := ag_inv hf
        refine r_aald18 (r := 9 + 3 * j5) X hP (ch_7_0 (ch_10_0 ks_10).1).1 (ch_7_0 (ch_10_0 ks_10).1).2 hij5 hjj5 rfl dX10_cut_67 ?_
        refine lv_iload_n X.1 X.2.1 dX10_cut_68 rfl (lv_at hl 2 rfl) ?_
        refine lv_iload_n X.1 X.2.1 dX10_cut_69 rfl (lv_at hl 3 rfl) ?_
        obtain ⟨s7, hr6, hf⟩ := bd_inv hf
        refine k_X5_drop X hP hS hl.1 ((ch_18 (ch_7_0 (ch_10_0 ks_10).1).1).2 j5 hlj5) hr6 (tb t_661 rfl) (by decide) (Nat.le_of_ble_eq_true rfl) dX10_cut_70 (fun H locs hP hS => ?_)
        refine lv_aload_n X.1 X.2.1 dX10_cut_73 rfl (lv_at hl 0 rfl) ?_
        refine lv_iload_n X.1 X.2.1 dX10_cut_74 rfl (lv_at hl 1 rfl) ?_
        obtain ⟨s9, hr8, hf⟩ := bd_inv hf
        refine k_X10_forgetPart X hP hS hl.1  hr8 (tb t_451 rfl) (by decide) (Nat.le_of_ble_eq_true rfl) dX10_cut_75 (fun H locs hP hS => ?_)
        refine lv_aload_n X.1 X.2.1 dX10_cut_78 rfl (lv_at hl 0 rfl) ?_
        refine g_10_0 (r := 1) X hP ks_10 rfl (tb t_388 rfl) dX10_cut_79 ?_
        refine g_7_0 (r := 2) X hP (ch_10_0 ks_10).1 rfl (tb t_170 rfl) dX10_cut_82 ?_
        refine lv_iload_n X.1 X.2.1 dX10_cut_85 rfl (lv_at hl 1 rfl) ?_
        obtain ⟨j10, hij10, hjj10, hlj10, hf⟩ := ag_inv hf
        refine r_aald18 (r := 9 + 3 * j10) X hP (ch_7_0 (ch_10_0 ks_10).1).1 (ch_7_0 (ch_10_0 ks_10).1).2 hij10 hjj10 rfl dX10_cut_86 ?_
        refine g_5_2 X hP ((ch_18 (ch_7_0 (ch_10_0 ks_10).1).1).2 j10 hlj10) (tb t_160 rfl) dX10_cut_87 ?_
        obtain ⟨rfl, rfl⟩ := so2_inv hf
        exact r_iret X hP hS dX10_cut_90
      · replace hf := ie_inv q hf
        refine lv_aload_n X.1 X.2.1 dX10_cut_52 rfl (lv_at hl 0 rfl) ?_
        refine r_ldc X (-1000005) (tb t_660 rfl) (by decide) dX10_cut_53 ?_
        obtain ⟨r11, s12, hr11, hf⟩ := bd2_inv hf
        refine k_X10_tell X hP hS hl.1  hr11 (tb t_431 rfl) (by decide) (Nat.le_of_ble_eq_true rfl) dX10_cut_55 (fun H locs hP hS => ?_)
        obtain ⟨rfl, rfl⟩ := so2_inv hf
        exact r_iret X hP hS dX10_cut_58
    · replace hf := ie_inv q hf
      exact a_X10_cut_31 X σ H locs ls  hP hS hf (lv_sub hl [0] rfl)
set_option maxHeartbeats 4000000 in
theorem c_X10_cut {l : Launch} {G : GT} {σ τ : Mem} {res : Int} {l1 : Int} {l2 : Int} {l3 : Int} (hf : X10_cut σ l1 l2 l3 = some (res, τ)) : CT l yX10_cut cX10_cut 4 (some FieldType.int) 4 124 G [.ref (gh G + 0), .int (i32 l1), .int (i32 l2), .int (i32 l3)] σ τ (some (.int (i32 res))) := by
  refine CT.mk (own := RX10) (by decide) rfl (Nat.le_of_ble_eq_true rfl) ?_
  intro p e s m below meth c ls X hP hS hl
  have hl : lv_has ls 4 [(0, .ref (gh G + 0)), (1, .int (i32 l1)), (2, .int (i32 l2)), (3, .int (i32 l3))] := hl
  exact a_X10_cut_0 X σ s.heap [] ls l1 l2 l3 hP hS hf hl
theorem k_X10_cut {p : Program} {l : Launch} {e : Env} {R : Room} {s : State} {m : MethodId} {args : Array Value} {below : List Frame} {meth : Method} {c : Code} {H : Heap} {locs : List Loc} {Q : State → Prop} {cc : ByteArray} {nL : Nat} {own : String} {ret : Option FieldType} {fF fL : Nat} {G : GT} {pc idx : Nat} {ls : Array Slot} {rest : List Value} {σ τ : Mem} {res : Int} {l1 : Int} {l2 : Int} {l3 : Int} (X : CX p R s m args meth c cc nL own ret fF fL G) (hP : PW G σ H) (hS : va_S (AA G) s.heap H locs) (hls : ls.size = nL) (hf : X10_cut σ l1 l2 l3 = some (res, τ)) (h1 : Cond.methodLink own idx yX10_cut ∈ TB) (hR : 4 + 1 ≤ fF ∧ 8 + (4 + 11) + 124 ≤ fL) (hW : (rest.map fun v => v.category).sum ≤ 8) (hd : decode cc pc = .ok (.invokevirtual idx, 3)) (kk : ∀ (H1 : Heap) (locs1 : List Loc), PW G τ H1 → va_S (AA G) s.heap H1 locs1 → W p l e R s m args below meth c H1 locs1 0 0 Q (F0 m (pc + 3) ls (.int (i32 res) :: rest))) : W p l e R s m args below meth c H locs 0 0 Q (F0 m pc ls (.int (i32 l3) :: .int (i32 l2) :: .int (i32 l1) :: .ref (gh G + 0) :: rest)) := r_callV (n := 3) X hP hS hls (c_X10_cut hf) h1 (tb t_653 rfl) (tb t_654 rfl) (tb t_75 rfl) (tb t_655 rfl) (by decide +kernel) hR (r_recv X hP (kd_lt ks_10 (by decide)) (cE_10 ks_10) rfl) rfl rfl hW hd kk
/-! X10_ends -/
theorem dX10_ends_0 : decode cX10_ends 0 = .ok (.iload_n 1, 1) := by decide +kernel
theorem dX10_ends_1 : decode cX10_ends 1 = .ok (.invokestatic 58, 3) := by decide +kernel
theorem dX10_ends_4 : decode cX10_ends 4 = .ok (.ifCond .eq 7, 3) := by decide +kernel
theorem dX10_ends_7 : decode cX10_ends 7 = .ok (.iload_n 2, 1) := by decide +kernel
theorem dX10_ends_8 : decode cX10_ends 8 = .ok (.ifCond .ge 10, 3) := by decide +kernel
theorem dX10_ends_11 : decode cX10_ends 11 = .ok (.aload_n 0, 1) := by decide +kernel
theorem dX10_ends_12 : decode cX10_ends 12 = .ok (.ldc 72, 2) := by decide +kernel
theorem dX10_ends_14 : decode cX10_ends 14 = .ok (.invokevirtual 73, 3) := by decide +kernel
theorem dX10_ends_17 : decode cX10_ends 17 = .ok (.ireturn, 1) := by decide +kernel
theorem dX10_ends_18 : decode cX10_ends 18 = .ok (.aload_n 0, 1) := by decide +kernel
theorem dX10_ends_19 : decode cX10_ends 19 = .ok (.iload_n 1, 1) := by decide +kernel
theorem dX10_ends_20 : decode cX10_ends 20 = .ok (.invokevirtual 206, 3) := by decide +kernel
theorem dX10_ends_23 : decode cX10_ends 23 = .ok (.astore_n 3, 1) := by decide +kernel
theorem dX10_ends_24 : decode cX10_ends 24 = .ok (.iload_n 2, 1) := by decide +kernel
theorem dX10_ends_25 : decode cX10_ends 25 = .ok (.aload_n 3, 1) := by decide +kernel
theorem dX10_ends_26 : decode cX10_ends 26 = .ok (.getfield 223, 3) := by decide +kernel
theorem dX10_ends_29 : decode cX10_ends 29 = .ok (.if_icmp .ge 12, 3) := by decide +kernel
theorem dX10_ends_32 : decode cX10_ends 32 = .ok (.aload_n 3, 1) := by decide +kernel
theorem dX10_ends_33 : decode cX10_ends 33 = .ok (.getfield 231, 3) := by decide +kernel
theorem dX10_ends_36 : decode cX10_ends 36 = .ok (.iload_n 2, 1) := by decide +kernel
theorem dX10_ends_37 : decode cX10_ends 37 = .ok (.iaload, 1) := by decide +kernel
theorem dX10_ends_38 : decode cX10_ends 38 = .ok (.goto 9, 3) := by decide +kernel
theorem dX10_ends_41 : decode cX10_ends 41 = .ok (.aload_n 0, 1) := by decide +kernel
theorem dX10_ends_42 : decode cX10_ends 42 = .ok (.ldc 205, 2) := by decide +kernel
theorem dX10_ends_44 : decode cX10_ends 44 = .ok (.invokevirtual 73, 3) := by decide +kernel
theorem dX10_ends_47 : decode cX10_ends 47 = .ok (.ireturn, 1) := by decide +kernel
def X10_ends_B11 (σ : Mem) : Option (Int × Mem) :=
  bd2 (X10_tell σ (-1000001)) fun r1 s2 =>
  some (r1, s2)
def S_X10_ends_11 (fn : Mem → Option (Int × Mem)) (p : Program) (l : Launch) (e : Env) (R : Room) (s : State) (m : MethodId) (args : Array Value) (below : List Frame) (meth : Method) (c : Code) (G : GT) (τ : Mem) (res : Int) : Prop := ∀ (σ : Mem) (H : Heap) (locs : List Loc) (ls : Array Slot), PW G σ H → va_S (AA G) s.heap H locs → fn σ = some (res, τ) → lv_has ls 4 [(0, .ref (gh G + 0))] → W p l e R s m args below meth c H locs 0 0 (MQ below (QM G (some (.int (i32 res))) τ) args s 0 0 (AA G)) (F0 m 11 ls [])
def X10_ends (σ : Mem) (l1 : Int) (l2 : Int) : Option (Int × Mem) :=
  bd (X10_isPart σ l1) fun r1 =>
  if w32 r1 = 0 then
    X10_ends_B11 σ
  else
  if 0 ≤ w32 l2 then
    bd2 (X10_layingOf σ l1) fun r2 s3 =>
    kg 2 r2 <|
    if w32 (s3 r2 1) ≤ w32 l2 then
      bd2 (X10_tell s3 (-1000004)) fun r4 s5 =>
      some (r4, s5)
    else
    ag 40 l2 fun j6 =>
    some (s3 (r2 + 6) j6, s3)
  else
  X10_ends_B11 σ
def S_X10_ends_0 (fn : Mem → Int → Int → Option (Int × Mem)) (p : Program) (l : Launch) (e : Env) (R : Room) (s : State) (m : MethodId) (args : Array Value) (below : List Frame) (meth : Method) (c : Code) (G : GT) (τ : Mem) (res : Int) : Prop := ∀ (σ : Mem) (H : Heap) (locs : List Loc) (ls : Array Slot) (l1 : Int) (l2 : Int), PW G σ H → va_S (AA G) s.heap H locs → fn σ l1 l2 = some (res, τ) → lv_has ls 4 [(0, .ref (gh G + 0)), (1, .int (i32 l1)), (2, .int (i32 l2))] → W p l e R s m args below meth c H locs 0 0 (MQ below (QM G (some (.int (i32 res))) τ) args s 0 0 (AA G)) (F0 m 0 ls [])
set_option maxHeartbeats 4000000 in
theorem a_X10_ends_11 {p : Program} {l : Launch} {e : Env} {R : Room} {s : State} {m : MethodId} {args : Array Value} {below : List Frame} {meth : Method} {c : Code} {G : GT} {τ : Mem} {res : Int} (X : CX p R s m args meth c cX10_ends 4 RX10 (some FieldType.int) 7 209 G) : S_X10_ends_11 (X10_ends_B11) p l e R s m args below meth c G τ res := by
  intro σ H locs ls hP hS hf hl
  unfold X10_ends_B11 at hf
  refine lv_aload_n X.1 X.2.1 dX10_ends_11 rfl (lv_at hl 0 rfl) ?_
  refine r_ldc X (-1000001) (tb t_430 rfl) (by decide) dX10_ends_12 ?_
  obtain ⟨r1, s2, hr1, hf⟩ := bd2_inv hf
  refine k_X10_tell X hP hS hl.1  hr1 (tb t_431 rfl) (by decide) (Nat.le_of_ble_eq_true rfl) dX10_ends_14 (fun H locs hP hS => ?_)
  obtain ⟨rfl, rfl⟩ := so2_inv hf
  exact r_iret X hP hS dX10_ends_17
set_option maxHeartbeats 4000000 in
theorem a_X10_ends_0 {p : Program} {l : Launch} {e : Env} {R : Room} {s : State} {m : MethodId} {args : Array Value} {below : List Frame} {meth : Method} {c : Code} {G : GT} {τ : Mem} {res : Int} (X : CX p R s m args meth c cX10_ends 4 RX10 (some FieldType.int) 7 209 G) : S_X10_ends_0 (X10_ends) p l e R s m args below meth c G τ res := by
  intro σ H locs ls l1 l2 hP hS hf hl
  unfold X10_ends at hf
  refine lv_iload_n X.1 X.2.1 dX10_ends_0 rfl (lv_at hl 1 rfl) ?_
  obtain ⟨r1, hr1, hf⟩ := bd_inv hf
  refine k_X10_isPart X hP hS hl.1  hr1 (tb t_420 rfl) (by decide) (Nat.le_of_ble_eq_true rfl) dX10_ends_1 (fun H locs hP hS => ?_)
  refine r_if_eq (tgt := 11) X dX10_ends_4 (by decide) (fun q => ?_) (fun q => ?_)
  · replace hf := it_inv q hf
    exact a_X10_ends_11 X σ H locs ls  hP hS hf (lv_sub hl [0] rfl)
  · replace hf := ie_inv q hf
    refine lv_iload_n X.1 X.2.1 dX10_ends_7 rfl (lv_at hl 2 rfl) ?_
    refine r_if_ge (tgt := 18) X dX10_ends_8 (by decide) (fun q => ?_) (fun q => ?_)
    · replace hf := it_inv q hf
      refine lv_aload_n X.1 X.2.1 dX10_ends_18 rfl (lv_at hl 0 rfl) ?_
      refine lv_iload_n X.1 X.2.1 dX10_ends_19 rfl (lv_at hl 1 rfl) ?_
      obtain ⟨r2, s3, hr2, hf⟩ := bd2_inv hf
      refine k_X10_layingOf X hP hS hl.1  hr2 (tb t_752 rfl) (by decide) (Nat.le_of_ble_eq_true rfl) dX10_ends_20 (fun H locs hP hS => ?_)
      obtain ⟨hk_r2, hf⟩ := kg_inv hf
      refine lv_astore_n (lv' := [(3, .ref (gh G + r2)), (0, .ref (gh G + 0)), (1, .int (i32 l1)), (2, .int (i32 l2))]) X.1 X.2.1 dX10_ends_23 rfl hl (by decide) rfl (fun ls hl => ?_)
      refine lv_iload_n X.1 X.2.1 dX10_ends_24 rfl (lv_at hl 3 rfl) ?_
      refine lv_aload_n X.1 X.2.1 dX10_ends_25 rfl (lv_at hl 0 rfl) ?_
      refine g_2_1 X hP hk_r2 (tb t_342 rfl) dX10_ends_26 ?_
      refine r_icmp_ge (tgt := 41) X dX10_ends_29 (by decide) (fun q => ?_) (fun q => ?_)
      · replace hf := it_inv q hf
        refine lv_aload_n X.1 X.2.1 dX10_ends_41 rfl (lv_at hl 1 rfl) ?_
        refine r_ldc X (-1000004) (tb t_747 rfl) (by decide) dX10_ends_42 ?_
        obtain ⟨r4, s5, hr4, hf⟩ := bd2_inv hf
        refine k_X10_tell X hP hS hl.1  hr4 (tb t_431 rfl) (by decide) (Nat.le_of_ble_eq_true rfl) dX10_ends_44 (fun H locs hP hS => ?_)
        obtain ⟨rfl, rfl⟩ := so2_inv hf
        exact r_iret X hP hS dX10_ends_47
      · replace hf := ie_inv q hf
        refine lv_aload_n X.1 X.2.1 dX10_ends_32 rfl (lv_at hl 0 rfl) ?_
        refine g_2_11 (r := r2 + 6) X hP hk_r2 rfl (tb t_358 rfl) dX10_ends_33 ?_
        refine lv_iload_n X.1 X.2.1 dX10_ends_36 rfl (lv_at hl 3 rfl) ?_
        obtain ⟨j6, hij6, hjj6, hlj6, hf⟩ := ag_inv hf
        refine r_iald X hP (ch_2_11 hk_r2).1 (ch_2_11 hk_r2).2 hij6 hjj6 dX10_ends_37 ?_
        refine lv_goto (tgt := 47) X.1 X.2.1 dX10_ends_38 (by decide) ?_
        obtain ⟨rfl, rfl⟩ := so2_inv hf
        exact r_iret X hP hS dX10_ends_47
    · replace hf := ie_inv q hf
      exact a_X10_ends_11 X σ H locs ls  hP hS hf (lv_sub hl [0] rfl)
set_option maxHeartbeats 4000000 in
theorem c_X10_ends {l : Launch} {G : GT} {σ τ : Mem} {res : Int} {l1 : Int} {l2 : Int} (hf : X10_ends σ l1 l2 = some (res, τ)) : CT l yX10_ends cX10_ends 4 (some FieldType.int) 7 209 G [.ref (gh G + 0), .int (i32 l1), .int (i32 l2)] σ τ (some (.int (i32 res))) := by
  refine CT.mk (own := RX10) (by decide) rfl (Nat.le_of_ble_eq_true rfl) ?_
  intro p e s m below meth c ls X hP hS hl
  have hl : lv_has ls 4 [(0, .ref (gh G + 0)), (1, .int (i32 l1)), (2, .int (i32 l2))] := hl
  exact a_X10_ends_0 X σ s.heap [] ls l1 l2 hP hS hf hl
theorem k_X10_ends {p : Program} {l : Launch} {e : Env} {R : Room} {s : State} {m : MethodId} {args : Array Value} {below : List Frame} {meth : Method} {c : Code} {H : Heap} {locs : List Loc} {Q : State → Prop} {cc : ByteArray} {nL : Nat} {own : String} {ret : Option FieldType} {fF fL : Nat} {G : GT} {pc idx : Nat} {ls : Array Slot} {rest : List Value} {σ τ : Mem} {res : Int} {l1 : Int} {l2 : Int} (X : CX p R s m args meth c cc nL own ret fF fL G) (hP : PW G σ H) (hS : va_S (AA G) s.heap H locs) (hls : ls.size = nL) (hf : X10_ends σ l1 l2 = some (res, τ)) (h1 : Cond.methodLink own idx yX10_ends ∈ TB) (hR : 7 + 1 ≤ fF ∧ 8 + (4 + 11) + 209 ≤ fL) (hW : (rest.map fun v => v.category).sum ≤ 8) (hd : decode cc pc = .ok (.invokevirtual idx, 3)) (kk : ∀ (H1 : Heap) (locs1 : List Loc), PW G τ H1 → va_S (AA G) s.heap H1 locs1 → W p l e R s m args below meth c H1 locs1 0 0 Q (F0 m (pc + 3) ls (.int (i32 res) :: rest))) : W p l e R s m args below meth c H locs 0 0 Q (F0 m pc ls (.int (i32 l2) :: .int (i32 l1) :: .ref (gh G + 0) :: rest)) := r_callV (n := 2) X hP hS hls (c_X10_ends hf) h1 (tb t_870 rfl) (tb t_871 rfl) (tb t_75 rfl) (tb t_872 rfl) (by decide +kernel) hR (r_recv X hP (kd_lt ks_10 (by decide)) (cE_10 ks_10) rfl) rfl rfl hW hd kk
/-! X10_evenPages -/
theorem dX10_evenPages_0 : decode cX10_evenPages 0 = .ok (.iconst 0, 1) := by decide +kernel
theorem dX10_evenPages_1 : decode cX10_evenPages 1 = .ok (.istore_n 1, 1) := by decide +kernel
theorem dX10_evenPages_2 : decode cX10_evenPages 2 = .ok (.iconst 0, 1) := by decide +kernel
theorem dX10_evenPages_3 : decode cX10_evenPages 3 = .ok (.istore_n 2, 1) := by decide +kernel
theorem dX10_evenPages_4 : decode cX10_evenPages 4 = .ok (.iload_n 2, 1) := by decide +kernel
theorem dX10_evenPages_5 : decode cX10_evenPages 5 = .ok (.iconst 5, 1) := by decide +kernel
theorem dX10_evenPages_6 : decode cX10_evenPages 6 = .ok (.if_icmp .ge 21, 3) := by decide +kernel
theorem dX10_evenPages_9 : decode cX10_evenPages 9 = .ok (.iload_n 1, 1) := by decide +kernel
theorem dX10_evenPages_10 : decode cX10_evenPages 10 = .ok (.iload_n 0, 1) := by decide +kernel
theorem dX10_evenPages_11 : decode cX10_evenPages 11 = .ok (.iload_n 2, 1) := by decide +kernel
theorem dX10_evenPages_12 : decode cX10_evenPages 12 = .ok (.ishr, 1) := by decide +kernel
theorem dX10_evenPages_13 : decode cX10_evenPages 13 = .ok (.iconst 1, 1) := by decide +kernel
theorem dX10_evenPages_14 : decode cX10_evenPages 14 = .ok (.iand, 1) := by decide +kernel
theorem dX10_evenPages_15 : decode cX10_evenPages 15 = .ok (.iconst 2, 1) := by decide +kernel
theorem dX10_evenPages_16 : decode cX10_evenPages 16 = .ok (.iload_n 2, 1) := by decide +kernel
theorem dX10_evenPages_17 : decode cX10_evenPages 17 = .ok (.imul, 1) := by decide +kernel
theorem dX10_evenPages_18 : decode cX10_evenPages 18 = .ok (.ishl, 1) := by decide +kernel
theorem dX10_evenPages_19 : decode cX10_evenPages 19 = .ok (.ior, 1) := by decide +kernel
theorem dX10_evenPages_20 : decode cX10_evenPages 20 = .ok (.istore_n 1, 1) := by decide +kernel
theorem dX10_evenPages_21 : decode cX10_evenPages 21 = .ok (.iinc 2 1, 3) := by decide +kernel
theorem dX10_evenPages_24 : decode cX10_evenPages 24 = .ok (.goto (-20), 3) := by decide +kernel
theorem dX10_evenPages_27 : decode cX10_evenPages 27 = .ok (.iload_n 1, 1) := by decide +kernel
theorem dX10_evenPages_28 : decode cX10_evenPages 28 = .ok (.ireturn, 1) := by decide +kernel
def S_X10_evenPages_4 (fn : Int → Int → Int → Option (Int)) (p : Program) (l : Launch) (e : Env) (R : Room) (s : State) (m : MethodId) (args : Array Value) (below : List Frame) (meth : Method) (c : Code) (G : GT) (σ : Mem) (res : Int) : Prop := ∀ (H : Heap) (locs : List Loc) (ls : Array Slot) (l0 : Int) (l1 : Int) (l2 : Int), PW G σ H → va_S (AA G) s.heap H locs → fn l0 l1 l2 = some res → lv_has ls 3 [(0, .int (i32 l0)), (1, .int (i32 l1)), (2, .int (i32 l2))] → W p l e R s m args below meth c H locs 0 0 (MQ below (QM G (some (.int (i32 res))) σ) args s 0 0 (AA G)) (F0 m 4 ls [])
def X10_evenPages_B4 (rec4 : Int → Int → Int → Option (Int)) (σ : Mem) (l0 : Int) (l1 : Int) (l2 : Int) : Option (Int) :=
  if w32 5 ≤ w32 l2 then
    some l1
  else
  lt (iro l1 (isl (ian (isr l0 l2) 1) (2 * l2))) fun l1_1 =>
  lt (l2 + 1) fun l2_2 =>
  rec4 l0 l1_1 l2_2
def X10_evenPages_L4 (σ : Mem) : Nat → Int → Int → Int → Option (Int)
  | 0 => fun _ _ _ => none
  | n + 1 => X10_evenPages_B4 (X10_evenPages_L4 σ n) σ
def X10_evenPages (σ : Mem) (l0 : Int) : Option (Int) :=
  X10_evenPages_L4 σ 5000 l0 0 0
def S_X10_evenPages_0 (fn : Int → Option (Int)) (p : Program) (l : Launch) (e : Env) (R : Room) (s : State) (m : MethodId) (args : Array Value) (below : List Frame) (meth : Method) (c : Code) (G : GT) (σ : Mem) (res : Int) : Prop := ∀ (H : Heap) (locs : List Loc) (ls : Array Slot) (l0 : Int), PW G σ H → va_S (AA G) s.heap H locs → fn l0 = some res → lv_has ls 3 [(0, .int (i32 l0))] → W p l e R s m args below meth c H locs 0 0 (MQ below (QM G (some (.int (i32 res))) σ) args s 0 0 (AA G)) (F0 m 0 ls [])
set_option maxHeartbeats 4000000 in
theorem a_X10_evenPages_4 {p : Program} {l : Launch} {e : Env} {R : Room} {s : State} {m : MethodId} {args : Array Value} {below : List Frame} {meth : Method} {c : Code} {G : GT} {σ : Mem} {res : Int} {rec4 : Int → Int → Int → Option (Int)} (X : CX p R s m args meth c cX10_evenPages 3 RX10 (some FieldType.int) 1 60 G) (h4 : S_X10_evenPages_4 rec4 p l e R s m args below meth c G σ res) : S_X10_evenPages_4 (X10_evenPages_B4 rec4 σ) p l e R s m args below meth c G σ res := by
  intro H locs ls l0 l1 l2 hP hS hf hl
  unfold X10_evenPages_B4 at hf
  refine lv_iload_n X.1 X.2.1 dX10_evenPages_4 rfl (lv_at hl 2 rfl) ?_
  refine r_iconst X 5 dX10_evenPages_5 ?_
  refine r_icmp_ge (tgt := 27) X dX10_evenPages_6 (by decide) (fun q => ?_) (fun q => ?_)
  · replace hf := it_inv q hf
    refine lv_iload_n X.1 X.2.1 dX10_evenPages_27 rfl (lv_at hl 1 rfl) ?_
    cases so_inv hf
    exact r_iret X hP hS dX10_evenPages_28
  · replace hf := ie_inv q hf
    refine lv_iload_n X.1 X.2.1 dX10_evenPages_9 rfl (lv_at hl 1 rfl) ?_
    refine lv_iload_n X.1 X.2.1 dX10_evenPages_10 rfl (lv_at hl 0 rfl) ?_
    refine lv_iload_n X.1 X.2.1 dX10_evenPages_11 rfl (lv_at hl 2 rfl) ?_
    refine r_ishr X dX10_evenPages_12 ?_
    refine r_iconst X 1 dX10_evenPages_13 ?_
    refine r_iand X dX10_evenPages_14 ?_
    refine r_iconst X 2 dX10_evenPages_15 ?_
    refine lv_iload_n X.1 X.2.1 dX10_evenPages_16 rfl (lv_at hl 2 rfl) ?_
    refine r_imul X dX10_evenPages_17 ?_
    refine r_ishl X dX10_evenPages_18 ?_
    refine r_ior X dX10_evenPages_19 ?_
    obtain ⟨l1_1, el1_1, hf⟩ := lt_inv hf
    refine r_eqi el1_1 ?_
    refine lv_istore_n (lv' := [(1, .int (i32 l1_1)), (0, .int (i32 l0)), (2, .int (i32 l2))]) X.1 X.2.1 dX10_evenPages_20 rfl hl (by decide) rfl (fun ls hl => ?_)
    obtain ⟨l2_2, el2_2, hf⟩ := lt_inv hf
    refine lv_iinc (v := i32 l2_2) (lv' := [(2, .int (i32 l2_2)), (1, .int (i32 l1_1)), (0, .int (i32 l0))]) X.1 X.2.1 dX10_evenPages_21 hl (k := 2) rfl (by rw [← el2_2]; exact i32_add _ _) (by decide) rfl (fun ls hl => ?_)
    refine lv_goto (tgt := 4) X.1 X.2.1 dX10_evenPages_24 (by decide) ?_
    exact h4  H locs ls l0 l1_1 l2_2 hP hS hf (lv_sub hl [2, 1, 0] rfl)
theorem al_X10_evenPages_4 {p : Program} {l : Launch} {e : Env} {R : Room} {s : State} {m : MethodId} {args : Array Value} {below : List Frame} {meth : Method} {c : Code} {G : GT} {σ : Mem} {res : Int} (X : CX p R s m args meth c cX10_evenPages 3 RX10 (some FieldType.int) 1 60 G) : ∀ n, S_X10_evenPages_4 (X10_evenPages_L4 σ n) p l e R s m args below meth c G σ res := by
  intro n
  induction n with
  | zero =>
    intro H locs ls l0 l1 l2 hP hS hf hl
    cases hf
  | succ n ih => exact a_X10_evenPages_4 X ih
set_option maxHeartbeats 4000000 in
theorem a_X10_evenPages_0 {p : Program} {l : Launch} {e : Env} {R : Room} {s : State} {m : MethodId} {args : Array Value} {below : List Frame} {meth : Method} {c : Code} {G : GT} {σ : Mem} {res : Int} (X : CX p R s m args meth c cX10_evenPages 3 RX10 (some FieldType.int) 1 60 G) : S_X10_evenPages_0 (X10_evenPages σ) p l e R s m args below meth c G σ res := by
  intro H locs ls l0 hP hS hf hl
  unfold X10_evenPages at hf
  refine r_iconst X 0 dX10_evenPages_0 ?_
  refine lv_istore_n (lv' := [(1, .int (i32 0)), (0, .int (i32 l0))]) X.1 X.2.1 dX10_evenPages_1 rfl hl (by decide) rfl (fun ls hl => ?_)
  refine r_iconst X 0 dX10_evenPages_2 ?_
  refine lv_istore_n (lv' := [(2, .int (i32 0)), (1, .int (i32 0)), (0, .int (i32 l0))]) X.1 X.2.1 dX10_evenPages_3 rfl hl (by decide) rfl (fun ls hl => ?_)
  exact al_X10_evenPages_4 X 5000  H locs ls l0 0 0 hP hS hf (lv_sub hl [2, 1, 0] rfl)
set_option maxHeartbeats 4000000 in
theorem c_X10_evenPages {l : Launch} {G : GT} {σ : Mem} {res : Int} {l0 : Int} (hf : X10_evenPages σ l0 = some res) : CT l yX10_evenPages cX10_evenPages 3 (some FieldType.int) 1 60 G [.int (i32 l0)] σ σ (some (.int (i32 res))) := by
  refine CT.mk (own := RX10) (by decide) rfl (Nat.le_of_ble_eq_true rfl) ?_
  intro p e s m below meth c ls X hP hS hl
  have hl : lv_has ls 3 [(0, .int (i32 l0))] := hl
  exact a_X10_evenPages_0 X  s.heap [] ls l0 hP hS hf hl
theorem k_X10_evenPages {p : Program} {l : Launch} {e : Env} {R : Room} {s : State} {m : MethodId} {args : Array Value} {below : List Frame} {meth : Method} {c : Code} {H : Heap} {locs : List Loc} {Q : State → Prop} {cc : ByteArray} {nL : Nat} {own : String} {ret : Option FieldType} {fF fL : Nat} {G : GT} {pc idx : Nat} {ls : Array Slot} {rest : List Value} {σ : Mem} {res : Int} {l0 : Int} (X : CX p R s m args meth c cc nL own ret fF fL G) (hP : PW G σ H) (hS : va_S (AA G) s.heap H locs) (hls : ls.size = nL) (hf : X10_evenPages σ l0 = some res) (h1 : Cond.methodLink own idx yX10_evenPages ∈ TB) (hR : 1 + 1 ≤ fF ∧ 8 + (3 + 11) + 60 ≤ fL) (hW : (rest.map fun v => v.category).sum ≤ 8) (hd : decode cc pc = .ok (.invokestatic idx, 3)) (kk : ∀ (H1 : Heap) (locs1 : List Loc), PW G σ H1 → va_S (AA G) s.heap H1 locs1 → W p l e R s m args below meth c H1 locs1 0 0 Q (F0 m (pc + 3) ls (.int (i32 res) :: rest))) : W p l e R s m args below meth c H locs 0 0 Q (F0 m pc ls (.int (i32 l0) :: rest)) := r_callS (n := 1) X hP hS hls (c_X10_evenPages hf) h1 (tb t_898 rfl) (tb t_75 rfl) (tb t_899 rfl) (by decide +kernel) hR rfl rfl hW hd kk
theorem kn_X10_evenPages {p : Program} {l : Launch} {e : Env} {R : Room} {s : State} {m : MethodId} {args : Array Value} {below : List Frame} {meth : Method} {c : Code} {H : Heap} {locs : List Loc} {Q : State → Prop} {cc : ByteArray} {nL : Nat} {own : String} {ret : Option FieldType} {fF fL : Nat} {G : GT} {pc idx : Nat} {ls : Array Slot} {rest : List Value} {σ : Mem} {res : Int} {l0 : Int} (X : CX p R s m args meth c cc nL own ret fF fL G) (hP : PW G σ H) (hS : va_S (AA G) s.heap H locs) (hls : ls.size = nL) (hf : X10_evenPages σ l0 = some res) {host : String} (h1 : Cond.methodLinkNest own idx yX10_evenPages host ∈ NWl) (hR : 1 + 1 ≤ fF ∧ 8 + (3 + 11) + 60 ≤ fL) (hW : (rest.map fun v => v.category).sum ≤ 8) (hd : decode cc pc = .ok (.invokestatic idx, 3)) (kk : ∀ (H1 : Heap) (locs1 : List Loc), PW G σ H1 → va_S (AA G) s.heap H1 locs1 → W p l e R s m args below meth c H1 locs1 0 0 Q (F0 m (pc + 3) ls (.int (i32 res) :: rest))) : W p l e R s m args below meth c H locs 0 0 Q (F0 m pc ls (.int (i32 l0) :: rest)) := r_callSN (n := 1) X hP hS hls (c_X10_evenPages hf) h1 (tb t_898 rfl) (tb t_75 rfl) (tb t_899 rfl) (by decide +kernel) hR rfl rfl hW hd kk
/-! X8_hasRoomFor -/
theorem dX8_hasRoomFor_0 : decode cX8_hasRoomFor 0 = .ok (.iload_n 1, 1) := by decide +kernel
theorem dX8_hasRoomFor_1 : decode cX8_hasRoomFor 1 = .ok (.bipush 120, 2) := by decide +kernel
theorem dX8_hasRoomFor_3 : decode cX8_hasRoomFor 3 = .ok (.aload_n 0, 1) := by decide +kernel
theorem dX8_hasRoomFor_4 : decode cX8_hasRoomFor 4 = .ok (.getfield 25, 3) := by decide +kernel
theorem dX8_hasRoomFor_7 : decode cX8_hasRoomFor 7 = .ok (.isub, 1) := by decide +kernel
theorem dX8_hasRoomFor_8 : decode cX8_hasRoomFor 8 = .ok (.if_icmp .gt 7, 3) := by decide +kernel
theorem dX8_hasRoomFor_11 : decode cX8_hasRoomFor 11 = .ok (.iconst 1, 1) := by decide +kernel
theorem dX8_hasRoomFor_12 : decode cX8_hasRoomFor 12 = .ok (.goto 4, 3) := by decide +kernel
theorem dX8_hasRoomFor_15 : decode cX8_hasRoomFor 15 = .ok (.iconst 0, 1) := by decide +kernel
theorem dX8_hasRoomFor_16 : decode cX8_hasRoomFor 16 = .ok (.ireturn, 1) := by decide +kernel
def X8_hasRoomFor (σ : Mem) (l1 : Int) : Option (Int) :=
  if w32 (120 - (σ 42 1)) < w32 l1 then
    some 0
  else
  some 1
def S_X8_hasRoomFor_0 (fn : Int → Option (Int)) (p : Program) (l : Launch) (e : Env) (R : Room) (s : State) (m : MethodId) (args : Array Value) (below : List Frame) (meth : Method) (c : Code) (G : GT) (σ : Mem) (res : Int) : Prop := ∀ (H : Heap) (locs : List Loc) (ls : Array Slot) (l1 : Int), PW G σ H → va_S (AA G) s.heap H locs → fn l1 = some res → lv_has ls 2 [(0, .ref (gh G + 42)), (1, .int (i32 l1))] → W p l e R s m args below meth c H locs 0 0 (MQ below (QM G (some (.int (i32 res))) σ) args s 0 0 (AA G)) (F0 m 0 ls [])
set_option maxHeartbeats 4000000 in
theorem a_X8_hasRoomFor_0 {p : Program} {l : Launch} {e : Env} {R : Room} {s : State} {m : MethodId} {args : Array Value} {below : List Frame} {meth : Method} {c : Code} {G : GT} {σ : Mem} {res : Int} (X : CX p R s m args meth c cX8_hasRoomFor 2 RX8 (some FieldType.boolean) 1 60 G) : S_X8_hasRoomFor_0 (X8_hasRoomFor σ) p l e R s m args below meth c G σ res := by
  intro H locs ls l1 hP hS hf hl
  unfold X8_hasRoomFor at hf
  refine lv_iload_n X.1 X.2.1 dX8_hasRoomFor_0 rfl (lv_at hl 1 rfl) ?_
  refine r_bipush X 120 (by decide) dX8_hasRoomFor_1 ?_
  refine lv_aload_n X.1 X.2.1 dX8_hasRoomFor_3 rfl (lv_at hl 0 rfl) ?_
  refine g_8_1 X hP ks_8 (tb t_195 rfl) dX8_hasRoomFor_4 ?_
  refine r_isub X dX8_hasRoomFor_7 ?_
  refine r_icmp_gt (tgt := 15) X dX8_hasRoomFor_8 (by decide) (fun q => ?_) (fun q => ?_)
  · replace hf := it_inv q hf
    refine r_iconst X 0 dX8_hasRoomFor_15 ?_
    cases so_inv hf
    exact r_zret X hP hS (Or.inl rfl) dX8_hasRoomFor_16
  · replace hf := ie_inv q hf
    refine r_iconst X 1 dX8_hasRoomFor_11 ?_
    refine lv_goto (tgt := 16) X.1 X.2.1 dX8_hasRoomFor_12 (by decide) ?_
    cases so_inv hf
    exact r_zret X hP hS (Or.inr rfl) dX8_hasRoomFor_16
set_option maxHeartbeats 4000000 in
theorem c_X8_hasRoomFor {l : Launch} {G : GT} {σ : Mem} {res : Int} {l1 : Int} (hf : X8_hasRoomFor σ l1 = some res) : CT l yX8_hasRoomFor cX8_hasRoomFor 2 (some FieldType.boolean) 1 60 G [.ref (gh G + 42), .int (i32 l1)] σ σ (some (.int (i32 res))) := by
  refine CT.mk (own := RX8) (by decide) rfl (Nat.le_of_ble_eq_true rfl) ?_
  intro p e s m below meth c ls X hP hS hl
  have hl : lv_has ls 2 [(0, .ref (gh G + 42)), (1, .int (i32 l1))] := hl
  exact a_X8_hasRoomFor_0 X  s.heap [] ls l1 hP hS hf hl
theorem k_X8_hasRoomFor {p : Program} {l : Launch} {e : Env} {R : Room} {s : State} {m : MethodId} {args : Array Value} {below : List Frame} {meth : Method} {c : Code} {H : Heap} {locs : List Loc} {Q : State → Prop} {cc : ByteArray} {nL : Nat} {own : String} {ret : Option FieldType} {fF fL : Nat} {G : GT} {pc idx : Nat} {ls : Array Slot} {rest : List Value} {σ : Mem} {res : Int} {l1 : Int} (X : CX p R s m args meth c cc nL own ret fF fL G) (hP : PW G σ H) (hS : va_S (AA G) s.heap H locs) (hls : ls.size = nL) (hf : X8_hasRoomFor σ l1 = some res) (h1 : Cond.methodLink own idx yX8_hasRoomFor ∈ TB) (hR : 1 + 1 ≤ fF ∧ 8 + (2 + 11) + 60 ≤ fL) (hW : (rest.map fun v => v.category).sum ≤ 8) (hd : decode cc pc = .ok (.invokevirtual idx, 3)) (kk : ∀ (H1 : Heap) (locs1 : List Loc), PW G σ H1 → va_S (AA G) s.heap H1 locs1 → W p l e R s m args below meth c H1 locs1 0 0 Q (F0 m (pc + 3) ls (.int (i32 res) :: rest))) : W p l e R s m args below meth c H locs 0 0 Q (F0 m pc ls (.int (i32 l1) :: .ref (gh G + 42) :: rest)) := r_callV (n := 1) X hP hS hls (c_X8_hasRoomFor hf) h1 (tb t_460 rfl) (tb t_461 rfl) (tb t_81 rfl) (tb t_462 rfl) (by decide +kernel) hR (r_recv X hP (kd_lt ks_8 (by decide)) (cE_8 ks_8) rfl) rfl rfl hW hd kk
/-! X8_put -/
theorem dX8_put_0 : decode cX8_put 0 = .ok (.aload_n 0, 1) := by decide +kernel
theorem dX8_put_1 : decode cX8_put 1 = .ok (.iconst 1, 1) := by decide +kernel
theorem dX8_put_2 : decode cX8_put 2 = .ok (.invokevirtual 29, 3) := by decide +kernel
theorem dX8_put_5 : decode cX8_put 5 = .ok (.ifCond .eq 24, 3) := by decide +kernel
theorem dX8_put_8 : decode cX8_put 8 = .ok (.aload_n 0, 1) := by decide +kernel
theorem dX8_put_9 : decode cX8_put 9 = .ok (.getfield 9, 3) := by decide +kernel
theorem dX8_put_12 : decode cX8_put 12 = .ok (.aload_n 0, 1) := by decide +kernel
theorem dX8_put_13 : decode cX8_put 13 = .ok (.getfield 25, 3) := by decide +kernel
theorem dX8_put_16 : decode cX8_put 16 = .ok (.iload_n 1, 1) := by decide +kernel
theorem dX8_put_17 : decode cX8_put 17 = .ok (.i2b, 1) := by decide +kernel
theorem dX8_put_18 : decode cX8_put 18 = .ok (.bastore, 1) := by decide +kernel
theorem dX8_put_19 : decode cX8_put 19 = .ok (.aload_n 0, 1) := by decide +kernel
theorem dX8_put_20 : decode cX8_put 20 = .ok (.dup, 1) := by decide +kernel
theorem dX8_put_21 : decode cX8_put 21 = .ok (.getfield 25, 3) := by decide +kernel
theorem dX8_put_24 : decode cX8_put 24 = .ok (.iconst 1, 1) := by decide +kernel
theorem dX8_put_25 : decode cX8_put 25 = .ok (.iadd, 1) := by decide +kernel
theorem dX8_put_26 : decode cX8_put 26 = .ok (.putfield 25, 3) := by decide +kernel
theorem dX8_put_29 : decode cX8_put 29 = .ok (.return_, 1) := by decide +kernel
def X8_put (σ : Mem) (l1 : Int) : Option (Mem) :=
  bd (X8_hasRoomFor σ 1) fun r1 =>
  if w32 r1 = 0 then
    some σ
  else
  ag 120 (σ 42 1) fun j2 =>
  lt (st σ 43 j2 (ib8 (ib8 l1))) fun s3 =>
  lt (st s3 42 1 ((s3 42 1) + 1)) fun s4 =>
  some s4
def S_X8_put_0 (fn : Mem → Int → Option (Mem)) (p : Program) (l : Launch) (e : Env) (R : Room) (s : State) (m : MethodId) (args : Array Value) (below : List Frame) (meth : Method) (c : Code) (G : GT) (τ : Mem) : Prop := ∀ (σ : Mem) (H : Heap) (locs : List Loc) (ls : Array Slot) (l1 : Int), PW G σ H → va_S (AA G) s.heap H locs → fn σ l1 = some τ → lv_has ls 2 [(0, .ref (gh G + 42)), (1, .int (i32 l1))] → W p l e R s m args below meth c H locs 0 0 (MQ below (QM G none τ) args s 0 0 (AA G)) (F0 m 0 ls [])
set_option maxHeartbeats 4000000 in
theorem a_X8_put_0 {p : Program} {l : Launch} {e : Env} {R : Room} {s : State} {m : MethodId} {args : Array Value} {below : List Frame} {meth : Method} {c : Code} {G : GT} {τ : Mem} (X : CX p R s m args meth c cX8_put 2 RX8 none 2 81 G) : S_X8_put_0 (X8_put) p l e R s m args below meth c G τ := by
  intro σ H locs ls l1 hP hS hf hl
  unfold X8_put at hf
  refine lv_aload_n X.1 X.2.1 dX8_put_0 rfl (lv_at hl 0 rfl) ?_
  refine r_iconst X 1 dX8_put_1 ?_
  obtain ⟨r1, hr1, hf⟩ := bd_inv hf
  refine k_X8_hasRoomFor X hP hS hl.1  hr1 (tb t_468 rfl) (by decide) (Nat.le_of_ble_eq_true rfl) dX8_put_2 (fun H locs hP hS => ?_)
  refine r_if_eq (tgt := 29) X dX8_put_5 (by decide) (fun q => ?_) (fun q => ?_)
  · replace hf := it_inv q hf
    cases so_inv hf
    exact r_vret X hP hS dX8_put_29
  · replace hf := ie_inv q hf
    refine lv_aload_n X.1 X.2.1 dX8_put_8 rfl (lv_at hl 0 rfl) ?_
    refine g_8_0 (r := 43) X hP ks_8 rfl (tb t_194 rfl) dX8_put_9 ?_
    refine lv_aload_n X.1 X.2.1 dX8_put_12 rfl (lv_at hl 0 rfl) ?_
    refine g_8_1 X hP ks_8 (tb t_195 rfl) dX8_put_13 ?_
    refine lv_iload_n X.1 X.2.1 dX8_put_16 rfl (lv_at hl 1 rfl) ?_
    refine r_i2b X dX8_put_17 ?_
    obtain ⟨j2, hij2, hjj2, hlj2, hf⟩ := ag_inv hf
    refine r_bast X hP hS (ch_8_0 ks_8).1 (ch_8_0 ks_8).2 hij2 hjj2 dX8_put_18 (fun H locs hP hS => ?_)
    obtain ⟨s3, es3, hf⟩ := lt_inv hf
    rw [es3] at hP
    refine lv_aload_n X.1 X.2.1 dX8_put_19 rfl (lv_at hl 0 rfl) ?_
    refine lv_dup X.1 X.2.1 dX8_put_20 rfl ?_
    refine g_8_1 X hP ks_8 (tb t_195 rfl) dX8_put_21 ?_
    refine r_iconst X 1 dX8_put_24 ?_
    refine r_iadd X dX8_put_25 ?_
    refine p_8_1 X hP hS ks_8 (tb t_195 rfl) dX8_put_26 (fun H locs hP hS => ?_)
    obtain ⟨s4, es4, hf⟩ := lt_inv hf
    rw [es4] at hP
    cases so_inv hf
    exact r_vret X hP hS dX8_put_29
set_option maxHeartbeats 4000000 in
theorem c_X8_put {l : Launch} {G : GT} {σ τ : Mem} {l1 : Int} (hf : X8_put σ l1 = some τ) : CT l yX8_put cX8_put 2 none 2 81 G [.ref (gh G + 42), .int (i32 l1)] σ τ none := by
  refine CT.mk (own := RX8) (by decide) rfl (Nat.le_of_ble_eq_true rfl) ?_
  intro p e s m below meth c ls X hP hS hl
  have hl : lv_has ls 2 [(0, .ref (gh G + 42)), (1, .int (i32 l1))] := hl
  exact a_X8_put_0 X σ s.heap [] ls l1 hP hS hf hl
theorem k_X8_put {p : Program} {l : Launch} {e : Env} {R : Room} {s : State} {m : MethodId} {args : Array Value} {below : List Frame} {meth : Method} {c : Code} {H : Heap} {locs : List Loc} {Q : State → Prop} {cc : ByteArray} {nL : Nat} {own : String} {ret : Option FieldType} {fF fL : Nat} {G : GT} {pc idx : Nat} {ls : Array Slot} {rest : List Value} {σ τ : Mem} {l1 : Int} (X : CX p R s m args meth c cc nL own ret fF fL G) (hP : PW G σ H) (hS : va_S (AA G) s.heap H locs) (hls : ls.size = nL) (hf : X8_put σ l1 = some τ) (h1 : Cond.methodLink own idx yX8_put ∈ TB) (hR : 2 + 1 ≤ fF ∧ 8 + (2 + 11) + 81 ≤ fL) (hW : (rest.map fun v => v.category).sum ≤ 8) (hd : decode cc pc = .ok (.invokevirtual idx, 3)) (kk : ∀ (H1 : Heap) (locs1 : List Loc), PW G τ H1 → va_S (AA G) s.heap H1 locs1 → W p l e R s m args below meth c H1 locs1 0 0 Q (F0 m (pc + 3) ls (rest))) : W p l e R s m args below meth c H locs 0 0 Q (F0 m pc ls (.int (i32 l1) :: .ref (gh G + 42) :: rest)) := r_callV (n := 1) X hP hS hls (c_X8_put hf) h1 (tb t_465 rfl) (tb t_466 rfl) (tb t_81 rfl) (tb t_467 rfl) (by decide +kernel) hR (r_recv X hP (kd_lt ks_8 (by decide)) (cE_8 ks_8) rfl) rfl rfl hW hd kk
/-! X10_feed -/
theorem dX10_feed_0 : decode cX10_feed 0 = .ok (.iload_n 2, 1) := by decide +kernel
theorem dX10_feed_1 : decode cX10_feed 1 = .ok (.iconst 1, 1) := by decide +kernel
theorem dX10_feed_2 : decode cX10_feed 2 = .ok (.iconst 4, 1) := by decide +kernel
theorem dX10_feed_3 : decode cX10_feed 3 = .ok (.invokestatic 62, 3) := by decide +kernel
theorem dX10_feed_6 : decode cX10_feed 6 = .ok (.ifCond .ne 10, 3) := by decide +kernel
theorem dX10_feed_9 : decode cX10_feed 9 = .ok (.aload_n 0, 1) := by decide +kernel
theorem dX10_feed_10 : decode cX10_feed 10 = .ok (.ldc 72, 2) := by decide +kernel
theorem dX10_feed_12 : decode cX10_feed 12 = .ok (.invokevirtual 73, 3) := by decide +kernel
theorem dX10_feed_15 : decode cX10_feed 15 = .ok (.ireturn, 1) := by decide +kernel
theorem dX10_feed_16 : decode cX10_feed 16 = .ok (.aload_n 0, 1) := by decide +kernel
theorem dX10_feed_17 : decode cX10_feed 17 = .ok (.getfield 22, 3) := by decide +kernel
theorem dX10_feed_20 : decode cX10_feed 20 = .ok (.getfield 101, 3) := by decide +kernel
theorem dX10_feed_23 : decode cX10_feed 23 = .ok (.astore_n 3, 1) := by decide +kernel
theorem dX10_feed_24 : decode cX10_feed 24 = .ok (.aload_n 3, 1) := by decide +kernel
theorem dX10_feed_25 : decode cX10_feed 25 = .ok (.iload_n 2, 1) := by decide +kernel
theorem dX10_feed_26 : decode cX10_feed 26 = .ok (.invokevirtual 105, 3) := by decide +kernel
theorem dX10_feed_29 : decode cX10_feed 29 = .ok (.ifCond .ne 10, 3) := by decide +kernel
theorem dX10_feed_32 : decode cX10_feed 32 = .ok (.aload_n 0, 1) := by decide +kernel
theorem dX10_feed_33 : decode cX10_feed 33 = .ok (.ldc 110, 2) := by decide +kernel
theorem dX10_feed_35 : decode cX10_feed 35 = .ok (.invokevirtual 73, 3) := by decide +kernel
theorem dX10_feed_38 : decode cX10_feed 38 = .ok (.ireturn, 1) := by decide +kernel
theorem dX10_feed_39 : decode cX10_feed 39 = .ok (.bipush 8, 2) := by decide +kernel
theorem dX10_feed_41 : decode cX10_feed 41 = .ok (.iload_n 2, 1) := by decide +kernel
theorem dX10_feed_42 : decode cX10_feed 42 = .ok (.iconst 1, 1) := by decide +kernel
theorem dX10_feed_43 : decode cX10_feed 43 = .ok (.isub, 1) := by decide +kernel
theorem dX10_feed_44 : decode cX10_feed 44 = .ok (.imul, 1) := by decide +kernel
theorem dX10_feed_45 : decode cX10_feed 45 = .ok (.istore 4, 2) := by decide +kernel
theorem dX10_feed_47 : decode cX10_feed 47 = .ok (.iload 4, 2) := by decide +kernel
theorem dX10_feed_49 : decode cX10_feed 49 = .ok (.ifCond .lt 17, 3) := by decide +kernel
theorem dX10_feed_52 : decode cX10_feed 52 = .ok (.aload_n 3, 1) := by decide +kernel
theorem dX10_feed_53 : decode cX10_feed 53 = .ok (.iload_n 1, 1) := by decide +kernel
theorem dX10_feed_54 : decode cX10_feed 54 = .ok (.iload 4, 2) := by decide +kernel
theorem dX10_feed_56 : decode cX10_feed 56 = .ok (.ishr, 1) := by decide +kernel
theorem dX10_feed_57 : decode cX10_feed 57 = .ok (.invokevirtual 111, 3) := by decide +kernel
theorem dX10_feed_60 : decode cX10_feed 60 = .ok (.iinc 4 (-8), 3) := by decide +kernel
theorem dX10_feed_63 : decode cX10_feed 63 = .ok (.goto (-16), 3) := by decide +kernel
theorem dX10_feed_66 : decode cX10_feed 66 = .ok (.aload_n 3, 1) := by decide +kernel
theorem dX10_feed_67 : decode cX10_feed 67 = .ok (.getfield 115, 3) := by decide +kernel
theorem dX10_feed_70 : decode cX10_feed 70 = .ok (.ireturn, 1) := by decide +kernel
def S_X10_feed_47 (fn : Mem → Int → Int → Option (Int × Mem)) (p : Program) (l : Launch) (e : Env) (R : Room) (s : State) (m : MethodId) (args : Array Value) (below : List Frame) (meth : Method) (c : Code) (G : GT) (τ : Mem) (res : Int) : Prop := ∀ (σ : Mem) (H : Heap) (locs : List Loc) (ls : Array Slot) (l1 : Int) (l4 : Int), PW G σ H → va_S (AA G) s.heap H locs → fn σ l1 l4 = some (res, τ) → lv_has ls 5 [(1, .int (i32 l1)), (3, .ref (gh G + 42)), (4, .int (i32 l4))] → W p l e R s m args below meth c H locs 0 0 (MQ below (QM G (some (.int (i32 res))) τ) args s 0 0 (AA G)) (F0 m 47 ls [])
def X10_feed_B47 (rec47 : Mem → Int → Int → Option (Int × Mem)) (σ : Mem) (l1 : Int) (l4 : Int) : Option (Int × Mem) :=
  if w32 l4 < 0 then
    some (σ 42 1, σ)
  else
  bd (X8_put σ (isr l1 l4)) fun s2 =>
  lt (l4 + (-8)) fun l4_3 =>
  rec47 s2 l1 l4_3
def X10_feed_L47 : Nat → Mem → Int → Int → Option (Int × Mem)
  | 0 => fun _ _ _ => none
  | n + 1 => X10_feed_B47 (X10_feed_L47 n)
def X10_feed (σ : Mem) (l1 : Int) (l2 : Int) : Option (Int × Mem) :=
  bd (X10_within σ l2 1 4) fun r1 =>
  if w32 r1 ≠ 0 then
    bd (X8_hasRoomFor σ l2) fun r2 =>
    if w32 r2 ≠ 0 then
      lt (8 * (l2 - 1)) fun l4_3 =>
      X10_feed_L47 5000 σ l1 l4_3
    else
    bd2 (X10_tell σ (-1000002)) fun r4 s5 =>
    some (r4, s5)
  else
  bd2 (X10_tell σ (-1000001)) fun r6 s7 =>
  some (r6, s7)
def S_X10_feed_0 (fn : Mem → Int → Int → Option (Int × Mem)) (p : Program) (l : Launch) (e : Env) (R : Room) (s : State) (m : MethodId) (args : Array Value) (below : List Frame) (meth : Method) (c : Code) (G : GT) (τ : Mem) (res : Int) : Prop := ∀ (σ : Mem) (H : Heap) (locs : List Loc) (ls : Array Slot) (l1 : Int) (l2 : Int), PW G σ H → va_S (AA G) s.heap H locs → fn σ l1 l2 = some (res, τ) → lv_has ls 5 [(0, .ref (gh G + 0)), (1, .int (i32 l1)), (2, .int (i32 l2))] → W p l e R s m args below meth c H locs 0 0 (MQ below (QM G (some (.int (i32 res))) τ) args s 0 0 (AA G)) (F0 m 0 ls [])
set_option maxHeartbeats 4000000 in
theorem a_X10_feed_47 {p : Program} {l : Launch} {e : Env} {R : Room} {s : State} {m : MethodId} {args : Array Value} {below : List Frame} {meth : Method} {c : Code} {G : GT} {τ : Mem} {res : Int} {rec47 : Mem → Int → Int → Option (Int × Mem)} (X : CX p R s m args meth c cX10_feed 5 RX10 (some FieldType.int) 3 104 G) (h47 : S_X10_feed_47 rec47 p l e R s m args below meth c G τ res) : S_X10_feed_47 (X10_feed_B47 rec47) p l e R s m args below meth c G τ res := by
  intro σ H locs ls l1 l4 hP hS hf hl
  unfold X10_feed_B47 at hf
  refine lv_iload X.1 X.2.1 dX10_feed_47 (lv_at hl 2 rfl) ?_
  refine r_if_lt (tgt := 66) X dX10_feed_49 (by decide) (fun q => ?_) (fun q => ?_)
  · replace hf := it_inv q hf
    refine lv_aload_n X.1 X.2.1 dX10_feed_66 rfl (lv_at hl 1 rfl) ?_
    refine g_8_1 X hP ks_8 (tb t_196 rfl) dX10_feed_67 ?_
    obtain ⟨rfl, rfl⟩ := so2_inv hf
    exact r_iret X hP hS dX10_feed_70
  · replace hf := ie_inv q hf
    refine lv_aload_n X.1 X.2.1 dX10_feed_52 rfl (lv_at hl 1 rfl) ?_
    refine lv_iload_n X.1 X.2.1 dX10_feed_53 rfl (lv_at hl 0 rfl) ?_
    refine lv_iload X.1 X.2.1 dX10_feed_54 (lv_at hl 2 rfl) ?_
    refine r_ishr X dX10_feed_56 ?_
    obtain ⟨s2, hr1, hf⟩ := bd_inv hf
    refine k_X8_put X hP hS hl.1  hr1 (tb t_464 rfl) (by decide) (Nat.le_of_ble_eq_true rfl) dX10_feed_57 (fun H locs hP hS => ?_)
    obtain ⟨l4_3, el4_3, hf⟩ := lt_inv hf
    refine lv_iinc (v := i32 l4_3) (lv' := [(4, .int (i32 l4_3)), (1, .int (i32 l1)), (3, .ref (gh G + 42))]) X.1 X.2.1 dX10_feed_60 hl (k := 2) rfl (by rw [← el4_3]; exact i32_add _ _) (by decide) rfl (fun ls hl => ?_)
    refine lv_goto (tgt := 47) X.1 X.2.1 dX10_feed_63 (by decide) ?_
    exact h47 s2 H locs ls l1 l4_3 hP hS hf (lv_sub hl [1, 2, 0] rfl)
theorem al_X10_feed_47 {p : Program} {l : Launch} {e : Env} {R : Room} {s : State} {m : MethodId} {args : Array Value} {below : List Frame} {meth : Method} {c : Code} {G : GT} {τ : Mem} {res : Int} (X : CX p R s m args meth c cX10_feed 5 RX10 (some FieldType.int) 3 104 G) : ∀ n, S_X10_feed_47 (X10_feed_L47 n) p l e R s m args below meth c G τ res := by
  intro n
  induction n with
  | zero =>
    intro σ H locs ls l1 l4 hP hS hf hl
    cases hf
  | succ n ih => exact a_X10_feed_47 X ih
set_option maxHeartbeats 4000000 in
theorem a_X10_feed_0 {p : Program} {l : Launch} {e : Env} {R : Room} {s : State} {m : MethodId} {args : Array Value} {below : List Frame} {meth : Method} {c : Code} {G : GT} {τ : Mem} {res : Int} (X : CX p R s m args meth c cX10_feed 5 RX10 (some FieldType.int) 3 104 G) : S_X10_feed_0 (X10_feed) p l e R s m args below meth c G τ res := by
  intro σ H locs ls l1 l2 hP hS hf hl
  unfold X10_feed at hf
  refine lv_iload_n X.1 X.2.1 dX10_feed_0 rfl (lv_at hl 2 rfl) ?_
  refine r_iconst X 1 dX10_feed_1 ?_
  refine r_iconst X 4 dX10_feed_2 ?_
  obtain ⟨r1, hr1, hf⟩ := bd_inv hf
  refine k_X10_within X hP hS hl.1  hr1 (tb t_423 rfl) (by decide) (Nat.le_of_ble_eq_true rfl) dX10_feed_3 (fun H locs hP hS => ?_)
  refine r_if_ne (tgt := 16) X dX10_feed_6 (by decide) (fun q => ?_) (fun q => ?_)
  · replace hf := it_inv q hf
    refine lv_aload_n X.1 X.2.1 dX10_feed_16 rfl (lv_at hl 0 rfl) ?_
    refine g_10_3 (r := 41) X hP ks_10 rfl (tb t_391 rfl) dX10_feed_17 ?_
    refine g_9_0 (r := 42) X hP ks_9 rfl (tb t_216 rfl) dX10_feed_20 ?_
    refine lv_astore_n (lv' := [(3, .ref (gh G + 42)), (0, .ref (gh G + 0)), (1, .int (i32 l1)), (2, .int (i32 l2))]) X.1 X.2.1 dX10_feed_23 rfl hl (by decide) rfl (fun ls hl => ?_)
    refine lv_aload_n X.1 X.2.1 dX10_feed_24 rfl (lv_at hl 0 rfl) ?_
    refine lv_iload_n X.1 X.2.1 dX10_feed_25 rfl (lv_at hl 3 rfl) ?_
    obtain ⟨r2, hr2, hf⟩ := bd_inv hf
    refine k_X8_hasRoomFor X hP hS hl.1  hr2 (tb t_459 rfl) (by decide) (Nat.le_of_ble_eq_true rfl) dX10_feed_26 (fun H locs hP hS => ?_)
    refine r_if_ne (tgt := 39) X dX10_feed_29 (by decide) (fun q => ?_) (fun q => ?_)
    · replace hf := it_inv q hf
      refine r_bipush X 8 (by decide) dX10_feed_39 ?_
      refine lv_iload_n X.1 X.2.1 dX10_feed_41 rfl (lv_at hl 3 rfl) ?_
      refine r_iconst X 1 dX10_feed_42 ?_
      refine r_isub X dX10_feed_43 ?_
      refine r_imul X dX10_feed_44 ?_
      obtain ⟨l4_3, el4_3, hf⟩ := lt_inv hf
      refine r_eqi el4_3 ?_
      refine lv_istore (lv' := [(4, .int (i32 l4_3)), (3, .ref (gh G + 42)), (0, .ref (gh G + 0)), (1, .int (i32 l1)), (2, .int (i32 l2))]) X.1 X.2.1 dX10_feed_45 hl (by decide) rfl (fun ls hl => ?_)
      exact al_X10_feed_47 X 5000 σ H locs ls l1 l4_3 hP hS hf (lv_sub hl [3, 1, 0] rfl)
    · replace hf := ie_inv q hf
      refine lv_aload_n X.1 X.2.1 dX10_feed_32 rfl (lv_at hl 1 rfl) ?_
      refine r_ldc X (-1000002) (tb t_463 rfl) (by decide) dX10_feed_33 ?_
      obtain ⟨r4, s5, hr4, hf⟩ := bd2_inv hf
      refine k_X10_tell X hP hS hl.1  hr4 (tb t_431 rfl) (by decide) (Nat.le_of_ble_eq_true rfl) dX10_feed_35 (fun H locs hP hS => ?_)
      obtain ⟨rfl, rfl⟩ := so2_inv hf
      exact r_iret X hP hS dX10_feed_38
  · replace hf := ie_inv q hf
    refine lv_aload_n X.1 X.2.1 dX10_feed_9 rfl (lv_at hl 0 rfl) ?_
    refine r_ldc X (-1000001) (tb t_430 rfl) (by decide) dX10_feed_10 ?_
    obtain ⟨r6, s7, hr6, hf⟩ := bd2_inv hf
    refine k_X10_tell X hP hS hl.1  hr6 (tb t_431 rfl) (by decide) (Nat.le_of_ble_eq_true rfl) dX10_feed_12 (fun H locs hP hS => ?_)
    obtain ⟨rfl, rfl⟩ := so2_inv hf
    exact r_iret X hP hS dX10_feed_15
set_option maxHeartbeats 4000000 in
theorem c_X10_feed {l : Launch} {G : GT} {σ τ : Mem} {res : Int} {l1 : Int} {l2 : Int} (hf : X10_feed σ l1 l2 = some (res, τ)) : CT l yX10_feed cX10_feed 5 (some FieldType.int) 3 104 G [.ref (gh G + 0), .int (i32 l1), .int (i32 l2)] σ τ (some (.int (i32 res))) := by
  refine CT.mk (own := RX10) (by decide) rfl (Nat.le_of_ble_eq_true rfl) ?_
  intro p e s m below meth c ls X hP hS hl
  have hl : lv_has ls 5 [(0, .ref (gh G + 0)), (1, .int (i32 l1)), (2, .int (i32 l2))] := hl
  exact a_X10_feed_0 X σ s.heap [] ls l1 l2 hP hS hf hl
theorem k_X10_feed {p : Program} {l : Launch} {e : Env} {R : Room} {s : State} {m : MethodId} {args : Array Value} {below : List Frame} {meth : Method} {c : Code} {H : Heap} {locs : List Loc} {Q : State → Prop} {cc : ByteArray} {nL : Nat} {own : String} {ret : Option FieldType} {fF fL : Nat} {G : GT} {pc idx : Nat} {ls : Array Slot} {rest : List Value} {σ τ : Mem} {res : Int} {l1 : Int} {l2 : Int} (X : CX p R s m args meth c cc nL own ret fF fL G) (hP : PW G σ H) (hS : va_S (AA G) s.heap H locs) (hls : ls.size = nL) (hf : X10_feed σ l1 l2 = some (res, τ)) (h1 : Cond.methodLink own idx yX10_feed ∈ TB) (hR : 3 + 1 ≤ fF ∧ 8 + (5 + 11) + 104 ≤ fL) (hW : (rest.map fun v => v.category).sum ≤ 8) (hd : decode cc pc = .ok (.invokevirtual idx, 3)) (kk : ∀ (H1 : Heap) (locs1 : List Loc), PW G τ H1 → va_S (AA G) s.heap H1 locs1 → W p l e R s m args below meth c H1 locs1 0 0 Q (F0 m (pc + 3) ls (.int (i32 res) :: rest))) : W p l e R s m args below meth c H locs 0 0 Q (F0 m pc ls (.int (i32 l2) :: .int (i32 l1) :: .ref (gh G + 0) :: rest)) := r_callV (n := 2) X hP hS hls (c_X10_feed hf) h1 (tb t_456 rfl) (tb t_457 rfl) (tb t_75 rfl) (tb t_458 rfl) (by decide +kernel) hR (r_recv X hP (kd_lt ks_10 (by decide)) (cE_10 ks_10) rfl) rfl rfl hW hd kk
/-! X1_followingSet -/
theorem dX1_followingSet_0 : decode cX1_followingSet 0 = .ok (.iload_n 0, 1) := by decide +kernel
theorem dX1_followingSet_1 : decode cX1_followingSet 1 = .ok (.bipush 11, 2) := by decide +kernel
theorem dX1_followingSet_3 : decode cX1_followingSet 3 = .ok (.ishr, 1) := by decide +kernel
theorem dX1_followingSet_4 : decode cX1_followingSet 4 = .ok (.iconst 1, 1) := by decide +kernel
theorem dX1_followingSet_5 : decode cX1_followingSet 5 = .ok (.iand, 1) := by decide +kernel
theorem dX1_followingSet_6 : decode cX1_followingSet 6 = .ok (.bipush 10, 2) := by decide +kernel
theorem dX1_followingSet_8 : decode cX1_followingSet 8 = .ok (.ishl, 1) := by decide +kernel
theorem dX1_followingSet_9 : decode cX1_followingSet 9 = .ok (.istore_n 1, 1) := by decide +kernel
theorem dX1_followingSet_10 : decode cX1_followingSet 10 = .ok (.iload_n 0, 1) := by decide +kernel
theorem dX1_followingSet_11 : decode cX1_followingSet 11 = .ok (.iconst 1, 1) := by decide +kernel
theorem dX1_followingSet_12 : decode cX1_followingSet 12 = .ok (.ishl, 1) := by decide +kernel
theorem dX1_followingSet_13 : decode cX1_followingSet 13 = .ok (.sipush 4095, 3) := by decide +kernel
theorem dX1_followingSet_16 : decode cX1_followingSet 16 = .ok (.iand, 1) := by decide +kernel
theorem dX1_followingSet_17 : decode cX1_followingSet 17 = .ok (.iload_n 1, 1) := by decide +kernel
theorem dX1_followingSet_18 : decode cX1_followingSet 18 = .ok (.ior, 1) := by decide +kernel
theorem dX1_followingSet_19 : decode cX1_followingSet 19 = .ok (.ireturn, 1) := by decide +kernel
def X1_followingSet (σ : Mem) (l0 : Int) : Option (Int) :=
  lt (isl (ian (isr l0 11) 1) 10) fun l1_1 =>
  some (iro (ian (isl l0 1) 4095) l1_1)
def S_X1_followingSet_0 (fn : Int → Option (Int)) (p : Program) (l : Launch) (e : Env) (R : Room) (s : State) (m : MethodId) (args : Array Value) (below : List Frame) (meth : Method) (c : Code) (G : GT) (σ : Mem) (res : Int) : Prop := ∀ (H : Heap) (locs : List Loc) (ls : Array Slot) (l0 : Int), PW G σ H → va_S (AA G) s.heap H locs → fn l0 = some res → lv_has ls 2 [(0, .int (i32 l0))] → W p l e R s m args below meth c H locs 0 0 (MQ below (QM G (some (.int (i32 res))) σ) args s 0 0 (AA G)) (F0 m 0 ls [])
set_option maxHeartbeats 4000000 in
theorem a_X1_followingSet_0 {p : Program} {l : Launch} {e : Env} {R : Room} {s : State} {m : MethodId} {args : Array Value} {below : List Frame} {meth : Method} {c : Code} {G : GT} {σ : Mem} {res : Int} (X : CX p R s m args meth c cX1_followingSet 2 RX1 (some FieldType.int) 1 60 G) : S_X1_followingSet_0 (X1_followingSet σ) p l e R s m args below meth c G σ res := by
  intro H locs ls l0 hP hS hf hl
  unfold X1_followingSet at hf
  refine lv_iload_n X.1 X.2.1 dX1_followingSet_0 rfl (lv_at hl 0 rfl) ?_
  refine r_bipush X 11 (by decide) dX1_followingSet_1 ?_
  refine r_ishr X dX1_followingSet_3 ?_
  refine r_iconst X 1 dX1_followingSet_4 ?_
  refine r_iand X dX1_followingSet_5 ?_
  refine r_bipush X 10 (by decide) dX1_followingSet_6 ?_
  refine r_ishl X dX1_followingSet_8 ?_
  obtain ⟨l1_1, el1_1, hf⟩ := lt_inv hf
  refine r_eqi el1_1 ?_
  refine lv_istore_n (lv' := [(1, .int (i32 l1_1)), (0, .int (i32 l0))]) X.1 X.2.1 dX1_followingSet_9 rfl hl (by decide) rfl (fun ls hl => ?_)
  refine lv_iload_n X.1 X.2.1 dX1_followingSet_10 rfl (lv_at hl 1 rfl) ?_
  refine r_iconst X 1 dX1_followingSet_11 ?_
  refine r_ishl X dX1_followingSet_12 ?_
  refine r_sipush X 4095 (by decide) dX1_followingSet_13 ?_
  refine r_iand X dX1_followingSet_16 ?_
  refine lv_iload_n X.1 X.2.1 dX1_followingSet_17 rfl (lv_at hl 0 rfl) ?_
  refine r_ior X dX1_followingSet_18 ?_
  cases so_inv hf
  exact r_iret X hP hS dX1_followingSet_19
set_option maxHeartbeats 4000000 in
theorem c_X1_followingSet {l : Launch} {G : GT} {σ : Mem} {res : Int} {l0 : Int} (hf : X1_followingSet σ l0 = some res) : CT l yX1_followingSet cX1_followingSet 2 (some FieldType.int) 1 60 G [.int (i32 l0)] σ σ (some (.int (i32 res))) := by
  refine CT.mk (own := RX1) (by decide) rfl (Nat.le_of_ble_eq_true rfl) ?_
  intro p e s m below meth c ls X hP hS hl
  have hl : lv_has ls 2 [(0, .int (i32 l0))] := hl
  exact a_X1_followingSet_0 X  s.heap [] ls l0 hP hS hf hl
theorem k_X1_followingSet {p : Program} {l : Launch} {e : Env} {R : Room} {s : State} {m : MethodId} {args : Array Value} {below : List Frame} {meth : Method} {c : Code} {H : Heap} {locs : List Loc} {Q : State → Prop} {cc : ByteArray} {nL : Nat} {own : String} {ret : Option FieldType} {fF fL : Nat} {G : GT} {pc idx : Nat} {ls : Array Slot} {rest : List Value} {σ : Mem} {res : Int} {l0 : Int} (X : CX p R s m args meth c cc nL own ret fF fL G) (hP : PW G σ H) (hS : va_S (AA G) s.heap H locs) (hls : ls.size = nL) (hf : X1_followingSet σ l0 = some res) (h1 : Cond.methodLink own idx yX1_followingSet ∈ TB) (hR : 1 + 1 ≤ fF ∧ 8 + (2 + 11) + 60 ≤ fL) (hW : (rest.map fun v => v.category).sum ≤ 8) (hd : decode cc pc = .ok (.invokestatic idx, 3)) (kk : ∀ (H1 : Heap) (locs1 : List Loc), PW G σ H1 → va_S (AA G) s.heap H1 locs1 → W p l e R s m args below meth c H1 locs1 0 0 Q (F0 m (pc + 3) ls (.int (i32 res) :: rest))) : W p l e R s m args below meth c H locs 0 0 Q (F0 m pc ls (.int (i32 l0) :: rest)) := r_callS (n := 1) X hP hS hls (c_X1_followingSet hf) h1 (tb t_891 rfl) (tb t_82 rfl) (tb t_892 rfl) (by decide +kernel) hR rfl rfl hW hd kk
theorem kn_X1_followingSet {p : Program} {l : Launch} {e : Env} {R : Room} {s : State} {m : MethodId} {args : Array Value} {below : List Frame} {meth : Method} {c : Code} {H : Heap} {locs : List Loc} {Q : State → Prop} {cc : ByteArray} {nL : Nat} {own : String} {ret : Option FieldType} {fF fL : Nat} {G : GT} {pc idx : Nat} {ls : Array Slot} {rest : List Value} {σ : Mem} {res : Int} {l0 : Int} (X : CX p R s m args meth c cc nL own ret fF fL G) (hP : PW G σ H) (hS : va_S (AA G) s.heap H locs) (hls : ls.size = nL) (hf : X1_followingSet σ l0 = some res) {host : String} (h1 : Cond.methodLinkNest own idx yX1_followingSet host ∈ NWl) (hR : 1 + 1 ≤ fF ∧ 8 + (2 + 11) + 60 ≤ fL) (hW : (rest.map fun v => v.category).sum ≤ 8) (hd : decode cc pc = .ok (.invokestatic idx, 3)) (kk : ∀ (H1 : Heap) (locs1 : List Loc), PW G σ H1 → va_S (AA G) s.heap H1 locs1 → W p l e R s m args below meth c H1 locs1 0 0 Q (F0 m (pc + 3) ls (.int (i32 res) :: rest))) : W p l e R s m args below meth c H locs 0 0 Q (F0 m pc ls (.int (i32 l0) :: rest)) := r_callSN (n := 1) X hP hS hls (c_X1_followingSet hf) h1 (tb t_891 rfl) (tb t_82 rfl) (tb t_892 rfl) (by decide +kernel) hR rfl rfl hW hd kk
/-! X1_flows -/
theorem dX1_flows_0 : decode cX1_flows 0 = .ok (.aload_n 1, 1) := by decide +kernel
theorem dX1_flows_1 : decode cX1_flows 1 = .ok (.getfield 57, 3) := by decide +kernel
theorem dX1_flows_4 : decode cX1_flows 4 = .ok (.istore 4, 2) := by decide +kernel
theorem dX1_flows_6 : decode cX1_flows 6 = .ok (.sipush 1365, 3) := by decide +kernel
theorem dX1_flows_9 : decode cX1_flows 9 = .ok (.iload_n 2, 1) := by decide +kernel
theorem dX1_flows_10 : decode cX1_flows 10 = .ok (.iconst (-1), 1) := by decide +kernel
theorem dX1_flows_11 : decode cX1_flows 11 = .ok (.ixor, 1) := by decide +kernel
theorem dX1_flows_12 : decode cX1_flows 12 = .ok (.iand, 1) := by decide +kernel
theorem dX1_flows_13 : decode cX1_flows 13 = .ok (.istore 5, 2) := by decide +kernel
theorem dX1_flows_15 : decode cX1_flows 15 = .ok (.aload_n 0, 1) := by decide +kernel
theorem dX1_flows_16 : decode cX1_flows 16 = .ok (.getfield 22, 3) := by decide +kernel
theorem dX1_flows_19 : decode cX1_flows 19 = .ok (.iconst 0, 1) := by decide +kernel
theorem dX1_flows_20 : decode cX1_flows 20 = .ok (.invokestatic 60, 3) := by decide +kernel
theorem dX1_flows_23 : decode cX1_flows 23 = .ok (.aload_n 0, 1) := by decide +kernel
theorem dX1_flows_24 : decode cX1_flows 24 = .ok (.getfield 22, 3) := by decide +kernel
theorem dX1_flows_27 : decode cX1_flows 27 = .ok (.iconst 0, 1) := by decide +kernel
theorem dX1_flows_28 : decode cX1_flows 28 = .ok (.iconst 1, 1) := by decide +kernel
theorem dX1_flows_29 : decode cX1_flows 29 = .ok (.iastore, 1) := by decide +kernel
theorem dX1_flows_30 : decode cX1_flows 30 = .ok (.iconst 0, 1) := by decide +kernel
theorem dX1_flows_31 : decode cX1_flows 31 = .ok (.istore 6, 2) := by decide +kernel
theorem dX1_flows_33 : decode cX1_flows 33 = .ok (.iload 6, 2) := by decide +kernel
theorem dX1_flows_35 : decode cX1_flows 35 = .ok (.iload 4, 2) := by decide +kernel
theorem dX1_flows_37 : decode cX1_flows 37 = .ok (.if_icmp .ge 116, 3) := by decide +kernel
theorem dX1_flows_40 : decode cX1_flows 40 = .ok (.aload_n 0, 1) := by decide +kernel
theorem dX1_flows_41 : decode cX1_flows 41 = .ok (.getfield 22, 3) := by decide +kernel
theorem dX1_flows_44 : decode cX1_flows 44 = .ok (.iload 6, 2) := by decide +kernel
theorem dX1_flows_46 : decode cX1_flows 46 = .ok (.iaload, 1) := by decide +kernel
theorem dX1_flows_47 : decode cX1_flows 47 = .ok (.ifCond .ne 6, 3) := by decide +kernel
theorem dX1_flows_50 : decode cX1_flows 50 = .ok (.goto 97, 3) := by decide +kernel
theorem dX1_flows_53 : decode cX1_flows 53 = .ok (.iload 6, 2) := by decide +kernel
theorem dX1_flows_55 : decode cX1_flows 55 = .ok (.istore 7, 2) := by decide +kernel
theorem dX1_flows_57 : decode cX1_flows 57 = .ok (.iload 7, 2) := by decide +kernel
theorem dX1_flows_59 : decode cX1_flows 59 = .ok (.iload 4, 2) := by decide +kernel
theorem dX1_flows_61 : decode cX1_flows 61 = .ok (.if_icmp .ge 86, 3) := by decide +kernel
theorem dX1_flows_64 : decode cX1_flows 64 = .ok (.aload_n 1, 1) := by decide +kernel
theorem dX1_flows_65 : decode cX1_flows 65 = .ok (.iload 6, 2) := by decide +kernel
theorem dX1_flows_67 : decode cX1_flows 67 = .ok (.iload 7, 2) := by decide +kernel
theorem dX1_flows_69 : decode cX1_flows 69 = .ok (.invokevirtual 66, 3) := by decide +kernel
theorem dX1_flows_72 : decode cX1_flows 72 = .ok (.ifCond .ne 6, 3) := by decide +kernel
theorem dX1_flows_75 : decode cX1_flows 75 = .ok (.goto 66, 3) := by decide +kernel
theorem dX1_flows_78 : decode cX1_flows 78 = .ok (.iload 7, 2) := by decide +kernel
theorem dX1_flows_80 : decode cX1_flows 80 = .ok (.iload 4, 2) := by decide +kernel
theorem dX1_flows_82 : decode cX1_flows 82 = .ok (.iconst 1, 1) := by decide +kernel
theorem dX1_flows_83 : decode cX1_flows 83 = .ok (.isub, 1) := by decide +kernel
theorem dX1_flows_84 : decode cX1_flows 84 = .ok (.if_icmp .ne 5, 3) := by decide +kernel
theorem dX1_flows_87 : decode cX1_flows 87 = .ok (.iconst 1, 1) := by decide +kernel
theorem dX1_flows_88 : decode cX1_flows 88 = .ok (.ireturn, 1) := by decide +kernel
theorem dX1_flows_89 : decode cX1_flows 89 = .ok (.aload_n 0, 1) := by decide +kernel
theorem dX1_flows_90 : decode cX1_flows 90 = .ok (.getfield 18, 3) := by decide +kernel
theorem dX1_flows_93 : decode cX1_flows 93 = .ok (.iload 7, 2) := by decide +kernel
theorem dX1_flows_95 : decode cX1_flows 95 = .ok (.iaload, 1) := by decide +kernel
theorem dX1_flows_96 : decode cX1_flows 96 = .ok (.iload_n 3, 1) := by decide +kernel
theorem dX1_flows_97 : decode cX1_flows 97 = .ok (.if_icmp .lt 13, 3) := by decide +kernel
theorem dX1_flows_100 : decode cX1_flows 100 = .ok (.aload_n 0, 1) := by decide +kernel
theorem dX1_flows_101 : decode cX1_flows 101 = .ok (.getfield 22, 3) := by decide +kernel
theorem dX1_flows_104 : decode cX1_flows 104 = .ok (.iload 6, 2) := by decide +kernel
theorem dX1_flows_106 : decode cX1_flows 106 = .ok (.iaload, 1) := by decide +kernel
theorem dX1_flows_107 : decode cX1_flows 107 = .ok (.goto 15, 3) := by decide +kernel
theorem dX1_flows_110 : decode cX1_flows 110 = .ok (.aload_n 0, 1) := by decide +kernel
theorem dX1_flows_111 : decode cX1_flows 111 = .ok (.getfield 22, 3) := by decide +kernel
theorem dX1_flows_114 : decode cX1_flows 114 = .ok (.iload 6, 2) := by decide +kernel
theorem dX1_flows_116 : decode cX1_flows 116 = .ok (.iaload, 1) := by decide +kernel
theorem dX1_flows_117 : decode cX1_flows 117 = .ok (.iload 5, 2) := by decide +kernel
theorem dX1_flows_119 : decode cX1_flows 119 = .ok (.iconst (-1), 1) := by decide +kernel
theorem dX1_flows_120 : decode cX1_flows 120 = .ok (.ixor, 1) := by decide +kernel
theorem dX1_flows_121 : decode cX1_flows 121 = .ok (.iand, 1) := by decide +kernel
theorem dX1_flows_122 : decode cX1_flows 122 = .ok (.istore 8, 2) := by decide +kernel
theorem dX1_flows_124 : decode cX1_flows 124 = .ok (.aload_n 0, 1) := by decide +kernel
theorem dX1_flows_125 : decode cX1_flows 125 = .ok (.getfield 22, 3) := by decide +kernel
theorem dX1_flows_128 : decode cX1_flows 128 = .ok (.iload 7, 2) := by decide +kernel
theorem dX1_flows_130 : decode cX1_flows 130 = .ok (.iconst 1, 1) := by decide +kernel
theorem dX1_flows_131 : decode cX1_flows 131 = .ok (.iadd, 1) := by decide +kernel
theorem dX1_flows_132 : decode cX1_flows 132 = .ok (.dup2, 1) := by decide +kernel
theorem dX1_flows_133 : decode cX1_flows 133 = .ok (.iaload, 1) := by decide +kernel
theorem dX1_flows_134 : decode cX1_flows 134 = .ok (.iload 8, 2) := by decide +kernel
theorem dX1_flows_136 : decode cX1_flows 136 = .ok (.invokestatic 70, 3) := by decide +kernel
theorem dX1_flows_139 : decode cX1_flows 139 = .ok (.ior, 1) := by decide +kernel
theorem dX1_flows_140 : decode cX1_flows 140 = .ok (.iastore, 1) := by decide +kernel
theorem dX1_flows_141 : decode cX1_flows 141 = .ok (.iinc 7 1, 3) := by decide +kernel
theorem dX1_flows_144 : decode cX1_flows 144 = .ok (.goto (-87), 3) := by decide +kernel
theorem dX1_flows_147 : decode cX1_flows 147 = .ok (.iinc 6 1, 3) := by decide +kernel
theorem dX1_flows_150 : decode cX1_flows 150 = .ok (.goto (-117), 3) := by decide +kernel
theorem dX1_flows_153 : decode cX1_flows 153 = .ok (.iconst 0, 1) := by decide +kernel
theorem dX1_flows_154 : decode cX1_flows 154 = .ok (.ireturn, 1) := by decide +kernel
def S_X1_flows_33 (fn : Mem → Nat → Int → Int → Int → Int → Option (Int × Mem)) (p : Program) (l : Launch) (e : Env) (R : Room) (s : State) (m : MethodId) (args : Array Value) (below : List Frame) (meth : Method) (c : Code) (G : GT) (τ : Mem) (res : Int) : Prop := ∀ (σ : Mem) (H : Heap) (locs : List Loc) (ls : Array Slot) (l1 : Nat) (l3 : Int) (l4 : Int) (l5 : Int) (l6 : Int), kd l1 = 4 → PW G σ H → va_S (AA G) s.heap H locs → fn σ l1 l3 l4 l5 l6 = some (res, τ) → lv_has ls 9 [(0, .ref (gh G + 53)), (1, .ref (gh G + l1)), (3, .int (i32 l3)), (4, .int (i32 l4)), (5, .int (i32 l5)), (6, .int (i32 l6))] → W p l e R s m args below meth c H locs 0 0 (MQ below (QM G (some (.int (i32 res))) τ) args s 0 0 (AA G)) (F0 m 33 ls [])
def S_X1_flows_57 (fn : Mem → Nat → Int → Int → Int → Int → Int → Option (Int × Mem)) (p : Program) (l : Launch) (e : Env) (R : Room) (s : State) (m : MethodId) (args : Array Value) (below : List Frame) (meth : Method) (c : Code) (G : GT) (τ : Mem) (res : Int) : Prop := ∀ (σ : Mem) (H : Heap) (locs : List Loc) (ls : Array Slot) (l1 : Nat) (l3 : Int) (l4 : Int) (l5 : Int) (l6 : Int) (l7 : Int), kd l1 = 4 → PW G σ H → va_S (AA G) s.heap H locs → fn σ l1 l3 l4 l5 l6 l7 = some (res, τ) → lv_has ls 9 [(0, .ref (gh G + 53)), (1, .ref (gh G + l1)), (3, .int (i32 l3)), (4, .int (i32 l4)), (5, .int (i32 l5)), (6, .int (i32 l6)), (7, .int (i32 l7))] → W p l e R s m args below meth c H locs 0 0 (MQ below (QM G (some (.int (i32 res))) τ) args s 0 0 (AA G)) (F0 m 57 ls [])
def X1_flows_B147 (rec33 : Mem → Nat → Int → Int → Int → Int → Option (Int × Mem)) (σ : Mem) (l1 : Nat) (l3 : Int) (l4 : Int) (l5 : Int) (l6 : Int) : Option (Int × Mem) :=
  lt (l6 + 1) fun l6_1 =>
  rec33 σ l1 l3 l4 l5 l6_1
def S_X1_flows_147 (fn : Mem → Nat → Int → Int → Int → Int → Option (Int × Mem)) (p : Program) (l : Launch) (e : Env) (R : Room) (s : State) (m : MethodId) (args : Array Value) (below : List Frame) (meth : Method) (c : Code) (G : GT) (τ : Mem) (res : Int) : Prop := ∀ (σ : Mem) (H : Heap) (locs : List Loc) (ls : Array Slot) (l1 : Nat) (l3 : Int) (l4 : Int) (l5 : Int) (l6 : Int), kd l1 = 4 → PW G σ H → va_S (AA G) s.heap H locs → fn σ l1 l3 l4 l5 l6 = some (res, τ) → lv_has ls 9 [(0, .ref (gh G + 53)), (1, .ref (gh G + l1)), (3, .int (i32 l3)), (4, .int (i32 l4)), (5, .int (i32 l5)), (6, .int (i32 l6))] → W p l e R s m args below meth c H locs 0 0 (MQ below (QM G (some (.int (i32 res))) τ) args s 0 0 (AA G)) (F0 m 147 ls [])
def X1_flows_B141 (rec33 : Mem → Nat → Int → Int → Int → Int → Option (Int × Mem)) (rec57 : Mem → Nat → Int → Int → Int → Int → Int → Option (Int × Mem)) (σ : Mem) (l1 : Nat) (l3 : Int) (l4 : Int) (l5 : Int) (l6 : Int) (l7 : Int) : Option (Int × Mem) :=
  lt (l7 + 1) fun l7_1 =>
  rec57 σ l1 l3 l4 l5 l6 l7_1
def S_X1_flows_141 (fn : Mem → Nat → Int → Int → Int → Int → Int → Option (Int × Mem)) (p : Program) (l : Launch) (e : Env) (R : Room) (s : State) (m : MethodId) (args : Array Value) (below : List Frame) (meth : Method) (c : Code) (G : GT) (τ : Mem) (res : Int) : Prop := ∀ (σ : Mem) (H : Heap) (locs : List Loc) (ls : Array Slot) (l1 : Nat) (l3 : Int) (l4 : Int) (l5 : Int) (l6 : Int) (l7 : Int), kd l1 = 4 → PW G σ H → va_S (AA G) s.heap H locs → fn σ l1 l3 l4 l5 l6 l7 = some (res, τ) → lv_has ls 9 [(0, .ref (gh G + 53)), (1, .ref (gh G + l1)), (3, .int (i32 l3)), (4, .int (i32 l4)), (5, .int (i32 l5)), (6, .int (i32 l6)), (7, .int (i32 l7))] → W p l e R s m args below meth c H locs 0 0 (MQ below (QM G (some (.int (i32 res))) τ) args s 0 0 (AA G)) (F0 m 141 ls [])
def X1_flows_B122 (rec33 : Mem → Nat → Int → Int → Int → Int → Option (Int × Mem)) (rec57 : Mem → Nat → Int → Int → Int → Int → Int → Option (Int × Mem)) (σ : Mem) (l1 : Nat) (l3 : Int) (l4 : Int) (l5 : Int) (l6 : Int) (l7 : Int) (k0 : Int) : Option (Int × Mem) :=
  lt (l7 + 1) fun v1 =>
  ag 41 v1 fun j2 =>
  bd (X1_followingSet σ k0) fun r3 =>
  ag 41 v1 fun j4 =>
  lt (st σ 59 j4 (iro (σ 59 j2) r3)) fun s5 =>
  X1_flows_B141 rec33 rec57 s5 l1 l3 l4 l5 l6 l7
def S_X1_flows_122 (fn : Mem → Nat → Int → Int → Int → Int → Int → Int → Option (Int × Mem)) (p : Program) (l : Launch) (e : Env) (R : Room) (s : State) (m : MethodId) (args : Array Value) (below : List Frame) (meth : Method) (c : Code) (G : GT) (τ : Mem) (res : Int) : Prop := ∀ (σ : Mem) (H : Heap) (locs : List Loc) (ls : Array Slot) (l1 : Nat) (l3 : Int) (l4 : Int) (l5 : Int) (l6 : Int) (l7 : Int) (k0 : Int), kd l1 = 4 → PW G σ H → va_S (AA G) s.heap H locs → fn σ l1 l3 l4 l5 l6 l7 k0 = some (res, τ) → lv_has ls 9 [(0, .ref (gh G + 53)), (1, .ref (gh G + l1)), (3, .int (i32 l3)), (4, .int (i32 l4)), (5, .int (i32 l5)), (6, .int (i32 l6)), (7, .int (i32 l7))] → W p l e R s m args below meth c H locs 0 0 (MQ below (QM G (some (.int (i32 res))) τ) args s 0 0 (AA G)) (F0 m 122 ls [.int (i32 k0)])
def X1_flows_B57 (rec33 : Mem → Nat → Int → Int → Int → Int → Option (Int × Mem)) (rec57 : Mem → Nat → Int → Int → Int → Int → Int → Option (Int × Mem)) (σ : Mem) (l1 : Nat) (l3 : Int) (l4 : Int) (l5 : Int) (l6 : Int) (l7 : Int) : Option (Int × Mem) :=
  if w32 l4 ≤ w32 l7 then
    X1_flows_B147 rec33 σ l1 l3 l4 l5 l6
  else
  bd (X4_hasPage σ l1 l6 l7) fun r1 =>
  if w32 r1 ≠ 0 then
    if w32 l7 ≠ w32 (l4 - 1) then
      ag 40 l7 fun j2 =>
      if w32 (σ 58 j2) < w32 l3 then
        ag 41 l6 fun j3 =>
        X1_flows_B122 rec33 rec57 σ l1 l3 l4 l5 l6 l7 (ian (σ 59 j3) (ixr l5 (-1)))
      else
      ag 41 l6 fun j4 =>
      X1_flows_B122 rec33 rec57 σ l1 l3 l4 l5 l6 l7 (σ 59 j4)
    else
    some (1, σ)
  else
  X1_flows_B141 rec33 rec57 σ l1 l3 l4 l5 l6 l7
def X1_flows_L57 (rec33 : Mem → Nat → Int → Int → Int → Int → Option (Int × Mem)) : Nat → Mem → Nat → Int → Int → Int → Int → Int → Option (Int × Mem)
  | 0 => fun _ _ _ _ _ _ _ => none
  | n + 1 => X1_flows_B57 rec33 (X1_flows_L57 rec33 n)
def X1_flows_B33 (rec33 : Mem → Nat → Int → Int → Int → Int → Option (Int × Mem)) (σ : Mem) (l1 : Nat) (l3 : Int) (l4 : Int) (l5 : Int) (l6 : Int) : Option (Int × Mem) :=
  if w32 l4 ≤ w32 l6 then
    some (0, σ)
  else
  ag 41 l6 fun j1 =>
  if w32 (σ 59 j1) ≠ 0 then
    X1_flows_L57 rec33 5000 σ l1 l3 l4 l5 l6 l6
  else
  X1_flows_B147 rec33 σ l1 l3 l4 l5 l6
def X1_flows_L33 : Nat → Mem → Nat → Int → Int → Int → Int → Option (Int × Mem)
  | 0 => fun _ _ _ _ _ _ => none
  | n + 1 => X1_flows_B33 (X1_flows_L33 n)
def X1_flows (σ : Mem) (l1 : Nat) (l2 : Int) (l3 : Int) : Option (Int × Mem) :=
  lt (σ l1 1) fun l4_1 =>
  lt (ian 1365 (ixr l2 (-1))) fun l5_2 =>
  bd (J7_fill_53178 σ 59 0) fun s4 =>
  ag 41 0 fun j5 =>
  lt (st s4 59 j5 1) fun s6 =>
  X1_flows_L33 5000 s6 l1 l3 l4_1 l5_2 0
def S_X1_flows_0 (fn : Mem → Nat → Int → Int → Option (Int × Mem)) (p : Program) (l : Launch) (e : Env) (R : Room) (s : State) (m : MethodId) (args : Array Value) (below : List Frame) (meth : Method) (c : Code) (G : GT) (τ : Mem) (res : Int) : Prop := ∀ (σ : Mem) (H : Heap) (locs : List Loc) (ls : Array Slot) (l1 : Nat) (l2 : Int) (l3 : Int), kd l1 = 4 → PW G σ H → va_S (AA G) s.heap H locs → fn σ l1 l2 l3 = some (res, τ) → lv_has ls 9 [(0, .ref (gh G + 53)), (1, .ref (gh G + l1)), (2, .int (i32 l2)), (3, .int (i32 l3))] → W p l e R s m args below meth c H locs 0 0 (MQ below (QM G (some (.int (i32 res))) τ) args s 0 0 (AA G)) (F0 m 0 ls [])
set_option maxHeartbeats 4000000 in
theorem a_X1_flows_147 {p : Program} {l : Launch} {e : Env} {R : Room} {s : State} {m : MethodId} {args : Array Value} {below : List Frame} {meth : Method} {c : Code} {G : GT} {τ : Mem} {res : Int} {rec33 : Mem → Nat → Int → Int → Int → Int → Option (Int × Mem)} (X : CX p R s m args meth c cX1_flows 9 RX1 (some FieldType.boolean) 2 83 G) (h33 : S_X1_flows_33 rec33 p l e R s m args below meth c G τ res) : S_X1_flows_147 (X1_flows_B147 rec33) p l e R s m args below meth c G τ res := by
  intro σ H locs ls l1 l3 l4 l5 l6 hk_l1 hP hS hf hl
  unfold X1_flows_B147 at hf
  obtain ⟨l6_1, el6_1, hf⟩ := lt_inv hf
  refine lv_iinc (v := i32 l6_1) (lv' := [(6, .int (i32 l6_1)), (0, .ref (gh G + 53)), (1, .ref (gh G + l1)), (3, .int (i32 l3)), (4, .int (i32 l4)), (5, .int (i32 l5))]) X.1 X.2.1 dX1_flows_147 hl (k := 5) rfl (by rw [← el6_1]; exact i32_add _ _) (by decide) rfl (fun ls hl => ?_)
  refine lv_goto (tgt := 33) X.1 X.2.1 dX1_flows_150 (by decide) ?_
  exact h33 σ H locs ls l1 l3 l4 l5 l6_1 hk_l1 hP hS hf (lv_sub hl [1, 2, 3, 4, 5, 0] rfl)
set_option maxHeartbeats 4000000 in
theorem a_X1_flows_141 {p : Program} {l : Launch} {e : Env} {R : Room} {s : State} {m : MethodId} {args : Array Value} {below : List Frame} {meth : Method} {c : Code} {G : GT} {τ : Mem} {res : Int} {rec33 : Mem → Nat → Int → Int → Int → Int → Option (Int × Mem)} {rec57 : Mem → Nat → Int → Int → Int → Int → Int → Option (Int × Mem)} (X : CX p R s m args meth c cX1_flows 9 RX1 (some FieldType.boolean) 2 83 G) (h33 : S_X1_flows_33 rec33 p l e R s m args below meth c G τ res) (h57 : S_X1_flows_57 rec57 p l e R s m args below meth c G τ res) : S_X1_flows_141 (X1_flows_B141 rec33 rec57) p l e R s m args below meth c G τ res := by
  intro σ H locs ls l1 l3 l4 l5 l6 l7 hk_l1 hP hS hf hl
  unfold X1_flows_B141 at hf
  obtain ⟨l7_1, el7_1, hf⟩ := lt_inv hf
  refine lv_iinc (v := i32 l7_1) (lv' := [(7, .int (i32 l7_1)), (0, .ref (gh G + 53)), (1, .ref (gh G + l1)), (3, .int (i32 l3)), (4, .int (i32 l4)), (5, .int (i32 l5)), (6, .int (i32 l6))]) X.1 X.2.1 dX1_flows_141 hl (k := 6) rfl (by rw [← el7_1]; exact i32_add _ _) (by decide) rfl (fun ls hl => ?_)
  refine lv_goto (tgt := 57) X.1 X.2.1 dX1_flows_144 (by decide) ?_
  exact h57 σ H locs ls l1 l3 l4 l5 l6 l7_1 hk_l1 hP hS hf (lv_sub hl [1, 2, 3, 4, 5, 6, 0] rfl)
set_option maxHeartbeats 4000000 in
theorem a_X1_flows_122 {p : Program} {l : Launch} {e : Env} {R : Room} {s : State} {m : MethodId} {args : Array Value} {below : List Frame} {meth : Method} {c : Code} {G : GT} {τ : Mem} {res : Int} {rec33 : Mem → Nat → Int → Int → Int → Int → Option (Int × Mem)} {rec57 : Mem → Nat → Int → Int → Int → Int → Int → Option (Int × Mem)} (X : CX p R s m args meth c cX1_flows 9 RX1 (some FieldType.boolean) 2 83 G) (h33 : S_X1_flows_33 rec33 p l e R s m args below meth c G τ res) (h57 : S_X1_flows_57 rec57 p l e R s m args below meth c G τ res) : S_X1_flows_122 (X1_flows_B122 rec33 rec57) p l e R s m args below meth c G τ res := by
  intro σ H locs ls l1 l3 l4 l5 l6 l7 k0 hk_l1 hP hS hf hl
  unfold X1_flows_B122 at hf
  refine lv_istore (lv' := [(8, .int (i32 k0)), (0, .ref (gh G + 53)), (1, .ref (gh G + l1)), (3, .int (i32 l3)), (4, .int (i32 l4)), (5, .int (i32 l5)), (6, .int (i32 l6)), (7, .int (i32 l7))]) X.1 X.2.1 dX1_flows_122 hl (by decide) rfl (fun ls hl => ?_)
  refine lv_aload_n X.1 X.2.1 dX1_flows_124 rfl (lv_at hl 1 rfl) ?_
  refine g_1_2 (r := 59) X hP ks_1 rfl (tb t_275 rfl) dX1_flows_125 ?_
  refine lv_iload X.1 X.2.1 dX1_flows_128 (lv_at hl 7 rfl) ?_
  refine r_iconst X 1 dX1_flows_130 ?_
  refine r_iadd X dX1_flows_131 ?_
  obtain ⟨v1, ev1, hf⟩ := lt_inv hf
  refine r_eqi ev1 ?_
  refine lv_dup2_11 X.1 X.2.1 dX1_flows_132 rfl rfl ?_
  obtain ⟨j2, hij2, hjj2, hlj2, hf⟩ := ag_inv hf
  refine r_iald X hP (ch_1_2 ks_1).1 (ch_1_2 ks_1).2 hij2 hjj2 dX1_flows_133 ?_
  refine lv_iload X.1 X.2.1 dX1_flows_134 (lv_at hl 0 rfl) ?_
  obtain ⟨r3, hr3, hf⟩ := bd_inv hf
  refine k_X1_followingSet X hP hS hl.1  hr3 (tb t_890 rfl) (by decide) (Nat.le_of_ble_eq_true rfl) dX1_flows_136 (fun H locs hP hS => ?_)
  refine r_ior X dX1_flows_139 ?_
  obtain ⟨j4, hij4, hjj4, hlj4, hf⟩ := ag_inv hf
  refine r_iast X hP hS (ch_1_2 ks_1).1 (ch_1_2 ks_1).2 hij4 hjj4 dX1_flows_140 (fun H locs hP hS => ?_)
  obtain ⟨s5, es5, hf⟩ := lt_inv hf
  rw [es5] at hP
  exact a_X1_flows_141 X h33 h57 s5 H locs ls l1 l3 l4 l5 l6 l7 hk_l1 hP hS hf (lv_sub hl [1, 2, 3, 4, 5, 6, 7] rfl)
set_option maxHeartbeats 4000000 in
theorem a_X1_flows_57 {p : Program} {l : Launch} {e : Env} {R : Room} {s : State} {m : MethodId} {args : Array Value} {below : List Frame} {meth : Method} {c : Code} {G : GT} {τ : Mem} {res : Int} {rec33 : Mem → Nat → Int → Int → Int → Int → Option (Int × Mem)} {rec57 : Mem → Nat → Int → Int → Int → Int → Int → Option (Int × Mem)} (X : CX p R s m args meth c cX1_flows 9 RX1 (some FieldType.boolean) 2 83 G) (h33 : S_X1_flows_33 rec33 p l e R s m args below meth c G τ res) (h57 : S_X1_flows_57 rec57 p l e R s m args below meth c G τ res) : S_X1_flows_57 (X1_flows_B57 rec33 rec57) p l e R s m args below meth c G τ res := by
  intro σ H locs ls l1 l3 l4 l5 l6 l7 hk_l1 hP hS hf hl
  unfold X1_flows_B57 at hf
  refine lv_iload X.1 X.2.1 dX1_flows_57 (lv_at hl 6 rfl) ?_
  refine lv_iload X.1 X.2.1 dX1_flows_59 (lv_at hl 3 rfl) ?_
  refine r_icmp_ge (tgt := 147) X dX1_flows_61 (by decide) (fun q => ?_) (fun q => ?_)
  · replace hf := it_inv q hf
    exact a_X1_flows_147 X h33 σ H locs ls l1 l3 l4 l5 l6 hk_l1 hP hS hf (lv_sub hl [0, 1, 2, 3, 4, 5] rfl)
  · replace hf := ie_inv q hf
    refine lv_aload_n X.1 X.2.1 dX1_flows_64 rfl (lv_at hl 1 rfl) ?_
    refine lv_iload X.1 X.2.1 dX1_flows_65 (lv_at hl 5 rfl) ?_
    refine lv_iload X.1 X.2.1 dX1_flows_67 (lv_at hl 6 rfl) ?_
    obtain ⟨r1, hr1, hf⟩ := bd_inv hf
    refine k_X4_hasPage X hP hS hl.1 hk_l1 hr1 (tb t_799 rfl) (by decide) (Nat.le_of_ble_eq_true rfl) dX1_flows_69 (fun H locs hP hS => ?_)
    refine r_if_ne (tgt := 78) X dX1_flows_72 (by decide) (fun q => ?_) (fun q => ?_)
    · replace hf := it_inv q hf
      refine lv_iload X.1 X.2.1 dX1_flows_78 (lv_at hl 6 rfl) ?_
      refine lv_iload X.1 X.2.1 dX1_flows_80 (lv_at hl 3 rfl) ?_
      refine r_iconst X 1 dX1_flows_82 ?_
      refine r_isub X dX1_flows_83 ?_
      refine r_icmp_ne (tgt := 89) X dX1_flows_84 (by decide) (fun q => ?_) (fun q => ?_)
      · replace hf := it_inv q hf
        refine lv_aload_n X.1 X.2.1 dX1_flows_89 rfl (lv_at hl 0 rfl) ?_
        refine g_1_1 (r := 58) X hP ks_1 rfl (tb t_274 rfl) dX1_flows_90 ?_
        refine lv_iload X.1 X.2.1 dX1_flows_93 (lv_at hl 6 rfl) ?_
        obtain ⟨j2, hij2, hjj2, hlj2, hf⟩ := ag_inv hf
        refine r_iald X hP (ch_1_1 ks_1).1 (ch_1_1 ks_1).2 hij2 hjj2 dX1_flows_95 ?_
        refine lv_iload_n X.1 X.2.1 dX1_flows_96 rfl (lv_at hl 2 rfl) ?_
        refine r_icmp_lt (tgt := 110) X dX1_flows_97 (by decide) (fun q => ?_) (fun q => ?_)
        · replace hf := it_inv q hf
          refine lv_aload_n X.1 X.2.1 dX1_flows_110 rfl (lv_at hl 0 rfl) ?_
          refine g_1_2 (r := 59) X hP ks_1 rfl (tb t_275 rfl) dX1_flows_111 ?_
          refine lv_iload X.1 X.2.1 dX1_flows_114 (lv_at hl 5 rfl) ?_
          obtain ⟨j3, hij3, hjj3, hlj3, hf⟩ := ag_inv hf
          refine r_iald X hP (ch_1_2 ks_1).1 (ch_1_2 ks_1).2 hij3 hjj3 dX1_flows_116 ?_
          refine lv_iload X.1 X.2.1 dX1_flows_117 (lv_at hl 4 rfl) ?_
          refine r_iconst X (-1) dX1_flows_119 ?_
          refine r_ixor X dX1_flows_120 ?_
          refine r_iand X dX1_flows_121 ?_
          exact a_X1_flows_122 X h33 h57 σ H locs ls l1 l3 l4 l5 l6 l7 (ian (σ 59 j3) (ixr l5 (-1))) hk_l1 hP hS hf hl
        · replace hf := ie_inv q hf
          refine lv_aload_n X.1 X.2.1 dX1_flows_100 rfl (lv_at hl 0 rfl) ?_
          refine g_1_2 (r := 59) X hP ks_1 rfl (tb t_275 rfl) dX1_flows_101 ?_
          refine lv_iload X.1 X.2.1 dX1_flows_104 (lv_at hl 5 rfl) ?_
          obtain ⟨j4, hij4, hjj4, hlj4, hf⟩ := ag_inv hf
          refine r_iald X hP (ch_1_2 ks_1).1 (ch_1_2 ks_1).2 hij4 hjj4 dX1_flows_106 ?_
          refine lv_goto (tgt := 122) X.1 X.2.1 dX1_flows_107 (by decide) ?_
          exact a_X1_flows_122 X h33 h57 σ H locs ls l1 l3 l4 l5 l6 l7 (σ 59 j4) hk_l1 hP hS hf hl
      · replace hf := ie_inv q hf
        refine r_iconst X 1 dX1_flows_87 ?_
        obtain ⟨rfl, rfl⟩ := so2_inv hf
        exact r_zret X hP hS (Or.inr rfl) dX1_flows_88
    · replace hf := ie_inv q hf
      refine lv_goto (tgt := 141) X.1 X.2.1 dX1_flows_75 (by decide) ?_
      exact a_X1_flows_141 X h33 h57 σ H locs ls l1 l3 l4 l5 l6 l7 hk_l1 hP hS hf hl
theorem al_X1_flows_57 {p : Program} {l : Launch} {e : Env} {R : Room} {s : State} {m : MethodId} {args : Array Value} {below : List Frame} {meth : Method} {c : Code} {G : GT} {τ : Mem} {res : Int} {rec33 : Mem → Nat → Int → Int → Int → Int → Option (Int × Mem)} (X : CX p R s m args meth c cX1_flows 9 RX1 (some FieldType.boolean) 2 83 G) (h33 : S_X1_flows_33 rec33 p l e R s m args below meth c G τ res) : ∀ n, S_X1_flows_57 (X1_flows_L57 rec33 n) p l e R s m args below meth c G τ res := by
  intro n
  induction n with
  | zero =>
    intro σ H locs ls l1 l3 l4 l5 l6 l7 hk_l1 hP hS hf hl
    cases hf
  | succ n ih => exact a_X1_flows_57 X h33 ih
set_option maxHeartbeats 4000000 in
theorem a_X1_flows_33 {p : Program} {l : Launch} {e : Env} {R : Room} {s : State} {m : MethodId} {args : Array Value} {below : List Frame} {meth : Method} {c : Code} {G : GT} {τ : Mem} {res : Int} {rec33 : Mem → Nat → Int → Int → Int → Int → Option (Int × Mem)} (X : CX p R s m args meth c cX1_flows 9 RX1 (some FieldType.boolean) 2 83 G) (h33 : S_X1_flows_33 rec33 p l e R s m args below meth c G τ res) : S_X1_flows_33 (X1_flows_B33 rec33) p l e R s m args below meth c G τ res := by
  intro σ H locs ls l1 l3 l4 l5 l6 hk_l1 hP hS hf hl
  unfold X1_flows_B33 at hf
  refine lv_iload X.1 X.2.1 dX1_flows_33 (lv_at hl 5 rfl) ?_
  refine lv_iload X.1 X.2.1 dX1_flows_35 (lv_at hl 3 rfl) ?_
  refine r_icmp_ge (tgt := 153) X dX1_flows_37 (by decide) (fun q => ?_) (fun q => ?_)
  · replace hf := it_inv q hf
    refine r_iconst X 0 dX1_flows_153 ?_
    obtain ⟨rfl, rfl⟩ := so2_inv hf
    exact r_zret X hP hS (Or.inl rfl) dX1_flows_154
  · replace hf := ie_inv q hf
    refine lv_aload_n X.1 X.2.1 dX1_flows_40 rfl (lv_at hl 0 rfl) ?_
    refine g_1_2 (r := 59) X hP ks_1 rfl (tb t_275 rfl) dX1_flows_41 ?_
    refine lv_iload X.1 X.2.1 dX1_flows_44 (lv_at hl 5 rfl) ?_
    obtain ⟨j1, hij1, hjj1, hlj1, hf⟩ := ag_inv hf
    refine r_iald X hP (ch_1_2 ks_1).1 (ch_1_2 ks_1).2 hij1 hjj1 dX1_flows_46 ?_
    refine r_if_ne (tgt := 53) X dX1_flows_47 (by decide) (fun q => ?_) (fun q => ?_)
    · replace hf := it_inv q hf
      refine lv_iload X.1 X.2.1 dX1_flows_53 (lv_at hl 5 rfl) ?_
      refine lv_istore (lv' := [(7, .int (i32 l6)), (0, .ref (gh G + 53)), (1, .ref (gh G + l1)), (3, .int (i32 l3)), (4, .int (i32 l4)), (5, .int (i32 l5)), (6, .int (i32 l6))]) X.1 X.2.1 dX1_flows_55 hl (by decide) rfl (fun ls hl => ?_)
      exact al_X1_flows_57 X h33 5000 σ H locs ls l1 l3 l4 l5 l6 l6 hk_l1 hP hS hf (lv_sub hl [1, 2, 3, 4, 5, 6, 0] rfl)
    · replace hf := ie_inv q hf
      refine lv_goto (tgt := 147) X.1 X.2.1 dX1_flows_50 (by decide) ?_
      exact a_X1_flows_147 X h33 σ H locs ls l1 l3 l4 l5 l6 hk_l1 hP hS hf hl
theorem al_X1_flows_33 {p : Program} {l : Launch} {e : Env} {R : Room} {s : State} {m : MethodId} {args : Array Value} {below : List Frame} {meth : Method} {c : Code} {G : GT} {τ : Mem} {res : Int} (X : CX p R s m args meth c cX1_flows 9 RX1 (some FieldType.boolean) 2 83 G) : ∀ n, S_X1_flows_33 (X1_flows_L33 n) p l e R s m args below meth c G τ res := by
  intro n
  induction n with
  | zero =>
    intro σ H locs ls l1 l3 l4 l5 l6 hk_l1 hP hS hf hl
    cases hf
  | succ n ih => exact a_X1_flows_33 X ih
set_option maxHeartbeats 4000000 in
theorem a_X1_flows_0 {p : Program} {l : Launch} {e : Env} {R : Room} {s : State} {m : MethodId} {args : Array Value} {below : List Frame} {meth : Method} {c : Code} {G : GT} {τ : Mem} {res : Int} (X : CX p R s m args meth c cX1_flows 9 RX1 (some FieldType.boolean) 2 83 G) : S_X1_flows_0 (X1_flows) p l e R s m args below meth c G τ res := by
  intro σ H locs ls l1 l2 l3 hk_l1 hP hS hf hl
  unfold X1_flows at hf
  refine lv_aload_n X.1 X.2.1 dX1_flows_0 rfl (lv_at hl 1 rfl) ?_
  refine g_4_1 X hP hk_l1 (tb t_324 rfl) dX1_flows_1 ?_
  obtain ⟨l4_1, el4_1, hf⟩ := lt_inv hf
  refine r_eqi el4_1 ?_
  refine lv_istore (lv' := [(4, .int (i32 l4_1)), (0, .ref (gh G + 53)), (1, .ref (gh G + l1)), (2, .int (i32 l2)), (3, .int (i32 l3))]) X.1 X.2.1 dX1_flows_4 hl (by decide) rfl (fun ls hl => ?_)
  refine r_sipush X 1365 (by decide) dX1_flows_6 ?_
  refine lv_iload_n X.1 X.2.1 dX1_flows_9 rfl (lv_at hl 3 rfl) ?_
  refine r_iconst X (-1) dX1_flows_10 ?_
  refine r_ixor X dX1_flows_11 ?_
  refine r_iand X dX1_flows_12 ?_
  obtain ⟨l5_2, el5_2, hf⟩ := lt_inv hf
  refine r_eqi el5_2 ?_
  refine lv_istore (lv' := [(5, .int (i32 l5_2)), (4, .int (i32 l4_1)), (0, .ref (gh G + 53)), (1, .ref (gh G + l1)), (2, .int (i32 l2)), (3, .int (i32 l3))]) X.1 X.2.1 dX1_flows_13 hl (by decide) rfl (fun ls hl => ?_)
  refine lv_aload_n X.1 X.2.1 dX1_flows_15 rfl (lv_at hl 2 rfl) ?_
  refine g_1_2 (r := 59) X hP ks_1 rfl (tb t_275 rfl) dX1_flows_16 ?_
  refine r_iconst X 0 dX1_flows_19 ?_
  obtain ⟨s4, hr3, hf⟩ := bd_inv hf
  refine k_J7_fill_53178 X hP hS hl.1 (ch_1_2 ks_1).1 hr3 (tb t_889 rfl) (by decide) (Nat.le_of_ble_eq_true rfl) dX1_flows_20 (fun H locs hP hS => ?_)
  refine lv_aload_n X.1 X.2.1 dX1_flows_23 rfl (lv_at hl 2 rfl) ?_
  refine g_1_2 (r := 59) X hP ks_1 rfl (tb t_275 rfl) dX1_flows_24 ?_
  refine r_iconst X 0 dX1_flows_27 ?_
  refine r_iconst X 1 dX1_flows_28 ?_
  obtain ⟨j5, hij5, hjj5, hlj5, hf⟩ := ag_inv hf
  refine r_iast X hP hS (ch_1_2 ks_1).1 (ch_1_2 ks_1).2 hij5 hjj5 dX1_flows_29 (fun H locs hP hS => ?_)
  obtain ⟨s6, es6, hf⟩ := lt_inv hf
  rw [es6] at hP
  refine r_iconst X 0 dX1_flows_30 ?_
  refine lv_istore (lv' := [(6, .int (i32 0)), (5, .int (i32 l5_2)), (4, .int (i32 l4_1)), (0, .ref (gh G + 53)), (1, .ref (gh G + l1)), (2, .int (i32 l2)), (3, .int (i32 l3))]) X.1 X.2.1 dX1_flows_31 hl (by decide) rfl (fun ls hl => ?_)
  exact al_X1_flows_33 X 5000 s6 H locs ls l1 l3 l4_1 l5_2 0 hk_l1 hP hS hf (lv_sub hl [3, 4, 6, 2, 1, 0] rfl)
set_option maxHeartbeats 4000000 in
theorem c_X1_flows {l : Launch} {G : GT} {σ τ : Mem} {res : Int} {l1 : Nat} {l2 : Int} {l3 : Int} (hk_l1 : kd l1 = 4) (hf : X1_flows σ l1 l2 l3 = some (res, τ)) : CT l yX1_flows cX1_flows 9 (some FieldType.boolean) 2 83 G [.ref (gh G + 53), .ref (gh G + l1), .int (i32 l2), .int (i32 l3)] σ τ (some (.int (i32 res))) := by
  refine CT.mk (own := RX1) (by decide) rfl (Nat.le_of_ble_eq_true rfl) ?_
  intro p e s m below meth c ls X hP hS hl
  have hl : lv_has ls 9 [(0, .ref (gh G + 53)), (1, .ref (gh G + l1)), (2, .int (i32 l2)), (3, .int (i32 l3))] := hl
  exact a_X1_flows_0 X σ s.heap [] ls l1 l2 l3 hk_l1 hP hS hf hl
theorem k_X1_flows {p : Program} {l : Launch} {e : Env} {R : Room} {s : State} {m : MethodId} {args : Array Value} {below : List Frame} {meth : Method} {c : Code} {H : Heap} {locs : List Loc} {Q : State → Prop} {cc : ByteArray} {nL : Nat} {own : String} {ret : Option FieldType} {fF fL : Nat} {G : GT} {pc idx : Nat} {ls : Array Slot} {rest : List Value} {σ τ : Mem} {res : Int} {l1 : Nat} {l2 : Int} {l3 : Int} (X : CX p R s m args meth c cc nL own ret fF fL G) (hP : PW G σ H) (hS : va_S (AA G) s.heap H locs) (hls : ls.size = nL) (hk_l1 : kd l1 = 4) (hf : X1_flows σ l1 l2 l3 = some (res, τ)) (h1 : Cond.methodLink own idx yX1_flows ∈ TB) (hR : 2 + 1 ≤ fF ∧ 8 + (9 + 11) + 83 ≤ fL) (hW : (rest.map fun v => v.category).sum ≤ 8) (hd : decode cc pc = .ok (.invokevirtual idx, 3)) (kk : ∀ (H1 : Heap) (locs1 : List Loc), PW G τ H1 → va_S (AA G) s.heap H1 locs1 → W p l e R s m args below meth c H1 locs1 0 0 Q (F0 m (pc + 3) ls (.int (i32 res) :: rest))) : W p l e R s m args below meth c H locs 0 0 Q (F0 m pc ls (.int (i32 l3) :: .int (i32 l2) :: .ref (gh G + l1) :: .ref (gh G + 53) :: rest)) := r_callV (n := 3) X hP hS hls (c_X1_flows hk_l1 hf) h1 (tb t_886 rfl) (tb t_887 rfl) (tb t_82 rfl) (tb t_888 rfl) (by decide +kernel) hR (r_recv X hP (kd_lt ks_1 (by decide)) (cE_1 ks_1) rfl) rfl rfl hW hd kk
/-! X10_folds -/
theorem dX10_folds_0 : decode cX10_folds 0 = .ok (.iload_n 1, 1) := by decide +kernel
theorem dX10_folds_1 : decode cX10_folds 1 = .ok (.invokestatic 58, 3) := by decide +kernel
theorem dX10_folds_4 : decode cX10_folds 4 = .ok (.ifCond .ne 10, 3) := by decide +kernel
theorem dX10_folds_7 : decode cX10_folds 7 = .ok (.aload_n 0, 1) := by decide +kernel
theorem dX10_folds_8 : decode cX10_folds 8 = .ok (.ldc 72, 2) := by decide +kernel
theorem dX10_folds_10 : decode cX10_folds 10 = .ok (.invokevirtual 73, 3) := by decide +kernel
theorem dX10_folds_13 : decode cX10_folds 13 = .ok (.ireturn, 1) := by decide +kernel
theorem dX10_folds_14 : decode cX10_folds 14 = .ok (.aload_n 0, 1) := by decide +kernel
theorem dX10_folds_15 : decode cX10_folds 15 = .ok (.iload_n 1, 1) := by decide +kernel
theorem dX10_folds_16 : decode cX10_folds 16 = .ok (.invokevirtual 237, 3) := by decide +kernel
theorem dX10_folds_19 : decode cX10_folds 19 = .ok (.astore_n 2, 1) := by decide +kernel
theorem dX10_folds_20 : decode cX10_folds 20 = .ok (.aload_n 0, 1) := by decide +kernel
theorem dX10_folds_21 : decode cX10_folds 21 = .ok (.getfield 47, 3) := by decide +kernel
theorem dX10_folds_24 : decode cX10_folds 24 = .ok (.aload_n 0, 1) := by decide +kernel
theorem dX10_folds_25 : decode cX10_folds 25 = .ok (.getfield 10, 3) := by decide +kernel
theorem dX10_folds_28 : decode cX10_folds 28 = .ok (.iload_n 1, 1) := by decide +kernel
theorem dX10_folds_29 : decode cX10_folds 29 = .ok (.aload_n 0, 1) := by decide +kernel
theorem dX10_folds_30 : decode cX10_folds 30 = .ok (.getfield 10, 3) := by decide +kernel
theorem dX10_folds_33 : decode cX10_folds 33 = .ok (.getfield 77, 3) := by decide +kernel
theorem dX10_folds_36 : decode cX10_folds 36 = .ok (.iload_n 1, 1) := by decide +kernel
theorem dX10_folds_37 : decode cX10_folds 37 = .ok (.aaload, 1) := by decide +kernel
theorem dX10_folds_38 : decode cX10_folds 38 = .ok (.getfield 81, 3) := by decide +kernel
theorem dX10_folds_41 : decode cX10_folds 41 = .ok (.iconst 1, 1) := by decide +kernel
theorem dX10_folds_42 : decode cX10_folds 42 = .ok (.iaload, 1) := by decide +kernel
theorem dX10_folds_43 : decode cX10_folds 43 = .ok (.invokevirtual 241, 3) := by decide +kernel
theorem dX10_folds_46 : decode cX10_folds 46 = .ok (.iconst (-1), 1) := by decide +kernel
theorem dX10_folds_47 : decode cX10_folds 47 = .ok (.istore_n 3, 1) := by decide +kernel
theorem dX10_folds_48 : decode cX10_folds 48 = .ok (.iconst 0, 1) := by decide +kernel
theorem dX10_folds_49 : decode cX10_folds 49 = .ok (.istore 4, 2) := by decide +kernel
theorem dX10_folds_51 : decode cX10_folds 51 = .ok (.iload 4, 2) := by decide +kernel
theorem dX10_folds_53 : decode cX10_folds 53 = .ok (.bipush 32, 2) := by decide +kernel
theorem dX10_folds_55 : decode cX10_folds 55 = .ok (.if_icmp .ge 69, 3) := by decide +kernel
theorem dX10_folds_58 : decode cX10_folds 58 = .ok (.iload 4, 2) := by decide +kernel
theorem dX10_folds_60 : decode cX10_folds 60 = .ok (.invokestatic 249, 3) := by decide +kernel
theorem dX10_folds_63 : decode cX10_folds 63 = .ok (.istore 5, 2) := by decide +kernel
theorem dX10_folds_65 : decode cX10_folds 65 = .ok (.iload_n 3, 1) := by decide +kernel
theorem dX10_folds_66 : decode cX10_folds 66 = .ok (.ifCond .lt 15, 3) := by decide +kernel
theorem dX10_folds_69 : decode cX10_folds 69 = .ok (.iload 5, 2) := by decide +kernel
theorem dX10_folds_71 : decode cX10_folds 71 = .ok (.invokestatic 252, 3) := by decide +kernel
theorem dX10_folds_74 : decode cX10_folds 74 = .ok (.iload_n 3, 1) := by decide +kernel
theorem dX10_folds_75 : decode cX10_folds 75 = .ok (.invokestatic 252, 3) := by decide +kernel
theorem dX10_folds_78 : decode cX10_folds 78 = .ok (.if_icmp .ge 7, 3) := by decide +kernel
theorem dX10_folds_81 : decode cX10_folds 81 = .ok (.iconst 1, 1) := by decide +kernel
theorem dX10_folds_82 : decode cX10_folds 82 = .ok (.goto 4, 3) := by decide +kernel
theorem dX10_folds_85 : decode cX10_folds 85 = .ok (.iconst 0, 1) := by decide +kernel
theorem dX10_folds_86 : decode cX10_folds 86 = .ok (.istore 6, 2) := by decide +kernel
theorem dX10_folds_88 : decode cX10_folds 88 = .ok (.iload 6, 2) := by decide +kernel
theorem dX10_folds_90 : decode cX10_folds 90 = .ok (.ifCond .eq 28, 3) := by decide +kernel
theorem dX10_folds_93 : decode cX10_folds 93 = .ok (.aload_n 0, 1) := by decide +kernel
theorem dX10_folds_94 : decode cX10_folds 94 = .ok (.getfield 47, 3) := by decide +kernel
theorem dX10_folds_97 : decode cX10_folds 97 = .ok (.aload_n 2, 1) := by decide +kernel
theorem dX10_folds_98 : decode cX10_folds 98 = .ok (.iload 5, 2) := by decide +kernel
theorem dX10_folds_100 : decode cX10_folds 100 = .ok (.aload_n 0, 1) := by decide +kernel
theorem dX10_folds_101 : decode cX10_folds 101 = .ok (.getfield 10, 3) := by decide +kernel
theorem dX10_folds_104 : decode cX10_folds 104 = .ok (.getfield 95, 3) := by decide +kernel
theorem dX10_folds_107 : decode cX10_folds 107 = .ok (.iconst 2, 1) := by decide +kernel
theorem dX10_folds_108 : decode cX10_folds 108 = .ok (.iaload, 1) := by decide +kernel
theorem dX10_folds_109 : decode cX10_folds 109 = .ok (.invokevirtual 245, 3) := by decide +kernel
theorem dX10_folds_112 : decode cX10_folds 112 = .ok (.ifCond .eq 6, 3) := by decide +kernel
theorem dX10_folds_115 : decode cX10_folds 115 = .ok (.iload 5, 2) := by decide +kernel
theorem dX10_folds_117 : decode cX10_folds 117 = .ok (.istore_n 3, 1) := by decide +kernel
theorem dX10_folds_118 : decode cX10_folds 118 = .ok (.iinc 4 1, 3) := by decide +kernel
theorem dX10_folds_121 : decode cX10_folds 121 = .ok (.goto (-70), 3) := by decide +kernel
theorem dX10_folds_124 : decode cX10_folds 124 = .ok (.iload_n 3, 1) := by decide +kernel
theorem dX10_folds_125 : decode cX10_folds 125 = .ok (.ifCond .ge 12, 3) := by decide +kernel
theorem dX10_folds_128 : decode cX10_folds 128 = .ok (.aload_n 0, 1) := by decide +kernel
theorem dX10_folds_129 : decode cX10_folds 129 = .ok (.ldc 205, 2) := by decide +kernel
theorem dX10_folds_131 : decode cX10_folds 131 = .ok (.invokevirtual 73, 3) := by decide +kernel
theorem dX10_folds_134 : decode cX10_folds 134 = .ok (.goto 4, 3) := by decide +kernel
theorem dX10_folds_137 : decode cX10_folds 137 = .ok (.iload_n 3, 1) := by decide +kernel
theorem dX10_folds_138 : decode cX10_folds 138 = .ok (.ireturn, 1) := by decide +kernel
def S_X10_folds_51 (fn : Mem → Nat → Int → Int → Option (Int × Mem)) (p : Program) (l : Launch) (e : Env) (R : Room) (s : State) (m : MethodId) (args : Array Value) (below : List Frame) (meth : Method) (c : Code) (G : GT) (τ : Mem) (res : Int) : Prop := ∀ (σ : Mem) (H : Heap) (locs : List Loc) (ls : Array Slot) (l2 : Nat) (l3 : Int) (l4 : Int), kd l2 = 4 → PW G σ H → va_S (AA G) s.heap H locs → fn σ l2 l3 l4 = some (res, τ) → lv_has ls 7 [(0, .ref (gh G + 0)), (2, .ref (gh G + l2)), (3, .int (i32 l3)), (4, .int (i32 l4))] → W p l e R s m args below meth c H locs 0 0 (MQ below (QM G (some (.int (i32 res))) τ) args s 0 0 (AA G)) (F0 m 51 ls [])
def X10_folds_B118 (rec51 : Mem → Nat → Int → Int → Option (Int × Mem)) (σ : Mem) (l2 : Nat) (l3 : Int) (l4 : Int) : Option (Int × Mem) :=
  lt (l4 + 1) fun l4_1 =>
  rec51 σ l2 l3 l4_1
def S_X10_folds_118 (fn : Mem → Nat → Int → Int → Option (Int × Mem)) (p : Program) (l : Launch) (e : Env) (R : Room) (s : State) (m : MethodId) (args : Array Value) (below : List Frame) (meth : Method) (c : Code) (G : GT) (τ : Mem) (res : Int) : Prop := ∀ (σ : Mem) (H : Heap) (locs : List Loc) (ls : Array Slot) (l2 : Nat) (l3 : Int) (l4 : Int), kd l2 = 4 → PW G σ H → va_S (AA G) s.heap H locs → fn σ l2 l3 l4 = some (res, τ) → lv_has ls 7 [(0, .ref (gh G + 0)), (2, .ref (gh G + l2)), (3, .int (i32 l3)), (4, .int (i32 l4))] → W p l e R s m args below meth c H locs 0 0 (MQ below (QM G (some (.int (i32 res))) τ) args s 0 0 (AA G)) (F0 m 118 ls [])
def X10_folds_B86 (rec51 : Mem → Nat → Int → Int → Option (Int × Mem)) (σ : Mem) (l2 : Nat) (l3 : Int) (l4 : Int) (l5 : Int) (k0 : Int) : Option (Int × Mem) :=
  if w32 k0 = 0 then
    X10_folds_B118 rec51 σ l2 l3 l4
  else
  ag 5 2 fun j1 =>
  bd2 (X1_flows σ l2 l5 (σ 3 j1)) fun r2 s3 =>
  if w32 r2 = 0 then
    X10_folds_B118 rec51 s3 l2 l3 l4
  else
  X10_folds_B118 rec51 s3 l2 l5 l4
def S_X10_folds_86 (fn : Mem → Nat → Int → Int → Int → Int → Option (Int × Mem)) (p : Program) (l : Launch) (e : Env) (R : Room) (s : State) (m : MethodId) (args : Array Value) (below : List Frame) (meth : Method) (c : Code) (G : GT) (τ : Mem) (res : Int) : Prop := ∀ (σ : Mem) (H : Heap) (locs : List Loc) (ls : Array Slot) (l2 : Nat) (l3 : Int) (l4 : Int) (l5 : Int) (k0 : Int), kd l2 = 4 → PW G σ H → va_S (AA G) s.heap H locs → fn σ l2 l3 l4 l5 k0 = some (res, τ) → lv_has ls 7 [(0, .ref (gh G + 0)), (2, .ref (gh G + l2)), (3, .int (i32 l3)), (4, .int (i32 l4)), (5, .int (i32 l5))] → W p l e R s m args below meth c H locs 0 0 (MQ below (QM G (some (.int (i32 res))) τ) args s 0 0 (AA G)) (F0 m 86 ls [.int (i32 k0)])
def X10_folds_B81 (rec51 : Mem → Nat → Int → Int → Option (Int × Mem)) (σ : Mem) (l2 : Nat) (l3 : Int) (l4 : Int) (l5 : Int) : Option (Int × Mem) :=
  X10_folds_B86 rec51 σ l2 l3 l4 l5 1
def S_X10_folds_81 (fn : Mem → Nat → Int → Int → Int → Option (Int × Mem)) (p : Program) (l : Launch) (e : Env) (R : Room) (s : State) (m : MethodId) (args : Array Value) (below : List Frame) (meth : Method) (c : Code) (G : GT) (τ : Mem) (res : Int) : Prop := ∀ (σ : Mem) (H : Heap) (locs : List Loc) (ls : Array Slot) (l2 : Nat) (l3 : Int) (l4 : Int) (l5 : Int), kd l2 = 4 → PW G σ H → va_S (AA G) s.heap H locs → fn σ l2 l3 l4 l5 = some (res, τ) → lv_has ls 7 [(0, .ref (gh G + 0)), (2, .ref (gh G + l2)), (3, .int (i32 l3)), (4, .int (i32 l4)), (5, .int (i32 l5))] → W p l e R s m args below meth c H locs 0 0 (MQ below (QM G (some (.int (i32 res))) τ) args s 0 0 (AA G)) (F0 m 81 ls [])
def X10_folds_B51 (rec51 : Mem → Nat → Int → Int → Option (Int × Mem)) (σ : Mem) (l2 : Nat) (l3 : Int) (l4 : Int) : Option (Int × Mem) :=
  if w32 32 ≤ w32 l4 then
    if 0 ≤ w32 l3 then
      some (l3, σ)
    else
    bd2 (X10_tell σ (-1000004)) fun r1 s2 =>
    some (r1, s2)
  else
  bd (X10_evenPages σ l4) fun r3 =>
  if w32 l3 < 0 then
    X10_folds_B81 rec51 σ l2 l3 l4 r3
  else
  bd (J6_bitCount_0f7a4 σ r3) fun r4 =>
  bd (J6_bitCount_0f7a4 σ l3) fun r5 =>
  if w32 r5 ≤ w32 r4 then
    X10_folds_B86 rec51 σ l2 l3 l4 r3 0
  else
  X10_folds_B81 rec51 σ l2 l3 l4 r3
def X10_folds_L51 : Nat → Mem → Nat → Int → Int → Option (Int × Mem)
  | 0 => fun _ _ _ _ => none
  | n + 1 => X10_folds_B51 (X10_folds_L51 n)
def X10_folds (σ : Mem) (l1 : Int) : Option (Int × Mem) :=
  bd (X10_isPart σ l1) fun r1 =>
  if w32 r1 ≠ 0 then
    bd2 (X10_tableOf σ l1) fun r2 s3 =>
    kg 4 r2 <|
    ag 4 l1 fun j4 =>
    ag 4 1 fun j5 =>
    bd (X1_findEase s3 1 l1 (s3 (9 + 3 * j4 + 1) j5)) fun s7 =>
    X10_folds_L51 5000 s7 r2 (-1) 0
  else
  bd2 (X10_tell σ (-1000001)) fun r8 s9 =>
  some (r8, s9)
def S_X10_folds_0 (fn : Mem → Int → Option (Int × Mem)) (p : Program) (l : Launch) (e : Env) (R : Room) (s : State) (m : MethodId) (args : Array Value) (below : List Frame) (meth : Method) (c : Code) (G : GT) (τ : Mem) (res : Int) : Prop := ∀ (σ : Mem) (H : Heap) (locs : List Loc) (ls : Array Slot) (l1 : Int), PW G σ H → va_S (AA G) s.heap H locs → fn σ l1 = some (res, τ) → lv_has ls 7 [(0, .ref (gh G + 0)), (1, .int (i32 l1))] → W p l e R s m args below meth c H locs 0 0 (MQ below (QM G (some (.int (i32 res))) τ) args s 0 0 (AA G)) (F0 m 0 ls [])
set_option maxHeartbeats 4000000 in
theorem a_X10_folds_118 {p : Program} {l : Launch} {e : Env} {R : Room} {s : State} {m : MethodId} {args : Array Value} {below : List Frame} {meth : Method} {c : Code} {G : GT} {τ : Mem} {res : Int} {rec51 : Mem → Nat → Int → Int → Option (Int × Mem)} (X : CX p R s m args meth c cX10_folds 7 RX10 (some FieldType.int) 6 185 G) (h51 : S_X10_folds_51 rec51 p l e R s m args below meth c G τ res) : S_X10_folds_118 (X10_folds_B118 rec51) p l e R s m args below meth c G τ res := by
  intro σ H locs ls l2 l3 l4 hk_l2 hP hS hf hl
  unfold X10_folds_B118 at hf
  obtain ⟨l4_1, el4_1, hf⟩ := lt_inv hf
  refine lv_iinc (v := i32 l4_1) (lv' := [(4, .int (i32 l4_1)), (0, .ref (gh G + 0)), (2, .ref (gh G + l2)), (3, .int (i32 l3))]) X.1 X.2.1 dX10_folds_118 hl (k := 3) rfl (by rw [← el4_1]; exact i32_add _ _) (by decide) rfl (fun ls hl => ?_)
  refine lv_goto (tgt := 51) X.1 X.2.1 dX10_folds_121 (by decide) ?_
  exact h51 σ H locs ls l2 l3 l4_1 hk_l2 hP hS hf (lv_sub hl [1, 2, 3, 0] rfl)
set_option maxHeartbeats 4000000 in
theorem a_X10_folds_86 {p : Program} {l : Launch} {e : Env} {R : Room} {s : State} {m : MethodId} {args : Array Value} {below : List Frame} {meth : Method} {c : Code} {G : GT} {τ : Mem} {res : Int} {rec51 : Mem → Nat → Int → Int → Option (Int × Mem)} (X : CX p R s m args meth c cX10_folds 7 RX10 (some FieldType.int) 6 185 G) (h51 : S_X10_folds_51 rec51 p l e R s m args below meth c G τ res) : S_X10_folds_86 (X10_folds_B86 rec51) p l e R s m args below meth c G τ res := by
  intro σ H locs ls l2 l3 l4 l5 k0 hk_l2 hP hS hf hl
  unfold X10_folds_B86 at hf
  refine lv_istore (lv' := [(6, .int (i32 k0)), (0, .ref (gh G + 0)), (2, .ref (gh G + l2)), (3, .int (i32 l3)), (4, .int (i32 l4)), (5, .int (i32 l5))]) X.1 X.2.1 dX10_folds_86 hl (by decide) rfl (fun ls hl => ?_)
  refine lv_iload X.1 X.2.1 dX10_folds_88 (lv_at hl 0 rfl) ?_
  refine r_if_eq (tgt := 118) X dX10_folds_90 (by decide) (fun q => ?_) (fun q => ?_)
  · replace hf := it_inv q hf
    exact a_X10_folds_118 X h51 σ H locs ls l2 l3 l4 hk_l2 hP hS hf (lv_sub hl [1, 2, 3, 4] rfl)
  · replace hf := ie_inv q hf
    refine lv_aload_n X.1 X.2.1 dX10_folds_93 rfl (lv_at hl 1 rfl) ?_
    refine g_10_7 (r := 53) X hP ks_10 rfl (tb t_395 rfl) dX10_folds_94 ?_
    refine lv_aload_n X.1 X.2.1 dX10_folds_97 rfl (lv_at hl 2 rfl) ?_
    refine lv_iload X.1 X.2.1 dX10_folds_98 (lv_at hl 5 rfl) ?_
    refine lv_aload_n X.1 X.2.1 dX10_folds_100 rfl (lv_at hl 1 rfl) ?_
    refine g_10_0 (r := 1) X hP ks_10 rfl (tb t_388 rfl) dX10_folds_101 ?_
    refine g_7_1 (r := 3) X hP (ch_10_0 ks_10).1 rfl (tb t_172 rfl) dX10_folds_104 ?_
    refine r_iconst X 2 dX10_folds_107 ?_
    obtain ⟨j1, hij1, hjj1, hlj1, hf⟩ := ag_inv hf
    refine r_iald X hP (ch_7_1 (ch_10_0 ks_10).1).1 (ch_7_1 (ch_10_0 ks_10).1).2 hij1 hjj1 dX10_folds_108 ?_
    obtain ⟨r2, s3, hr2, hf⟩ := bd2_inv hf
    refine k_X1_flows X hP hS hl.1 hk_l2 hr2 (tb t_885 rfl) (by decide) (Nat.le_of_ble_eq_true rfl) dX10_folds_109 (fun H locs hP hS => ?_)
    refine r_if_eq (tgt := 118) X dX10_folds_112 (by decide) (fun q => ?_) (fun q => ?_)
    · replace hf := it_inv q hf
      exact a_X10_folds_118 X h51 s3 H locs ls l2 l3 l4 hk_l2 hP hS hf (lv_sub hl [1, 2, 3, 4] rfl)
    · replace hf := ie_inv q hf
      refine lv_iload X.1 X.2.1 dX10_folds_115 (lv_at hl 5 rfl) ?_
      refine lv_istore_n (lv' := [(3, .int (i32 l5)), (6, .int (i32 k0)), (0, .ref (gh G + 0)), (2, .ref (gh G + l2)), (4, .int (i32 l4)), (5, .int (i32 l5))]) X.1 X.2.1 dX10_folds_117 rfl hl (by decide) rfl (fun ls hl => ?_)
      exact a_X10_folds_118 X h51 s3 H locs ls l2 l5 l4 hk_l2 hP hS hf (lv_sub hl [2, 3, 0, 4] rfl)
set_option maxHeartbeats 4000000 in
theorem a_X10_folds_81 {p : Program} {l : Launch} {e : Env} {R : Room} {s : State} {m : MethodId} {args : Array Value} {below : List Frame} {meth : Method} {c : Code} {G : GT} {τ : Mem} {res : Int} {rec51 : Mem → Nat → Int → Int → Option (Int × Mem)} (X : CX p R s m args meth c cX10_folds 7 RX10 (some FieldType.int) 6 185 G) (h51 : S_X10_folds_51 rec51 p l e R s m args below meth c G τ res) : S_X10_folds_81 (X10_folds_B81 rec51) p l e R s m args below meth c G τ res := by
  intro σ H locs ls l2 l3 l4 l5 hk_l2 hP hS hf hl
  unfold X10_folds_B81 at hf
  refine r_iconst X 1 dX10_folds_81 ?_
  refine lv_goto (tgt := 86) X.1 X.2.1 dX10_folds_82 (by decide) ?_
  exact a_X10_folds_86 X h51 σ H locs ls l2 l3 l4 l5 1 hk_l2 hP hS hf hl
set_option maxHeartbeats 4000000 in
theorem a_X10_folds_51 {p : Program} {l : Launch} {e : Env} {R : Room} {s : State} {m : MethodId} {args : Array Value} {below : List Frame} {meth : Method} {c : Code} {G : GT} {τ : Mem} {res : Int} {rec51 : Mem → Nat → Int → Int → Option (Int × Mem)} (X : CX p R s m args meth c cX10_folds 7 RX10 (some FieldType.int) 6 185 G) (h51 : S_X10_folds_51 rec51 p l e R s m args below meth c G τ res) : S_X10_folds_51 (X10_folds_B51 rec51) p l e R s m args below meth c G τ res := by
  intro σ H locs ls l2 l3 l4 hk_l2 hP hS hf hl
  unfold X10_folds_B51 at hf
  refine lv_iload X.1 X.2.1 dX10_folds_51 (lv_at hl 3 rfl) ?_
  refine r_bipush X 32 (by decide) dX10_folds_53 ?_
  refine r_icmp_ge (tgt := 124) X dX10_folds_55 (by decide) (fun q => ?_) (fun q => ?_)
  · replace hf := it_inv q hf
    refine lv_iload_n X.1 X.2.1 dX10_folds_124 rfl (lv_at hl 2 rfl) ?_
    refine r_if_ge (tgt := 137) X dX10_folds_125 (by decide) (fun q => ?_) (fun q => ?_)
    · replace hf := it_inv q hf
      refine lv_iload_n X.1 X.2.1 dX10_folds_137 rfl (lv_at hl 2 rfl) ?_
      obtain ⟨rfl, rfl⟩ := so2_inv hf
      exact r_iret X hP hS dX10_folds_138
    · replace hf := ie_inv q hf
      refine lv_aload_n X.1 X.2.1 dX10_folds_128 rfl (lv_at hl 0 rfl) ?_
      refine r_ldc X (-1000004) (tb t_747 rfl) (by decide) dX10_folds_129 ?_
      obtain ⟨r1, s2, hr1, hf⟩ := bd2_inv hf
      refine k_X10_tell X hP hS hl.1  hr1 (tb t_431 rfl) (by decide) (Nat.le_of_ble_eq_true rfl) dX10_folds_131 (fun H locs hP hS => ?_)
      refine lv_goto (tgt := 138) X.1 X.2.1 dX10_folds_134 (by decide) ?_
      obtain ⟨rfl, rfl⟩ := so2_inv hf
      exact r_iret X hP hS dX10_folds_138
  · replace hf := ie_inv q hf
    refine lv_iload X.1 X.2.1 dX10_folds_58 (lv_at hl 3 rfl) ?_
    obtain ⟨r3, hr3, hf⟩ := bd_inv hf
    refine k_X10_evenPages X hP hS hl.1  hr3 (tb t_897 rfl) (by decide) (Nat.le_of_ble_eq_true rfl) dX10_folds_60 (fun H locs hP hS => ?_)
    refine lv_istore (lv' := [(5, .int (i32 r3)), (0, .ref (gh G + 0)), (2, .ref (gh G + l2)), (3, .int (i32 l3)), (4, .int (i32 l4))]) X.1 X.2.1 dX10_folds_63 hl (by decide) rfl (fun ls hl => ?_)
    refine lv_iload_n X.1 X.2.1 dX10_folds_65 rfl (lv_at hl 3 rfl) ?_
    refine r_if_lt (tgt := 81) X dX10_folds_66 (by decide) (fun q => ?_) (fun q => ?_)
    · replace hf := it_inv q hf
      exact a_X10_folds_81 X h51 σ H locs ls l2 l3 l4 r3 hk_l2 hP hS hf (lv_sub hl [1, 2, 3, 4, 0] rfl)
    · replace hf := ie_inv q hf
      refine lv_iload X.1 X.2.1 dX10_folds_69 (lv_at hl 0 rfl) ?_
      obtain ⟨r4, hr4, hf⟩ := bd_inv hf
      refine k_J6_bitCount_0f7a4 X hP hS hl.1  hr4 (tb t_900 rfl) (by decide) (Nat.le_of_ble_eq_true rfl) dX10_folds_71 (fun H locs hP hS => ?_)
      refine lv_iload_n X.1 X.2.1 dX10_folds_74 rfl (lv_at hl 3 rfl) ?_
      obtain ⟨r5, hr5, hf⟩ := bd_inv hf
      refine k_J6_bitCount_0f7a4 X hP hS hl.1  hr5 (tb t_900 rfl) (by decide) (Nat.le_of_ble_eq_true rfl) dX10_folds_75 (fun H locs hP hS => ?_)
      refine r_icmp_ge (tgt := 85) X dX10_folds_78 (by decide) (fun q => ?_) (fun q => ?_)
      · replace hf := it_inv q hf
        refine r_iconst X 0 dX10_folds_85 ?_
        exact a_X10_folds_86 X h51 σ H locs ls l2 l3 l4 r3 0 hk_l2 hP hS hf (lv_sub hl [1, 2, 3, 4, 0] rfl)
      · replace hf := ie_inv q hf
        exact a_X10_folds_81 X h51 σ H locs ls l2 l3 l4 r3 hk_l2 hP hS hf (lv_sub hl [1, 2, 3, 4, 0] rfl)
theorem al_X10_folds_51 {p : Program} {l : Launch} {e : Env} {R : Room} {s : State} {m : MethodId} {args : Array Value} {below : List Frame} {meth : Method} {c : Code} {G : GT} {τ : Mem} {res : Int} (X : CX p R s m args meth c cX10_folds 7 RX10 (some FieldType.int) 6 185 G) : ∀ n, S_X10_folds_51 (X10_folds_L51 n) p l e R s m args below meth c G τ res := by
  intro n
  induction n with
  | zero =>
    intro σ H locs ls l2 l3 l4 hk_l2 hP hS hf hl
    cases hf
  | succ n ih => exact a_X10_folds_51 X ih
set_option maxHeartbeats 4000000 in
theorem a_X10_folds_0 {p : Program} {l : Launch} {e : Env} {R : Room} {s : State} {m : MethodId} {args : Array Value} {below : List Frame} {meth : Method} {c : Code} {G : GT} {τ : Mem} {res : Int} (X : CX p R s m args meth c cX10_folds 7 RX10 (some FieldType.int) 6 185 G) : S_X10_folds_0 (X10_folds) p l e R s m args below meth c G τ res := by
  intro σ H locs ls l1 hP hS hf hl
  unfold X10_folds at hf
  refine lv_iload_n X.1 X.2.1 dX10_folds_0 rfl (lv_at hl 1 rfl) ?_
  obtain ⟨r1, hr1, hf⟩ := bd_inv hf
  refine k_X10_isPart X hP hS hl.1  hr1 (tb t_420 rfl) (by decide) (Nat.le_of_ble_eq_true rfl) dX10_folds_1 (fun H locs hP hS => ?_)
  refine r_if_ne (tgt := 14) X dX10_folds_4 (by decide) (fun q => ?_) (fun q => ?_)
  · replace hf := it_inv q hf
    refine lv_aload_n X.1 X.2.1 dX10_folds_14 rfl (lv_at hl 0 rfl) ?_
    refine lv_iload_n X.1 X.2.1 dX10_folds_15 rfl (lv_at hl 1 rfl) ?_
    obtain ⟨r2, s3, hr2, hf⟩ := bd2_inv hf
    refine k_X10_tableOf X hP hS hl.1  hr2 (tb t_756 rfl) (by decide) (Nat.le_of_ble_eq_true rfl) dX10_folds_16 (fun H locs hP hS => ?_)
    obtain ⟨hk_r2, hf⟩ := kg_inv hf
    refine lv_astore_n (lv' := [(2, .ref (gh G + r2)), (0, .ref (gh G + 0)), (1, .int (i32 l1))]) X.1 X.2.1 dX10_folds_19 rfl hl (by decide) rfl (fun ls hl => ?_)
    refine lv_aload_n X.1 X.2.1 dX10_folds_20 rfl (lv_at hl 1 rfl) ?_
    refine g_10_7 (r := 53) X hP ks_10 rfl (tb t_395 rfl) dX10_folds_21 ?_
    refine lv_aload_n X.1 X.2.1 dX10_folds_24 rfl (lv_at hl 1 rfl) ?_
    refine g_10_0 (r := 1) X hP ks_10 rfl (tb t_388 rfl) dX10_folds_25 ?_
    refine lv_iload_n X.1 X.2.1 dX10_folds_28 rfl (lv_at hl 2 rfl) ?_
    refine lv_aload_n X.1 X.2.1 dX10_folds_29 rfl (lv_at hl 1 rfl) ?_
    refine g_10_0 (r := 1) X hP ks_10 rfl (tb t_388 rfl) dX10_folds_30 ?_
    refine g_7_0 (r := 2) X hP (ch_10_0 ks_10).1 rfl (tb t_170 rfl) dX10_folds_33 ?_
    refine lv_iload_n X.1 X.2.1 dX10_folds_36 rfl (lv_at hl 2 rfl) ?_
    obtain ⟨j4, hij4, hjj4, hlj4, hf⟩ := ag_inv hf
    refine r_aald18 (r := 9 + 3 * j4) X hP (ch_7_0 (ch_10_0 ks_10).1).1 (ch_7_0 (ch_10_0 ks_10).1).2 hij4 hjj4 rfl dX10_folds_37 ?_
    refine g_5_0 (r := 9 + 3 * j4 + 1) X hP ((ch_18 (ch_7_0 (ch_10_0 ks_10).1).1).2 j4 hlj4) rfl (tb t_152 rfl) dX10_folds_38 ?_
    refine r_iconst X 1 dX10_folds_41 ?_
    obtain ⟨j5, hij5, hjj5, hlj5, hf⟩ := ag_inv hf
    refine r_iald X hP (ch_5_0 ((ch_18 (ch_7_0 (ch_10_0 ks_10).1).1).2 j4 hlj4)).1 (ch_5_0 ((ch_18 (ch_7_0 (ch_10_0 ks_10).1).1).2 j4 hlj4)).2 hij5 hjj5 dX10_folds_42 ?_
    obtain ⟨s7, hr6, hf⟩ := bd_inv hf
    refine k_X1_findEase X hP hS hl.1 (ch_10_0 ks_10).1 hr6 (tb t_775 rfl) (by decide) (Nat.le_of_ble_eq_true rfl) dX10_folds_43 (fun H locs hP hS => ?_)
    refine r_iconst X (-1) dX10_folds_46 ?_
    refine lv_istore_n (lv' := [(3, .int (i32 (-1))), (2, .ref (gh G + r2)), (0, .ref (gh G + 0)), (1, .int (i32 l1))]) X.1 X.2.1 dX10_folds_47 rfl hl (by decide) rfl (fun ls hl => ?_)
    refine r_iconst X 0 dX10_folds_48 ?_
    refine lv_istore (lv' := [(4, .int (i32 0)), (3, .int (i32 (-1))), (2, .ref (gh G + r2)), (0, .ref (gh G + 0)), (1, .int (i32 l1))]) X.1 X.2.1 dX10_folds_49 hl (by decide) rfl (fun ls hl => ?_)
    exact al_X10_folds_51 X 5000 s7 H locs ls r2 (-1) 0 hk_r2 hP hS hf (lv_sub hl [3, 2, 1, 0] rfl)
  · replace hf := ie_inv q hf
    refine lv_aload_n X.1 X.2.1 dX10_folds_7 rfl (lv_at hl 0 rfl) ?_
    refine r_ldc X (-1000001) (tb t_430 rfl) (by decide) dX10_folds_8 ?_
    obtain ⟨r8, s9, hr8, hf⟩ := bd2_inv hf
    refine k_X10_tell X hP hS hl.1  hr8 (tb t_431 rfl) (by decide) (Nat.le_of_ble_eq_true rfl) dX10_folds_10 (fun H locs hP hS => ?_)
    obtain ⟨rfl, rfl⟩ := so2_inv hf
    exact r_iret X hP hS dX10_folds_13
set_option maxHeartbeats 4000000 in
theorem c_X10_folds {l : Launch} {G : GT} {σ τ : Mem} {res : Int} {l1 : Int} (hf : X10_folds σ l1 = some (res, τ)) : CT l yX10_folds cX10_folds 7 (some FieldType.int) 6 185 G [.ref (gh G + 0), .int (i32 l1)] σ τ (some (.int (i32 res))) := by
  refine CT.mk (own := RX10) (by decide) rfl (Nat.le_of_ble_eq_true rfl) ?_
  intro p e s m below meth c ls X hP hS hl
  have hl : lv_has ls 7 [(0, .ref (gh G + 0)), (1, .int (i32 l1))] := hl
  exact a_X10_folds_0 X σ s.heap [] ls l1 hP hS hf hl
theorem k_X10_folds {p : Program} {l : Launch} {e : Env} {R : Room} {s : State} {m : MethodId} {args : Array Value} {below : List Frame} {meth : Method} {c : Code} {H : Heap} {locs : List Loc} {Q : State → Prop} {cc : ByteArray} {nL : Nat} {own : String} {ret : Option FieldType} {fF fL : Nat} {G : GT} {pc idx : Nat} {ls : Array Slot} {rest : List Value} {σ τ : Mem} {res : Int} {l1 : Int} (X : CX p R s m args meth c cc nL own ret fF fL G) (hP : PW G σ H) (hS : va_S (AA G) s.heap H locs) (hls : ls.size = nL) (hf : X10_folds σ l1 = some (res, τ)) (h1 : Cond.methodLink own idx yX10_folds ∈ TB) (hR : 6 + 1 ≤ fF ∧ 8 + (7 + 11) + 185 ≤ fL) (hW : (rest.map fun v => v.category).sum ≤ 8) (hd : decode cc pc = .ok (.invokevirtual idx, 3)) (kk : ∀ (H1 : Heap) (locs1 : List Loc), PW G τ H1 → va_S (AA G) s.heap H1 locs1 → W p l e R s m args below meth c H1 locs1 0 0 Q (F0 m (pc + 3) ls (.int (i32 res) :: rest))) : W p l e R s m args below meth c H locs 0 0 Q (F0 m pc ls (.int (i32 l1) :: .ref (gh G + 0) :: rest)) := r_callV (n := 1) X hP hS hls (c_X10_folds hf) h1 (tb t_894 rfl) (tb t_895 rfl) (tb t_75 rfl) (tb t_896 rfl) (by decide +kernel) hR (r_recv X hP (kd_lt ks_10 (by decide)) (cE_10 ks_10) rfl) rfl rfl hW hd kk
/-! X10_forgetAll -/
theorem dX10_forgetAll_0 : decode cX10_forgetAll 0 = .ok (.iconst 0, 1) := by decide +kernel
theorem dX10_forgetAll_1 : decode cX10_forgetAll 1 = .ok (.istore_n 1, 1) := by decide +kernel
theorem dX10_forgetAll_2 : decode cX10_forgetAll 2 = .ok (.iload_n 1, 1) := by decide +kernel
theorem dX10_forgetAll_3 : decode cX10_forgetAll 3 = .ok (.iconst 4, 1) := by decide +kernel
theorem dX10_forgetAll_4 : decode cX10_forgetAll 4 = .ok (.if_icmp .ge 14, 3) := by decide +kernel
theorem dX10_forgetAll_7 : decode cX10_forgetAll 7 = .ok (.aload_n 0, 1) := by decide +kernel
theorem dX10_forgetAll_8 : decode cX10_forgetAll 8 = .ok (.iload_n 1, 1) := by decide +kernel
theorem dX10_forgetAll_9 : decode cX10_forgetAll 9 = .ok (.invokevirtual 137, 3) := by decide +kernel
theorem dX10_forgetAll_12 : decode cX10_forgetAll 12 = .ok (.iinc 1 1, 3) := by decide +kernel
theorem dX10_forgetAll_15 : decode cX10_forgetAll 15 = .ok (.goto (-13), 3) := by decide +kernel
theorem dX10_forgetAll_18 : decode cX10_forgetAll 18 = .ok (.return_, 1) := by decide +kernel
def S_X10_forgetAll_2 (fn : Mem → Int → Option (Mem)) (p : Program) (l : Launch) (e : Env) (R : Room) (s : State) (m : MethodId) (args : Array Value) (below : List Frame) (meth : Method) (c : Code) (G : GT) (τ : Mem) : Prop := ∀ (σ : Mem) (H : Heap) (locs : List Loc) (ls : Array Slot) (l1 : Int), PW G σ H → va_S (AA G) s.heap H locs → fn σ l1 = some τ → lv_has ls 2 [(0, .ref (gh G + 0)), (1, .int (i32 l1))] → W p l e R s m args below meth c H locs 0 0 (MQ below (QM G none τ) args s 0 0 (AA G)) (F0 m 2 ls [])
def X10_forgetAll_B2 (rec2 : Mem → Int → Option (Mem)) (σ : Mem) (l1 : Int) : Option (Mem) :=
  if w32 4 ≤ w32 l1 then
    some σ
  else
  bd (X10_forgetPart σ l1) fun s2 =>
  lt (l1 + 1) fun l1_3 =>
  rec2 s2 l1_3
def X10_forgetAll_L2 : Nat → Mem → Int → Option (Mem)
  | 0 => fun _ _ => none
  | n + 1 => X10_forgetAll_B2 (X10_forgetAll_L2 n)
def X10_forgetAll (σ : Mem) : Option (Mem) :=
  X10_forgetAll_L2 5000 σ 0
def S_X10_forgetAll_0 (fn : Mem → Option (Mem)) (p : Program) (l : Launch) (e : Env) (R : Room) (s : State) (m : MethodId) (args : Array Value) (below : List Frame) (meth : Method) (c : Code) (G : GT) (τ : Mem) : Prop := ∀ (σ : Mem) (H : Heap) (locs : List Loc) (ls : Array Slot), PW G σ H → va_S (AA G) s.heap H locs → fn σ = some τ → lv_has ls 2 [(0, .ref (gh G + 0))] → W p l e R s m args below meth c H locs 0 0 (MQ below (QM G none τ) args s 0 0 (AA G)) (F0 m 0 ls [])
set_option maxHeartbeats 4000000 in
theorem a_X10_forgetAll_2 {p : Program} {l : Launch} {e : Env} {R : Room} {s : State} {m : MethodId} {args : Array Value} {below : List Frame} {meth : Method} {c : Code} {G : GT} {τ : Mem} {rec2 : Mem → Int → Option (Mem)} (X : CX p R s m args meth c cX10_forgetAll 2 RX10 none 3 102 G) (h2 : S_X10_forgetAll_2 rec2 p l e R s m args below meth c G τ) : S_X10_forgetAll_2 (X10_forgetAll_B2 rec2) p l e R s m args below meth c G τ := by
  intro σ H locs ls l1 hP hS hf hl
  unfold X10_forgetAll_B2 at hf
  refine lv_iload_n X.1 X.2.1 dX10_forgetAll_2 rfl (lv_at hl 1 rfl) ?_
  refine r_iconst X 4 dX10_forgetAll_3 ?_
  refine r_icmp_ge (tgt := 18) X dX10_forgetAll_4 (by decide) (fun q => ?_) (fun q => ?_)
  · replace hf := it_inv q hf
    cases so_inv hf
    exact r_vret X hP hS dX10_forgetAll_18
  · replace hf := ie_inv q hf
    refine lv_aload_n X.1 X.2.1 dX10_forgetAll_7 rfl (lv_at hl 0 rfl) ?_
    refine lv_iload_n X.1 X.2.1 dX10_forgetAll_8 rfl (lv_at hl 1 rfl) ?_
    obtain ⟨s2, hr1, hf⟩ := bd_inv hf
    refine k_X10_forgetPart X hP hS hl.1  hr1 (tb t_451 rfl) (by decide) (Nat.le_of_ble_eq_true rfl) dX10_forgetAll_9 (fun H locs hP hS => ?_)
    obtain ⟨l1_3, el1_3, hf⟩ := lt_inv hf
    refine lv_iinc (v := i32 l1_3) (lv' := [(1, .int (i32 l1_3)), (0, .ref (gh G + 0))]) X.1 X.2.1 dX10_forgetAll_12 hl (k := 1) rfl (by rw [← el1_3]; exact i32_add _ _) (by decide) rfl (fun ls hl => ?_)
    refine lv_goto (tgt := 2) X.1 X.2.1 dX10_forgetAll_15 (by decide) ?_
    exact h2 s2 H locs ls l1_3 hP hS hf (lv_sub hl [1, 0] rfl)
theorem al_X10_forgetAll_2 {p : Program} {l : Launch} {e : Env} {R : Room} {s : State} {m : MethodId} {args : Array Value} {below : List Frame} {meth : Method} {c : Code} {G : GT} {τ : Mem} (X : CX p R s m args meth c cX10_forgetAll 2 RX10 none 3 102 G) : ∀ n, S_X10_forgetAll_2 (X10_forgetAll_L2 n) p l e R s m args below meth c G τ := by
  intro n
  induction n with
  | zero =>
    intro σ H locs ls l1 hP hS hf hl
    cases hf
  | succ n ih => exact a_X10_forgetAll_2 X ih
set_option maxHeartbeats 4000000 in
theorem a_X10_forgetAll_0 {p : Program} {l : Launch} {e : Env} {R : Room} {s : State} {m : MethodId} {args : Array Value} {below : List Frame} {meth : Method} {c : Code} {G : GT} {τ : Mem} (X : CX p R s m args meth c cX10_forgetAll 2 RX10 none 3 102 G) : S_X10_forgetAll_0 (X10_forgetAll) p l e R s m args below meth c G τ := by
  intro σ H locs ls hP hS hf hl
  unfold X10_forgetAll at hf
  refine r_iconst X 0 dX10_forgetAll_0 ?_
  refine lv_istore_n (lv' := [(1, .int (i32 0)), (0, .ref (gh G + 0))]) X.1 X.2.1 dX10_forgetAll_1 rfl hl (by decide) rfl (fun ls hl => ?_)
  exact al_X10_forgetAll_2 X 5000 σ H locs ls 0 hP hS hf (lv_sub hl [1, 0] rfl)
set_option maxHeartbeats 4000000 in
theorem c_X10_forgetAll {l : Launch} {G : GT} {σ τ : Mem} (hf : X10_forgetAll σ = some τ) : CT l yX10_forgetAll cX10_forgetAll 2 none 3 102 G [.ref (gh G + 0)] σ τ none := by
  refine CT.mk (own := RX10) (by decide) rfl (Nat.le_of_ble_eq_true rfl) ?_
  intro p e s m below meth c ls X hP hS hl
  have hl : lv_has ls 2 [(0, .ref (gh G + 0))] := hl
  exact a_X10_forgetAll_0 X σ s.heap [] ls hP hS hf hl
theorem k_X10_forgetAll {p : Program} {l : Launch} {e : Env} {R : Room} {s : State} {m : MethodId} {args : Array Value} {below : List Frame} {meth : Method} {c : Code} {H : Heap} {locs : List Loc} {Q : State → Prop} {cc : ByteArray} {nL : Nat} {own : String} {ret : Option FieldType} {fF fL : Nat} {G : GT} {pc idx : Nat} {ls : Array Slot} {rest : List Value} {σ τ : Mem} (X : CX p R s m args meth c cc nL own ret fF fL G) (hP : PW G σ H) (hS : va_S (AA G) s.heap H locs) (hls : ls.size = nL) (hf : X10_forgetAll σ = some τ) (h1 : Cond.methodLink own idx yX10_forgetAll ∈ TB) (hR : 3 + 1 ≤ fF ∧ 8 + (2 + 11) + 102 ≤ fL) (hW : (rest.map fun v => v.category).sum ≤ 8) (hd : decode cc pc = .ok (.invokevirtual idx, 3)) (kk : ∀ (H1 : Heap) (locs1 : List Loc), PW G τ H1 → va_S (AA G) s.heap H1 locs1 → W p l e R s m args below meth c H1 locs1 0 0 Q (F0 m (pc + 3) ls (rest))) : W p l e R s m args below meth c H locs 0 0 Q (F0 m pc ls (.ref (gh G + 0) :: rest)) := r_callV (n := 0) X hP hS hls (c_X10_forgetAll hf) h1 (tb t_449 rfl) (tb t_2 rfl) (tb t_75 rfl) (tb t_450 rfl) (by decide +kernel) hR (r_recv X hP (kd_lt ks_10 (by decide)) (cE_10 ks_10) rfl) rfl rfl hW hd kk
/-! X10_free -/
theorem dX10_free_0 : decode cX10_free 0 = .ok (.aload_n 0, 1) := by decide +kernel
theorem dX10_free_1 : decode cX10_free 1 = .ok (.iload_n 1, 1) := by decide +kernel
theorem dX10_free_2 : decode cX10_free 2 = .ok (.iload_n 2, 1) := by decide +kernel
theorem dX10_free_3 : decode cX10_free 3 = .ok (.invokevirtual 141, 3) := by decide +kernel
theorem dX10_free_6 : decode cX10_free 6 = .ok (.ifCond .eq 12, 3) := by decide +kernel
theorem dX10_free_9 : decode cX10_free 9 = .ok (.iload_n 3, 1) := by decide +kernel
theorem dX10_free_10 : decode cX10_free 10 = .ok (.iconst 0, 1) := by decide +kernel
theorem dX10_free_11 : decode cX10_free 11 = .ok (.iconst 1, 1) := by decide +kernel
theorem dX10_free_12 : decode cX10_free 12 = .ok (.invokestatic 62, 3) := by decide +kernel
theorem dX10_free_15 : decode cX10_free 15 = .ok (.ifCond .ne 10, 3) := by decide +kernel
theorem dX10_free_18 : decode cX10_free 18 = .ok (.aload_n 0, 1) := by decide +kernel
theorem dX10_free_19 : decode cX10_free 19 = .ok (.ldc 72, 2) := by decide +kernel
theorem dX10_free_21 : decode cX10_free 21 = .ok (.invokevirtual 73, 3) := by decide +kernel
theorem dX10_free_24 : decode cX10_free 24 = .ok (.ireturn, 1) := by decide +kernel
theorem dX10_free_25 : decode cX10_free 25 = .ok (.aload_n 0, 1) := by decide +kernel
theorem dX10_free_26 : decode cX10_free 26 = .ok (.getfield 10, 3) := by decide +kernel
theorem dX10_free_29 : decode cX10_free 29 = .ok (.getfield 77, 3) := by decide +kernel
theorem dX10_free_32 : decode cX10_free 32 = .ok (.iload_n 1, 1) := by decide +kernel
theorem dX10_free_33 : decode cX10_free 33 = .ok (.aaload, 1) := by decide +kernel
theorem dX10_free_34 : decode cX10_free 34 = .ok (.astore 4, 2) := by decide +kernel
theorem dX10_free_36 : decode cX10_free 36 = .ok (.aload 4, 2) := by decide +kernel
theorem dX10_free_38 : decode cX10_free 38 = .ok (.iload_n 2, 1) := by decide +kernel
theorem dX10_free_39 : decode cX10_free 39 = .ok (.iload_n 3, 1) := by decide +kernel
theorem dX10_free_40 : decode cX10_free 40 = .ok (.ifCond .ne 7, 3) := by decide +kernel
theorem dX10_free_43 : decode cX10_free 43 = .ok (.iconst 0, 1) := by decide +kernel
theorem dX10_free_44 : decode cX10_free 44 = .ok (.goto 10, 3) := by decide +kernel
theorem dX10_free_47 : decode cX10_free 47 = .ok (.aload 4, 2) := by decide +kernel
theorem dX10_free_49 : decode cX10_free 49 = .ok (.getfield 81, 3) := by decide +kernel
theorem dX10_free_52 : decode cX10_free 52 = .ok (.iconst 1, 1) := by decide +kernel
theorem dX10_free_53 : decode cX10_free 53 = .ok (.iaload, 1) := by decide +kernel
theorem dX10_free_54 : decode cX10_free 54 = .ok (.invokevirtual 166, 3) := by decide +kernel
theorem dX10_free_57 : decode cX10_free 57 = .ok (.ireturn, 1) := by decide +kernel
def X10_free_B54 (σ : Mem) (k0 : Nat) (k1 : Int) (k2 : Int) : Option (Int × Mem) :=
  bd (X5_freeBehind σ k0 k1 k2) fun r1 =>
  some (r1, σ)
def S_X10_free_54 (fn : Mem → Nat → Int → Int → Option (Int × Mem)) (p : Program) (l : Launch) (e : Env) (R : Room) (s : State) (m : MethodId) (args : Array Value) (below : List Frame) (meth : Method) (c : Code) (G : GT) (τ : Mem) (res : Int) : Prop := ∀ (σ : Mem) (H : Heap) (locs : List Loc) (ls : Array Slot) (k0 : Nat) (k1 : Int) (k2 : Int), kd k0 = 5 → PW G σ H → va_S (AA G) s.heap H locs → fn σ k0 k1 k2 = some (res, τ) → lv_has ls 5 [] → W p l e R s m args below meth c H locs 0 0 (MQ below (QM G (some (.int (i32 res))) τ) args s 0 0 (AA G)) (F0 m 54 ls [.int (i32 k2), .int (i32 k1), .ref (gh G + k0)])
def X10_free_B18 (σ : Mem) : Option (Int × Mem) :=
  bd2 (X10_tell σ (-1000001)) fun r1 s2 =>
  some (r1, s2)
def S_X10_free_18 (fn : Mem → Option (Int × Mem)) (p : Program) (l : Launch) (e : Env) (R : Room) (s : State) (m : MethodId) (args : Array Value) (below : List Frame) (meth : Method) (c : Code) (G : GT) (τ : Mem) (res : Int) : Prop := ∀ (σ : Mem) (H : Heap) (locs : List Loc) (ls : Array Slot), PW G σ H → va_S (AA G) s.heap H locs → fn σ = some (res, τ) → lv_has ls 5 [(0, .ref (gh G + 0))] → W p l e R s m args below meth c H locs 0 0 (MQ below (QM G (some (.int (i32 res))) τ) args s 0 0 (AA G)) (F0 m 18 ls [])
def X10_free (σ : Mem) (l1 : Int) (l2 : Int) (l3 : Int) : Option (Int × Mem) :=
  bd (X10_isBar σ l1 l2) fun r1 =>
  if w32 r1 = 0 then
    X10_free_B18 σ
  else
  bd (X10_within σ l3 0 1) fun r2 =>
  if w32 r2 ≠ 0 then
    ag 4 l1 fun j3 =>
    if w32 l3 ≠ 0 then
      ag 4 1 fun j4 =>
      X10_free_B54 σ (9 + 3 * j3) l2 (σ (9 + 3 * j3 + 1) j4)
    else
    X10_free_B54 σ (9 + 3 * j3) l2 0
  else
  X10_free_B18 σ
def S_X10_free_0 (fn : Mem → Int → Int → Int → Option (Int × Mem)) (p : Program) (l : Launch) (e : Env) (R : Room) (s : State) (m : MethodId) (args : Array Value) (below : List Frame) (meth : Method) (c : Code) (G : GT) (τ : Mem) (res : Int) : Prop := ∀ (σ : Mem) (H : Heap) (locs : List Loc) (ls : Array Slot) (l1 : Int) (l2 : Int) (l3 : Int), PW G σ H → va_S (AA G) s.heap H locs → fn σ l1 l2 l3 = some (res, τ) → lv_has ls 5 [(0, .ref (gh G + 0)), (1, .int (i32 l1)), (2, .int (i32 l2)), (3, .int (i32 l3))] → W p l e R s m args below meth c H locs 0 0 (MQ below (QM G (some (.int (i32 res))) τ) args s 0 0 (AA G)) (F0 m 0 ls [])
set_option maxHeartbeats 4000000 in
theorem a_X10_free_54 {p : Program} {l : Launch} {e : Env} {R : Room} {s : State} {m : MethodId} {args : Array Value} {below : List Frame} {meth : Method} {c : Code} {G : GT} {τ : Mem} {res : Int} (X : CX p R s m args meth c cX10_free 5 RX10 (some FieldType.int) 4 132 G) : S_X10_free_54 (X10_free_B54) p l e R s m args below meth c G τ res := by
  intro σ H locs ls k0 k1 k2 hk_k0 hP hS hf hl
  unfold X10_free_B54 at hf
  obtain ⟨r1, hr1, hf⟩ := bd_inv hf
  refine k_X5_freeBehind X hP hS hl.1 hk_k0 hr1 (tb t_669 rfl) (by decide) (Nat.le_of_ble_eq_true rfl) dX10_free_54 (fun H locs hP hS => ?_)
  obtain ⟨rfl, rfl⟩ := so2_inv hf
  exact r_iret X hP hS dX10_free_57
set_option maxHeartbeats 4000000 in
theorem a_X10_free_18 {p : Program} {l : Launch} {e : Env} {R : Room} {s : State} {m : MethodId} {args : Array Value} {below : List Frame} {meth : Method} {c : Code} {G : GT} {τ : Mem} {res : Int} (X : CX p R s m args meth c cX10_free 5 RX10 (some FieldType.int) 4 132 G) : S_X10_free_18 (X10_free_B18) p l e R s m args below meth c G τ res := by
  intro σ H locs ls hP hS hf hl
  unfold X10_free_B18 at hf
  refine lv_aload_n X.1 X.2.1 dX10_free_18 rfl (lv_at hl 0 rfl) ?_
  refine r_ldc X (-1000001) (tb t_430 rfl) (by decide) dX10_free_19 ?_
  obtain ⟨r1, s2, hr1, hf⟩ := bd2_inv hf
  refine k_X10_tell X hP hS hl.1  hr1 (tb t_431 rfl) (by decide) (Nat.le_of_ble_eq_true rfl) dX10_free_21 (fun H locs hP hS => ?_)
  obtain ⟨rfl, rfl⟩ := so2_inv hf
  exact r_iret X hP hS dX10_free_24
set_option maxHeartbeats 4000000 in
theorem a_X10_free_0 {p : Program} {l : Launch} {e : Env} {R : Room} {s : State} {m : MethodId} {args : Array Value} {below : List Frame} {meth : Method} {c : Code} {G : GT} {τ : Mem} {res : Int} (X : CX p R s m args meth c cX10_free 5 RX10 (some FieldType.int) 4 132 G) : S_X10_free_0 (X10_free) p l e R s m args below meth c G τ res := by
  intro σ H locs ls l1 l2 l3 hP hS hf hl
  unfold X10_free at hf
  refine lv_aload_n X.1 X.2.1 dX10_free_0 rfl (lv_at hl 0 rfl) ?_
  refine lv_iload_n X.1 X.2.1 dX10_free_1 rfl (lv_at hl 1 rfl) ?_
  refine lv_iload_n X.1 X.2.1 dX10_free_2 rfl (lv_at hl 2 rfl) ?_
  obtain ⟨r1, hr1, hf⟩ := bd_inv hf
  refine k_X10_isBar X hP hS hl.1  hr1 (tb t_632 rfl) (by decide) (Nat.le_of_ble_eq_true rfl) dX10_free_3 (fun H locs hP hS => ?_)
  refine r_if_eq (tgt := 18) X dX10_free_6 (by decide) (fun q => ?_) (fun q => ?_)
  · replace hf := it_inv q hf
    exact a_X10_free_18 X σ H locs ls  hP hS hf (lv_sub hl [0] rfl)
  · replace hf := ie_inv q hf
    refine lv_iload_n X.1 X.2.1 dX10_free_9 rfl (lv_at hl 3 rfl) ?_
    refine r_iconst X 0 dX10_free_10 ?_
    refine r_iconst X 1 dX10_free_11 ?_
    obtain ⟨r2, hr2, hf⟩ := bd_inv hf
    refine k_X10_within X hP hS hl.1  hr2 (tb t_423 rfl) (by decide) (Nat.le_of_ble_eq_true rfl) dX10_free_12 (fun H locs hP hS => ?_)
    refine r_if_ne (tgt := 25) X dX10_free_15 (by decide) (fun q => ?_) (fun q => ?_)
    · replace hf := it_inv q hf
      refine lv_aload_n X.1 X.2.1 dX10_free_25 rfl (lv_at hl 0 rfl) ?_
      refine g_10_0 (r := 1) X hP ks_10 rfl (tb t_388 rfl) dX10_free_26 ?_
      refine g_7_0 (r := 2) X hP (ch_10_0 ks_10).1 rfl (tb t_170 rfl) dX10_free_29 ?_
      refine lv_iload_n X.1 X.2.1 dX10_free_32 rfl (lv_at hl 1 rfl) ?_
      obtain ⟨j3, hij3, hjj3, hlj3, hf⟩ := ag_inv hf
      refine r_aald18 (r := 9 + 3 * j3) X hP (ch_7_0 (ch_10_0 ks_10).1).1 (ch_7_0 (ch_10_0 ks_10).1).2 hij3 hjj3 rfl dX10_free_33 ?_
      refine lv_astore (lv' := [(4, .ref (gh G + (9 + 3 * j3))), (0, .ref (gh G + 0)), (1, .int (i32 l1)), (2, .int (i32 l2)), (3, .int (i32 l3))]) X.1 X.2.1 dX10_free_34 hl (by decide) rfl (fun ls hl => ?_)
      refine lv_aload X.1 X.2.1 dX10_free_36 (lv_at hl 0 rfl) ?_
      refine lv_iload_n X.1 X.2.1 dX10_free_38 rfl (lv_at hl 3 rfl) ?_
      refine lv_iload_n X.1 X.2.1 dX10_free_39 rfl (lv_at hl 4 rfl) ?_
      refine r_if_ne (tgt := 47) X dX10_free_40 (by decide) (fun q => ?_) (fun q => ?_)
      · replace hf := it_inv q hf
        refine lv_aload X.1 X.2.1 dX10_free_47 (lv_at hl 0 rfl) ?_
        refine g_5_0 (r := 9 + 3 * j3 + 1) X hP ((ch_18 (ch_7_0 (ch_10_0 ks_10).1).1).2 j3 hlj3) rfl (tb t_152 rfl) dX10_free_49 ?_
        refine r_iconst X 1 dX10_free_52 ?_
        obtain ⟨j4, hij4, hjj4, hlj4, hf⟩ := ag_inv hf
        refine r_iald X hP (ch_5_0 ((ch_18 (ch_7_0 (ch_10_0 ks_10).1).1).2 j3 hlj3)).1 (ch_5_0 ((ch_18 (ch_7_0 (ch_10_0 ks_10).1).1).2 j3 hlj3)).2 hij4 hjj4 dX10_free_53 ?_
        exact a_X10_free_54 X σ H locs ls (9 + 3 * j3) l2 (σ (9 + 3 * j3 + 1) j4) ((ch_18 (ch_7_0 (ch_10_0 ks_10).1).1).2 j3 hlj3) hP hS hf (lv_sub hl [] rfl)
      · replace hf := ie_inv q hf
        refine r_iconst X 0 dX10_free_43 ?_
        refine lv_goto (tgt := 54) X.1 X.2.1 dX10_free_44 (by decide) ?_
        exact a_X10_free_54 X σ H locs ls (9 + 3 * j3) l2 0 ((ch_18 (ch_7_0 (ch_10_0 ks_10).1).1).2 j3 hlj3) hP hS hf (lv_sub hl [] rfl)
    · replace hf := ie_inv q hf
      exact a_X10_free_18 X σ H locs ls  hP hS hf (lv_sub hl [0] rfl)
set_option maxHeartbeats 4000000 in
theorem c_X10_free {l : Launch} {G : GT} {σ τ : Mem} {res : Int} {l1 : Int} {l2 : Int} {l3 : Int} (hf : X10_free σ l1 l2 l3 = some (res, τ)) : CT l yX10_free cX10_free 5 (some FieldType.int) 4 132 G [.ref (gh G + 0), .int (i32 l1), .int (i32 l2), .int (i32 l3)] σ τ (some (.int (i32 res))) := by
  refine CT.mk (own := RX10) (by decide) rfl (Nat.le_of_ble_eq_true rfl) ?_
  intro p e s m below meth c ls X hP hS hl
  have hl : lv_has ls 5 [(0, .ref (gh G + 0)), (1, .int (i32 l1)), (2, .int (i32 l2)), (3, .int (i32 l3))] := hl
  exact a_X10_free_0 X σ s.heap [] ls l1 l2 l3 hP hS hf hl
theorem k_X10_free {p : Program} {l : Launch} {e : Env} {R : Room} {s : State} {m : MethodId} {args : Array Value} {below : List Frame} {meth : Method} {c : Code} {H : Heap} {locs : List Loc} {Q : State → Prop} {cc : ByteArray} {nL : Nat} {own : String} {ret : Option FieldType} {fF fL : Nat} {G : GT} {pc idx : Nat} {ls : Array Slot} {rest : List Value} {σ τ : Mem} {res : Int} {l1 : Int} {l2 : Int} {l3 : Int} (X : CX p R s m args meth c cc nL own ret fF fL G) (hP : PW G σ H) (hS : va_S (AA G) s.heap H locs) (hls : ls.size = nL) (hf : X10_free σ l1 l2 l3 = some (res, τ)) (h1 : Cond.methodLink own idx yX10_free ∈ TB) (hR : 4 + 1 ≤ fF ∧ 8 + (5 + 11) + 132 ≤ fL) (hW : (rest.map fun v => v.category).sum ≤ 8) (hd : decode cc pc = .ok (.invokevirtual idx, 3)) (kk : ∀ (H1 : Heap) (locs1 : List Loc), PW G τ H1 → va_S (AA G) s.heap H1 locs1 → W p l e R s m args below meth c H1 locs1 0 0 Q (F0 m (pc + 3) ls (.int (i32 res) :: rest))) : W p l e R s m args below meth c H locs 0 0 Q (F0 m pc ls (.int (i32 l3) :: .int (i32 l2) :: .int (i32 l1) :: .ref (gh G + 0) :: rest)) := r_callV (n := 3) X hP hS hls (c_X10_free hf) h1 (tb t_666 rfl) (tb t_667 rfl) (tb t_75 rfl) (tb t_668 rfl) (by decide +kernel) hR (r_recv X hP (kd_lt ks_10 (by decide)) (cE_10 ks_10) rfl) rfl rfl hW hd kk
/-! X10_hearts -/
theorem dX10_hearts_0 : decode cX10_hearts 0 = .ok (.iload_n 1, 1) := by decide +kernel
theorem dX10_hearts_1 : decode cX10_hearts 1 = .ok (.invokestatic 58, 3) := by decide +kernel
theorem dX10_hearts_4 : decode cX10_hearts 4 = .ok (.ifCond .ne 10, 3) := by decide +kernel
theorem dX10_hearts_7 : decode cX10_hearts 7 = .ok (.aload_n 0, 1) := by decide +kernel
theorem dX10_hearts_8 : decode cX10_hearts 8 = .ok (.ldc 72, 2) := by decide +kernel
theorem dX10_hearts_10 : decode cX10_hearts 10 = .ok (.invokevirtual 73, 3) := by decide +kernel
theorem dX10_hearts_13 : decode cX10_hearts 13 = .ok (.ireturn, 1) := by decide +kernel
theorem dX10_hearts_14 : decode cX10_hearts 14 = .ok (.aload_n 0, 1) := by decide +kernel
theorem dX10_hearts_15 : decode cX10_hearts 15 = .ok (.iload_n 1, 1) := by decide +kernel
theorem dX10_hearts_16 : decode cX10_hearts 16 = .ok (.invokevirtual 237, 3) := by decide +kernel
theorem dX10_hearts_19 : decode cX10_hearts 19 = .ok (.astore_n 2, 1) := by decide +kernel
theorem dX10_hearts_20 : decode cX10_hearts 20 = .ok (.aload_n 0, 1) := by decide +kernel
theorem dX10_hearts_21 : decode cX10_hearts 21 = .ok (.getfield 10, 3) := by decide +kernel
theorem dX10_hearts_24 : decode cX10_hearts 24 = .ok (.getfield 77, 3) := by decide +kernel
theorem dX10_hearts_27 : decode cX10_hearts 27 = .ok (.iload_n 1, 1) := by decide +kernel
theorem dX10_hearts_28 : decode cX10_hearts 28 = .ok (.aaload, 1) := by decide +kernel
theorem dX10_hearts_29 : decode cX10_hearts 29 = .ok (.getfield 81, 3) := by decide +kernel
theorem dX10_hearts_32 : decode cX10_hearts 32 = .ok (.iconst 3, 1) := by decide +kernel
theorem dX10_hearts_33 : decode cX10_hearts 33 = .ok (.iaload, 1) := by decide +kernel
theorem dX10_hearts_34 : decode cX10_hearts 34 = .ok (.istore_n 3, 1) := by decide +kernel
theorem dX10_hearts_35 : decode cX10_hearts 35 = .ok (.iconst 0, 1) := by decide +kernel
theorem dX10_hearts_36 : decode cX10_hearts 36 = .ok (.istore 4, 2) := by decide +kernel
theorem dX10_hearts_38 : decode cX10_hearts 38 = .ok (.iload 4, 2) := by decide +kernel
theorem dX10_hearts_40 : decode cX10_hearts 40 = .ok (.bipush 8, 2) := by decide +kernel
theorem dX10_hearts_42 : decode cX10_hearts 42 = .ok (.if_icmp .gt 47, 3) := by decide +kernel
theorem dX10_hearts_45 : decode cX10_hearts 45 = .ok (.aload_n 0, 1) := by decide +kernel
theorem dX10_hearts_46 : decode cX10_hearts 46 = .ok (.getfield 47, 3) := by decide +kernel
theorem dX10_hearts_49 : decode cX10_hearts 49 = .ok (.aload_n 0, 1) := by decide +kernel
theorem dX10_hearts_50 : decode cX10_hearts 50 = .ok (.getfield 10, 3) := by decide +kernel
theorem dX10_hearts_53 : decode cX10_hearts 53 = .ok (.iload_n 1, 1) := by decide +kernel
theorem dX10_hearts_54 : decode cX10_hearts 54 = .ok (.iload 4, 2) := by decide +kernel
theorem dX10_hearts_56 : decode cX10_hearts 56 = .ok (.invokevirtual 241, 3) := by decide +kernel
theorem dX10_hearts_59 : decode cX10_hearts 59 = .ok (.aload_n 0, 1) := by decide +kernel
theorem dX10_hearts_60 : decode cX10_hearts 60 = .ok (.getfield 47, 3) := by decide +kernel
theorem dX10_hearts_63 : decode cX10_hearts 63 = .ok (.aload_n 2, 1) := by decide +kernel
theorem dX10_hearts_64 : decode cX10_hearts 64 = .ok (.iload_n 3, 1) := by decide +kernel
theorem dX10_hearts_65 : decode cX10_hearts 65 = .ok (.aload_n 0, 1) := by decide +kernel
theorem dX10_hearts_66 : decode cX10_hearts 66 = .ok (.getfield 10, 3) := by decide +kernel
theorem dX10_hearts_69 : decode cX10_hearts 69 = .ok (.getfield 95, 3) := by decide +kernel
theorem dX10_hearts_72 : decode cX10_hearts 72 = .ok (.iconst 2, 1) := by decide +kernel
theorem dX10_hearts_73 : decode cX10_hearts 73 = .ok (.iaload, 1) := by decide +kernel
theorem dX10_hearts_74 : decode cX10_hearts 74 = .ok (.invokevirtual 245, 3) := by decide +kernel
theorem dX10_hearts_77 : decode cX10_hearts 77 = .ok (.ifCond .eq 6, 3) := by decide +kernel
theorem dX10_hearts_80 : decode cX10_hearts 80 = .ok (.iload 4, 2) := by decide +kernel
theorem dX10_hearts_82 : decode cX10_hearts 82 = .ok (.ireturn, 1) := by decide +kernel
theorem dX10_hearts_83 : decode cX10_hearts 83 = .ok (.iinc 4 1, 3) := by decide +kernel
theorem dX10_hearts_86 : decode cX10_hearts 86 = .ok (.goto (-48), 3) := by decide +kernel
theorem dX10_hearts_89 : decode cX10_hearts 89 = .ok (.aload_n 0, 1) := by decide +kernel
theorem dX10_hearts_90 : decode cX10_hearts 90 = .ok (.ldc 205, 2) := by decide +kernel
theorem dX10_hearts_92 : decode cX10_hearts 92 = .ok (.invokevirtual 73, 3) := by decide +kernel
theorem dX10_hearts_95 : decode cX10_hearts 95 = .ok (.ireturn, 1) := by decide +kernel
def S_X10_hearts_38 (fn : Mem → Int → Nat → Int → Int → Option (Int × Mem)) (p : Program) (l : Launch) (e : Env) (R : Room) (s : State) (m : MethodId) (args : Array Value) (below : List Frame) (meth : Method) (c : Code) (G : GT) (τ : Mem) (res : Int) : Prop := ∀ (σ : Mem) (H : Heap) (locs : List Loc) (ls : Array Slot) (l1 : Int) (l2 : Nat) (l3 : Int) (l4 : Int), kd l2 = 4 → PW G σ H → va_S (AA G) s.heap H locs → fn σ l1 l2 l3 l4 = some (res, τ) → lv_has ls 5 [(0, .ref (gh G + 0)), (1, .int (i32 l1)), (2, .ref (gh G + l2)), (3, .int (i32 l3)), (4, .int (i32 l4))] → W p l e R s m args below meth c H locs 0 0 (MQ below (QM G (some (.int (i32 res))) τ) args s 0 0 (AA G)) (F0 m 38 ls [])
def X10_hearts_B38 (rec38 : Mem → Int → Nat → Int → Int → Option (Int × Mem)) (σ : Mem) (l1 : Int) (l2 : Nat) (l3 : Int) (l4 : Int) : Option (Int × Mem) :=
  if w32 8 < w32 l4 then
    bd2 (X10_tell σ (-1000004)) fun r1 s2 =>
    some (r1, s2)
  else
  bd (X1_findEase σ 1 l1 l4) fun s4 =>
  ag 5 2 fun j5 =>
  bd2 (X1_flows s4 l2 l3 (s4 3 j5)) fun r6 s7 =>
  if w32 r6 = 0 then
    lt (l4 + 1) fun l4_8 =>
    rec38 s7 l1 l2 l3 l4_8
  else
  some (l4, s7)
def X10_hearts_L38 : Nat → Mem → Int → Nat → Int → Int → Option (Int × Mem)
  | 0 => fun _ _ _ _ _ => none
  | n + 1 => X10_hearts_B38 (X10_hearts_L38 n)
def X10_hearts (σ : Mem) (l1 : Int) : Option (Int × Mem) :=
  bd (X10_isPart σ l1) fun r1 =>
  if w32 r1 ≠ 0 then
    bd2 (X10_tableOf σ l1) fun r2 s3 =>
    kg 4 r2 <|
    ag 4 l1 fun j4 =>
    ag 4 3 fun j5 =>
    lt (s3 (9 + 3 * j4 + 1) j5) fun l3_6 =>
    X10_hearts_L38 5000 s3 l1 r2 l3_6 0
  else
  bd2 (X10_tell σ (-1000001)) fun r7 s8 =>
  some (r7, s8)
def S_X10_hearts_0 (fn : Mem → Int → Option (Int × Mem)) (p : Program) (l : Launch) (e : Env) (R : Room) (s : State) (m : MethodId) (args : Array Value) (below : List Frame) (meth : Method) (c : Code) (G : GT) (τ : Mem) (res : Int) : Prop := ∀ (σ : Mem) (H : Heap) (locs : List Loc) (ls : Array Slot) (l1 : Int), PW G σ H → va_S (AA G) s.heap H locs → fn σ l1 = some (res, τ) → lv_has ls 5 [(0, .ref (gh G + 0)), (1, .int (i32 l1))] → W p l e R s m args below meth c H locs 0 0 (MQ below (QM G (some (.int (i32 res))) τ) args s 0 0 (AA G)) (F0 m 0 ls [])
set_option maxHeartbeats 4000000 in
theorem a_X10_hearts_38 {p : Program} {l : Launch} {e : Env} {R : Room} {s : State} {m : MethodId} {args : Array Value} {below : List Frame} {meth : Method} {c : Code} {G : GT} {τ : Mem} {res : Int} {rec38 : Mem → Int → Nat → Int → Int → Option (Int × Mem)} (X : CX p R s m args meth c cX10_hearts 5 RX10 (some FieldType.int) 6 185 G) (h38 : S_X10_hearts_38 rec38 p l e R s m args below meth c G τ res) : S_X10_hearts_38 (X10_hearts_B38 rec38) p l e R s m args below meth c G τ res := by
  intro σ H locs ls l1 l2 l3 l4 hk_l2 hP hS hf hl
  unfold X10_hearts_B38 at hf
  refine lv_iload X.1 X.2.1 dX10_hearts_38 (lv_at hl 4 rfl) ?_
  refine r_bipush X 8 (by decide) dX10_hearts_40 ?_
  refine r_icmp_gt (tgt := 89) X dX10_hearts_42 (by decide) (fun q => ?_) (fun q => ?_)
  · replace hf := it_inv q hf
    refine lv_aload_n X.1 X.2.1 dX10_hearts_89 rfl (lv_at hl 0 rfl) ?_
    refine r_ldc X (-1000004) (tb t_747 rfl) (by decide) dX10_hearts_90 ?_
    obtain ⟨r1, s2, hr1, hf⟩ := bd2_inv hf
    refine k_X10_tell X hP hS hl.1  hr1 (tb t_431 rfl) (by decide) (Nat.le_of_ble_eq_true rfl) dX10_hearts_92 (fun H locs hP hS => ?_)
    obtain ⟨rfl, rfl⟩ := so2_inv hf
    exact r_iret X hP hS dX10_hearts_95
  · replace hf := ie_inv q hf
    refine lv_aload_n X.1 X.2.1 dX10_hearts_45 rfl (lv_at hl 0 rfl) ?_
    refine g_10_7 (r := 53) X hP ks_10 rfl (tb t_395 rfl) dX10_hearts_46 ?_
    refine lv_aload_n X.1 X.2.1 dX10_hearts_49 rfl (lv_at hl 0 rfl) ?_
    refine g_10_0 (r := 1) X hP ks_10 rfl (tb t_388 rfl) dX10_hearts_50 ?_
    refine lv_iload_n X.1 X.2.1 dX10_hearts_53 rfl (lv_at hl 1 rfl) ?_
    refine lv_iload X.1 X.2.1 dX10_hearts_54 (lv_at hl 4 rfl) ?_
    obtain ⟨s4, hr3, hf⟩ := bd_inv hf
    refine k_X1_findEase X hP hS hl.1 (ch_10_0 ks_10).1 hr3 (tb t_775 rfl) (by decide) (Nat.le_of_ble_eq_true rfl) dX10_hearts_56 (fun H locs hP hS => ?_)
    refine lv_aload_n X.1 X.2.1 dX10_hearts_59 rfl (lv_at hl 0 rfl) ?_
    refine g_10_7 (r := 53) X hP ks_10 rfl (tb t_395 rfl) dX10_hearts_60 ?_
    refine lv_aload_n X.1 X.2.1 dX10_hearts_63 rfl (lv_at hl 2 rfl) ?_
    refine lv_iload_n X.1 X.2.1 dX10_hearts_64 rfl (lv_at hl 3 rfl) ?_
    refine lv_aload_n X.1 X.2.1 dX10_hearts_65 rfl (lv_at hl 0 rfl) ?_
    refine g_10_0 (r := 1) X hP ks_10 rfl (tb t_388 rfl) dX10_hearts_66 ?_
    refine g_7_1 (r := 3) X hP (ch_10_0 ks_10).1 rfl (tb t_172 rfl) dX10_hearts_69 ?_
    refine r_iconst X 2 dX10_hearts_72 ?_
    obtain ⟨j5, hij5, hjj5, hlj5, hf⟩ := ag_inv hf
    refine r_iald X hP (ch_7_1 (ch_10_0 ks_10).1).1 (ch_7_1 (ch_10_0 ks_10).1).2 hij5 hjj5 dX10_hearts_73 ?_
    obtain ⟨r6, s7, hr6, hf⟩ := bd2_inv hf
    refine k_X1_flows X hP hS hl.1 hk_l2 hr6 (tb t_885 rfl) (by decide) (Nat.le_of_ble_eq_true rfl) dX10_hearts_74 (fun H locs hP hS => ?_)
    refine r_if_eq (tgt := 83) X dX10_hearts_77 (by decide) (fun q => ?_) (fun q => ?_)
    · replace hf := it_inv q hf
      obtain ⟨l4_8, el4_8, hf⟩ := lt_inv hf
      refine lv_iinc (v := i32 l4_8) (lv' := [(4, .int (i32 l4_8)), (0, .ref (gh G + 0)), (1, .int (i32 l1)), (2, .ref (gh G + l2)), (3, .int (i32 l3))]) X.1 X.2.1 dX10_hearts_83 hl (k := 4) rfl (by rw [← el4_8]; exact i32_add _ _) (by decide) rfl (fun ls hl => ?_)
      refine lv_goto (tgt := 38) X.1 X.2.1 dX10_hearts_86 (by decide) ?_
      exact h38 s7 H locs ls l1 l2 l3 l4_8 hk_l2 hP hS hf (lv_sub hl [1, 2, 3, 4, 0] rfl)
    · replace hf := ie_inv q hf
      refine lv_iload X.1 X.2.1 dX10_hearts_80 (lv_at hl 4 rfl) ?_
      obtain ⟨rfl, rfl⟩ := so2_inv hf
      exact r_iret X hP hS dX10_hearts_82
theorem al_X10_hearts_38 {p : Program} {l : Launch} {e : Env} {R : Room} {s : State} {m : MethodId} {args : Array Value} {below : List Frame} {meth : Method} {c : Code} {G : GT} {τ : Mem} {res : Int} (X : CX p R s m args meth c cX10_hearts 5 RX10 (some FieldType.int) 6 185 G) : ∀ n, S_X10_hearts_38 (X10_hearts_L38 n) p l e R s m args below meth c G τ res := by
  intro n
  induction n with
  | zero =>
    intro σ H locs ls l1 l2 l3 l4 hk_l2 hP hS hf hl
    cases hf
  | succ n ih => exact a_X10_hearts_38 X ih
set_option maxHeartbeats 4000000 in
theorem a_X10_hearts_0 {p : Program} {l : Launch} {e : Env} {R : Room} {s : State} {m : MethodId} {args : Array Value} {below : List Frame} {meth : Method} {c : Code} {G : GT} {τ : Mem} {res : Int} (X : CX p R s m args meth c cX10_hearts 5 RX10 (some FieldType.int) 6 185 G) : S_X10_hearts_0 (X10_hearts) p l e R s m args below meth c G τ res := by
  intro σ H locs ls l1 hP hS hf hl
  unfold X10_hearts at hf
  refine lv_iload_n X.1 X.2.1 dX10_hearts_0 rfl (lv_at hl 1 rfl) ?_
  obtain ⟨r1, hr1, hf⟩ := bd_inv hf
  refine k_X10_isPart X hP hS hl.1  hr1 (tb t_420 rfl) (by decide) (Nat.le_of_ble_eq_true rfl) dX10_hearts_1 (fun H locs hP hS => ?_)
  refine r_if_ne (tgt := 14) X dX10_hearts_4 (by decide) (fun q => ?_) (fun q => ?_)
  · replace hf := it_inv q hf
    refine lv_aload_n X.1 X.2.1 dX10_hearts_14 rfl (lv_at hl 0 rfl) ?_
    refine lv_iload_n X.1 X.2.1 dX10_hearts_15 rfl (lv_at hl 1 rfl) ?_
    obtain ⟨r2, s3, hr2, hf⟩ := bd2_inv hf
    refine k_X10_tableOf X hP hS hl.1  hr2 (tb t_756 rfl) (by decide) (Nat.le_of_ble_eq_true rfl) dX10_hearts_16 (fun H locs hP hS => ?_)
    obtain ⟨hk_r2, hf⟩ := kg_inv hf
    refine lv_astore_n (lv' := [(2, .ref (gh G + r2)), (0, .ref (gh G + 0)), (1, .int (i32 l1))]) X.1 X.2.1 dX10_hearts_19 rfl hl (by decide) rfl (fun ls hl => ?_)
    refine lv_aload_n X.1 X.2.1 dX10_hearts_20 rfl (lv_at hl 1 rfl) ?_
    refine g_10_0 (r := 1) X hP ks_10 rfl (tb t_388 rfl) dX10_hearts_21 ?_
    refine g_7_0 (r := 2) X hP (ch_10_0 ks_10).1 rfl (tb t_170 rfl) dX10_hearts_24 ?_
    refine lv_iload_n X.1 X.2.1 dX10_hearts_27 rfl (lv_at hl 2 rfl) ?_
    obtain ⟨j4, hij4, hjj4, hlj4, hf⟩ := ag_inv hf
    refine r_aald18 (r := 9 + 3 * j4) X hP (ch_7_0 (ch_10_0 ks_10).1).1 (ch_7_0 (ch_10_0 ks_10).1).2 hij4 hjj4 rfl dX10_hearts_28 ?_
    refine g_5_0 (r := 9 + 3 * j4 + 1) X hP ((ch_18 (ch_7_0 (ch_10_0 ks_10).1).1).2 j4 hlj4) rfl (tb t_152 rfl) dX10_hearts_29 ?_
    refine r_iconst X 3 dX10_hearts_32 ?_
    obtain ⟨j5, hij5, hjj5, hlj5, hf⟩ := ag_inv hf
    refine r_iald X hP (ch_5_0 ((ch_18 (ch_7_0 (ch_10_0 ks_10).1).1).2 j4 hlj4)).1 (ch_5_0 ((ch_18 (ch_7_0 (ch_10_0 ks_10).1).1).2 j4 hlj4)).2 hij5 hjj5 dX10_hearts_33 ?_
    obtain ⟨l3_6, el3_6, hf⟩ := lt_inv hf
    refine r_eqi el3_6 ?_
    refine lv_istore_n (lv' := [(3, .int (i32 l3_6)), (2, .ref (gh G + r2)), (0, .ref (gh G + 0)), (1, .int (i32 l1))]) X.1 X.2.1 dX10_hearts_34 rfl hl (by decide) rfl (fun ls hl => ?_)
    refine r_iconst X 0 dX10_hearts_35 ?_
    refine lv_istore (lv' := [(4, .int (i32 0)), (3, .int (i32 l3_6)), (2, .ref (gh G + r2)), (0, .ref (gh G + 0)), (1, .int (i32 l1))]) X.1 X.2.1 dX10_hearts_36 hl (by decide) rfl (fun ls hl => ?_)
    exact al_X10_hearts_38 X 5000 s3 H locs ls l1 r2 l3_6 0 hk_r2 hP hS hf (lv_sub hl [3, 4, 2, 1, 0] rfl)
  · replace hf := ie_inv q hf
    refine lv_aload_n X.1 X.2.1 dX10_hearts_7 rfl (lv_at hl 0 rfl) ?_
    refine r_ldc X (-1000001) (tb t_430 rfl) (by decide) dX10_hearts_8 ?_
    obtain ⟨r7, s8, hr7, hf⟩ := bd2_inv hf
    refine k_X10_tell X hP hS hl.1  hr7 (tb t_431 rfl) (by decide) (Nat.le_of_ble_eq_true rfl) dX10_hearts_10 (fun H locs hP hS => ?_)
    obtain ⟨rfl, rfl⟩ := so2_inv hf
    exact r_iret X hP hS dX10_hearts_13
set_option maxHeartbeats 4000000 in
theorem c_X10_hearts {l : Launch} {G : GT} {σ τ : Mem} {res : Int} {l1 : Int} (hf : X10_hearts σ l1 = some (res, τ)) : CT l yX10_hearts cX10_hearts 5 (some FieldType.int) 6 185 G [.ref (gh G + 0), .int (i32 l1)] σ τ (some (.int (i32 res))) := by
  refine CT.mk (own := RX10) (by decide) rfl (Nat.le_of_ble_eq_true rfl) ?_
  intro p e s m below meth c ls X hP hS hl
  have hl : lv_has ls 5 [(0, .ref (gh G + 0)), (1, .int (i32 l1))] := hl
  exact a_X10_hearts_0 X σ s.heap [] ls l1 hP hS hf hl
theorem k_X10_hearts {p : Program} {l : Launch} {e : Env} {R : Room} {s : State} {m : MethodId} {args : Array Value} {below : List Frame} {meth : Method} {c : Code} {H : Heap} {locs : List Loc} {Q : State → Prop} {cc : ByteArray} {nL : Nat} {own : String} {ret : Option FieldType} {fF fL : Nat} {G : GT} {pc idx : Nat} {ls : Array Slot} {rest : List Value} {σ τ : Mem} {res : Int} {l1 : Int} (X : CX p R s m args meth c cc nL own ret fF fL G) (hP : PW G σ H) (hS : va_S (AA G) s.heap H locs) (hls : ls.size = nL) (hf : X10_hearts σ l1 = some (res, τ)) (h1 : Cond.methodLink own idx yX10_hearts ∈ TB) (hR : 6 + 1 ≤ fF ∧ 8 + (5 + 11) + 185 ≤ fL) (hW : (rest.map fun v => v.category).sum ≤ 8) (hd : decode cc pc = .ok (.invokevirtual idx, 3)) (kk : ∀ (H1 : Heap) (locs1 : List Loc), PW G τ H1 → va_S (AA G) s.heap H1 locs1 → W p l e R s m args below meth c H1 locs1 0 0 Q (F0 m (pc + 3) ls (.int (i32 res) :: rest))) : W p l e R s m args below meth c H locs 0 0 Q (F0 m pc ls (.int (i32 l1) :: .ref (gh G + 0) :: rest)) := r_callV (n := 1) X hP hS hls (c_X10_hearts hf) h1 (tb t_882 rfl) (tb t_883 rfl) (tb t_75 rfl) (tb t_884 rfl) (by decide +kernel) hR (r_recv X hP (kd_lt ks_10 (by decide)) (cE_10 ks_10) rfl) rfl rfl hW hd kk
/-! X10_hold -/
theorem dX10_hold_0 : decode cX10_hold 0 = .ok (.iload_n 1, 1) := by decide +kernel
theorem dX10_hold_1 : decode cX10_hold 1 = .ok (.iconst 0, 1) := by decide +kernel
theorem dX10_hold_2 : decode cX10_hold 2 = .ok (.bipush 9, 2) := by decide +kernel
theorem dX10_hold_4 : decode cX10_hold 4 = .ok (.invokestatic 62, 3) := by decide +kernel
theorem dX10_hold_7 : decode cX10_hold 7 = .ok (.ifCond .eq 22, 3) := by decide +kernel
theorem dX10_hold_10 : decode cX10_hold 10 = .ok (.iload_n 2, 1) := by decide +kernel
theorem dX10_hold_11 : decode cX10_hold 11 = .ok (.iconst (-1), 1) := by decide +kernel
theorem dX10_hold_12 : decode cX10_hold 12 = .ok (.if_icmp .eq 24, 3) := by decide +kernel
theorem dX10_hold_15 : decode cX10_hold 15 = .ok (.aload_n 0, 1) := by decide +kernel
theorem dX10_hold_16 : decode cX10_hold 16 = .ok (.getfield 10, 3) := by decide +kernel
theorem dX10_hold_19 : decode cX10_hold 19 = .ok (.getfield 152, 3) := by decide +kernel
theorem dX10_hold_22 : decode cX10_hold 22 = .ok (.iload_n 2, 1) := by decide +kernel
theorem dX10_hold_23 : decode cX10_hold 23 = .ok (.invokevirtual 268, 3) := by decide +kernel
theorem dX10_hold_26 : decode cX10_hold 26 = .ok (.ifCond .ne 10, 3) := by decide +kernel
theorem dX10_hold_29 : decode cX10_hold 29 = .ok (.aload_n 0, 1) := by decide +kernel
theorem dX10_hold_30 : decode cX10_hold 30 = .ok (.ldc 72, 2) := by decide +kernel
theorem dX10_hold_32 : decode cX10_hold 32 = .ok (.invokevirtual 73, 3) := by decide +kernel
theorem dX10_hold_35 : decode cX10_hold 35 = .ok (.ireturn, 1) := by decide +kernel
theorem dX10_hold_36 : decode cX10_hold 36 = .ok (.aload_n 0, 1) := by decide +kernel
theorem dX10_hold_37 : decode cX10_hold 37 = .ok (.getfield 10, 3) := by decide +kernel
theorem dX10_hold_40 : decode cX10_hold 40 = .ok (.getfield 152, 3) := by decide +kernel
theorem dX10_hold_43 : decode cX10_hold 43 = .ok (.getfield 293, 3) := by decide +kernel
theorem dX10_hold_46 : decode cX10_hold 46 = .ok (.iload_n 1, 1) := by decide +kernel
theorem dX10_hold_47 : decode cX10_hold 47 = .ok (.iload_n 2, 1) := by decide +kernel
theorem dX10_hold_48 : decode cX10_hold 48 = .ok (.iastore, 1) := by decide +kernel
theorem dX10_hold_49 : decode cX10_hold 49 = .ok (.iconst 1, 1) := by decide +kernel
theorem dX10_hold_50 : decode cX10_hold 50 = .ok (.ireturn, 1) := by decide +kernel
def X10_hold_B36 (σ : Mem) (l1 : Int) (l2 : Int) : Option (Int × Mem) :=
  ag 10 l1 fun j1 =>
  lt (st σ 8 j1 l2) fun s2 =>
  some (1, s2)
def S_X10_hold_36 (fn : Mem → Int → Int → Option (Int × Mem)) (p : Program) (l : Launch) (e : Env) (R : Room) (s : State) (m : MethodId) (args : Array Value) (below : List Frame) (meth : Method) (c : Code) (G : GT) (τ : Mem) (res : Int) : Prop := ∀ (σ : Mem) (H : Heap) (locs : List Loc) (ls : Array Slot) (l1 : Int) (l2 : Int), PW G σ H → va_S (AA G) s.heap H locs → fn σ l1 l2 = some (res, τ) → lv_has ls 3 [(0, .ref (gh G + 0)), (1, .int (i32 l1)), (2, .int (i32 l2))] → W p l e R s m args below meth c H locs 0 0 (MQ below (QM G (some (.int (i32 res))) τ) args s 0 0 (AA G)) (F0 m 36 ls [])
def X10_hold_B29 (σ : Mem) : Option (Int × Mem) :=
  bd2 (X10_tell σ (-1000001)) fun r1 s2 =>
  some (r1, s2)
def S_X10_hold_29 (fn : Mem → Option (Int × Mem)) (p : Program) (l : Launch) (e : Env) (R : Room) (s : State) (m : MethodId) (args : Array Value) (below : List Frame) (meth : Method) (c : Code) (G : GT) (τ : Mem) (res : Int) : Prop := ∀ (σ : Mem) (H : Heap) (locs : List Loc) (ls : Array Slot), PW G σ H → va_S (AA G) s.heap H locs → fn σ = some (res, τ) → lv_has ls 3 [(0, .ref (gh G + 0))] → W p l e R s m args below meth c H locs 0 0 (MQ below (QM G (some (.int (i32 res))) τ) args s 0 0 (AA G)) (F0 m 29 ls [])
def X10_hold (σ : Mem) (l1 : Int) (l2 : Int) : Option (Int × Mem) :=
  bd (X10_within σ l1 0 9) fun r1 =>
  if w32 r1 = 0 then
    X10_hold_B29 σ
  else
  if w32 l2 = w32 (-1) then
    X10_hold_B36 σ l1 l2
  else
  bd (X0_has σ 4 l2) fun r2 =>
  if w32 r2 ≠ 0 then
    X10_hold_B36 σ l1 l2
  else
  X10_hold_B29 σ
def S_X10_hold_0 (fn : Mem → Int → Int → Option (Int × Mem)) (p : Program) (l : Launch) (e : Env) (R : Room) (s : State) (m : MethodId) (args : Array Value) (below : List Frame) (meth : Method) (c : Code) (G : GT) (τ : Mem) (res : Int) : Prop := ∀ (σ : Mem) (H : Heap) (locs : List Loc) (ls : Array Slot) (l1 : Int) (l2 : Int), PW G σ H → va_S (AA G) s.heap H locs → fn σ l1 l2 = some (res, τ) → lv_has ls 3 [(0, .ref (gh G + 0)), (1, .int (i32 l1)), (2, .int (i32 l2))] → W p l e R s m args below meth c H locs 0 0 (MQ below (QM G (some (.int (i32 res))) τ) args s 0 0 (AA G)) (F0 m 0 ls [])
set_option maxHeartbeats 4000000 in
theorem a_X10_hold_36 {p : Program} {l : Launch} {e : Env} {R : Room} {s : State} {m : MethodId} {args : Array Value} {below : List Frame} {meth : Method} {c : Code} {G : GT} {τ : Mem} {res : Int} (X : CX p R s m args meth c cX10_hold 3 RX10 (some FieldType.int) 3 104 G) : S_X10_hold_36 (X10_hold_B36) p l e R s m args below meth c G τ res := by
  intro σ H locs ls l1 l2 hP hS hf hl
  unfold X10_hold_B36 at hf
  refine lv_aload_n X.1 X.2.1 dX10_hold_36 rfl (lv_at hl 0 rfl) ?_
  refine g_10_0 (r := 1) X hP ks_10 rfl (tb t_388 rfl) dX10_hold_37 ?_
  refine g_7_2 (r := 4) X hP (ch_10_0 ks_10).1 rfl (tb t_174 rfl) dX10_hold_40 ?_
  refine g_0_4 (r := 8) X hP (ch_7_2 (ch_10_0 ks_10).1).1 rfl (tb t_133 rfl) dX10_hold_43 ?_
  refine lv_iload_n X.1 X.2.1 dX10_hold_46 rfl (lv_at hl 1 rfl) ?_
  refine lv_iload_n X.1 X.2.1 dX10_hold_47 rfl (lv_at hl 2 rfl) ?_
  obtain ⟨j1, hij1, hjj1, hlj1, hf⟩ := ag_inv hf
  refine r_iast X hP hS (ch_0_4 (ch_7_2 (ch_10_0 ks_10).1).1).1 (ch_0_4 (ch_7_2 (ch_10_0 ks_10).1).1).2 hij1 hjj1 dX10_hold_48 (fun H locs hP hS => ?_)
  obtain ⟨s2, es2, hf⟩ := lt_inv hf
  rw [es2] at hP
  refine r_iconst X 1 dX10_hold_49 ?_
  obtain ⟨rfl, rfl⟩ := so2_inv hf
  exact r_iret X hP hS dX10_hold_50
set_option maxHeartbeats 4000000 in
theorem a_X10_hold_29 {p : Program} {l : Launch} {e : Env} {R : Room} {s : State} {m : MethodId} {args : Array Value} {below : List Frame} {meth : Method} {c : Code} {G : GT} {τ : Mem} {res : Int} (X : CX p R s m args meth c cX10_hold 3 RX10 (some FieldType.int) 3 104 G) : S_X10_hold_29 (X10_hold_B29) p l e R s m args below meth c G τ res := by
  intro σ H locs ls hP hS hf hl
  unfold X10_hold_B29 at hf
  refine lv_aload_n X.1 X.2.1 dX10_hold_29 rfl (lv_at hl 0 rfl) ?_
  refine r_ldc X (-1000001) (tb t_430 rfl) (by decide) dX10_hold_30 ?_
  obtain ⟨r1, s2, hr1, hf⟩ := bd2_inv hf
  refine k_X10_tell X hP hS hl.1  hr1 (tb t_431 rfl) (by decide) (Nat.le_of_ble_eq_true rfl) dX10_hold_32 (fun H locs hP hS => ?_)
  obtain ⟨rfl, rfl⟩ := so2_inv hf
  exact r_iret X hP hS dX10_hold_35
set_option maxHeartbeats 4000000 in
theorem a_X10_hold_0 {p : Program} {l : Launch} {e : Env} {R : Room} {s : State} {m : MethodId} {args : Array Value} {below : List Frame} {meth : Method} {c : Code} {G : GT} {τ : Mem} {res : Int} (X : CX p R s m args meth c cX10_hold 3 RX10 (some FieldType.int) 3 104 G) : S_X10_hold_0 (X10_hold) p l e R s m args below meth c G τ res := by
  intro σ H locs ls l1 l2 hP hS hf hl
  unfold X10_hold at hf
  refine lv_iload_n X.1 X.2.1 dX10_hold_0 rfl (lv_at hl 1 rfl) ?_
  refine r_iconst X 0 dX10_hold_1 ?_
  refine r_bipush X 9 (by decide) dX10_hold_2 ?_
  obtain ⟨r1, hr1, hf⟩ := bd_inv hf
  refine k_X10_within X hP hS hl.1  hr1 (tb t_423 rfl) (by decide) (Nat.le_of_ble_eq_true rfl) dX10_hold_4 (fun H locs hP hS => ?_)
  refine r_if_eq (tgt := 29) X dX10_hold_7 (by decide) (fun q => ?_) (fun q => ?_)
  · replace hf := it_inv q hf
    exact a_X10_hold_29 X σ H locs ls  hP hS hf (lv_sub hl [0] rfl)
  · replace hf := ie_inv q hf
    refine lv_iload_n X.1 X.2.1 dX10_hold_10 rfl (lv_at hl 2 rfl) ?_
    refine r_iconst X (-1) dX10_hold_11 ?_
    refine r_icmp_eq (tgt := 36) X dX10_hold_12 (by decide) (fun q => ?_) (fun q => ?_)
    · replace hf := it_inv q hf
      exact a_X10_hold_36 X σ H locs ls l1 l2 hP hS hf hl
    · replace hf := ie_inv q hf
      refine lv_aload_n X.1 X.2.1 dX10_hold_15 rfl (lv_at hl 0 rfl) ?_
      refine g_10_0 (r := 1) X hP ks_10 rfl (tb t_388 rfl) dX10_hold_16 ?_
      refine g_7_2 (r := 4) X hP (ch_10_0 ks_10).1 rfl (tb t_174 rfl) dX10_hold_19 ?_
      refine lv_iload_n X.1 X.2.1 dX10_hold_22 rfl (lv_at hl 2 rfl) ?_
      obtain ⟨r2, hr2, hf⟩ := bd_inv hf
      refine k_X0_has X hP hS hl.1 (ch_7_2 (ch_10_0 ks_10).1).1 hr2 (tb t_935 rfl) (by decide) (Nat.le_of_ble_eq_true rfl) dX10_hold_23 (fun H locs hP hS => ?_)
      refine r_if_ne (tgt := 36) X dX10_hold_26 (by decide) (fun q => ?_) (fun q => ?_)
      · replace hf := it_inv q hf
        exact a_X10_hold_36 X σ H locs ls l1 l2 hP hS hf hl
      · replace hf := ie_inv q hf
        exact a_X10_hold_29 X σ H locs ls  hP hS hf (lv_sub hl [0] rfl)
set_option maxHeartbeats 4000000 in
theorem c_X10_hold {l : Launch} {G : GT} {σ τ : Mem} {res : Int} {l1 : Int} {l2 : Int} (hf : X10_hold σ l1 l2 = some (res, τ)) : CT l yX10_hold cX10_hold 3 (some FieldType.int) 3 104 G [.ref (gh G + 0), .int (i32 l1), .int (i32 l2)] σ τ (some (.int (i32 res))) := by
  refine CT.mk (own := RX10) (by decide) rfl (Nat.le_of_ble_eq_true rfl) ?_
  intro p e s m below meth c ls X hP hS hl
  have hl : lv_has ls 3 [(0, .ref (gh G + 0)), (1, .int (i32 l1)), (2, .int (i32 l2))] := hl
  exact a_X10_hold_0 X σ s.heap [] ls l1 l2 hP hS hf hl
theorem k_X10_hold {p : Program} {l : Launch} {e : Env} {R : Room} {s : State} {m : MethodId} {args : Array Value} {below : List Frame} {meth : Method} {c : Code} {H : Heap} {locs : List Loc} {Q : State → Prop} {cc : ByteArray} {nL : Nat} {own : String} {ret : Option FieldType} {fF fL : Nat} {G : GT} {pc idx : Nat} {ls : Array Slot} {rest : List Value} {σ τ : Mem} {res : Int} {l1 : Int} {l2 : Int} (X : CX p R s m args meth c cc nL own ret fF fL G) (hP : PW G σ H) (hS : va_S (AA G) s.heap H locs) (hls : ls.size = nL) (hf : X10_hold σ l1 l2 = some (res, τ)) (h1 : Cond.methodLink own idx yX10_hold ∈ TB) (hR : 3 + 1 ≤ fF ∧ 8 + (3 + 11) + 104 ≤ fL) (hW : (rest.map fun v => v.category).sum ≤ 8) (hd : decode cc pc = .ok (.invokevirtual idx, 3)) (kk : ∀ (H1 : Heap) (locs1 : List Loc), PW G τ H1 → va_S (AA G) s.heap H1 locs1 → W p l e R s m args below meth c H1 locs1 0 0 Q (F0 m (pc + 3) ls (.int (i32 res) :: rest))) : W p l e R s m args below meth c H locs 0 0 Q (F0 m pc ls (.int (i32 l2) :: .int (i32 l1) :: .ref (gh G + 0) :: rest)) := r_callV (n := 2) X hP hS hls (c_X10_hold hf) h1 (tb t_980 rfl) (tb t_981 rfl) (tb t_75 rfl) (tb t_982 rfl) (by decide +kernel) hR (r_recv X hP (kd_lt ks_10 (by decide)) (cE_10 ks_10) rfl) rfl rfl hW hd kk
/-! X5_become -/
theorem dX5_become_0 : decode cX5_become 0 = .ok (.aload_n 1, 1) := by decide +kernel
theorem dX5_become_1 : decode cX5_become 1 = .ok (.getfield 9, 3) := by decide +kernel
theorem dX5_become_4 : decode cX5_become 4 = .ok (.iconst 0, 1) := by decide +kernel
theorem dX5_become_5 : decode cX5_become 5 = .ok (.aload_n 0, 1) := by decide +kernel
theorem dX5_become_6 : decode cX5_become 6 = .ok (.getfield 9, 3) := by decide +kernel
theorem dX5_become_9 : decode cX5_become 9 = .ok (.iconst 0, 1) := by decide +kernel
theorem dX5_become_10 : decode cX5_become 10 = .ok (.aload_n 0, 1) := by decide +kernel
theorem dX5_become_11 : decode cX5_become 11 = .ok (.getfield 9, 3) := by decide +kernel
theorem dX5_become_14 : decode cX5_become 14 = .ok (.arraylength, 1) := by decide +kernel
theorem dX5_become_15 : decode cX5_become 15 = .ok (.invokestatic 22, 3) := by decide +kernel
theorem dX5_become_18 : decode cX5_become 18 = .ok (.aload_n 1, 1) := by decide +kernel
theorem dX5_become_19 : decode cX5_become 19 = .ok (.getfield 15, 3) := by decide +kernel
theorem dX5_become_22 : decode cX5_become 22 = .ok (.iconst 0, 1) := by decide +kernel
theorem dX5_become_23 : decode cX5_become 23 = .ok (.aload_n 0, 1) := by decide +kernel
theorem dX5_become_24 : decode cX5_become 24 = .ok (.getfield 15, 3) := by decide +kernel
theorem dX5_become_27 : decode cX5_become 27 = .ok (.iconst 0, 1) := by decide +kernel
theorem dX5_become_28 : decode cX5_become 28 = .ok (.aload_n 1, 1) := by decide +kernel
theorem dX5_become_29 : decode cX5_become 29 = .ok (.getfield 18, 3) := by decide +kernel
theorem dX5_become_32 : decode cX5_become 32 = .ok (.iconst 4, 1) := by decide +kernel
theorem dX5_become_33 : decode cX5_become 33 = .ok (.imul, 1) := by decide +kernel
theorem dX5_become_34 : decode cX5_become 34 = .ok (.invokestatic 22, 3) := by decide +kernel
theorem dX5_become_37 : decode cX5_become 37 = .ok (.aload_n 0, 1) := by decide +kernel
theorem dX5_become_38 : decode cX5_become 38 = .ok (.aload_n 1, 1) := by decide +kernel
theorem dX5_become_39 : decode cX5_become 39 = .ok (.getfield 18, 3) := by decide +kernel
theorem dX5_become_42 : decode cX5_become 42 = .ok (.putfield 18, 3) := by decide +kernel
theorem dX5_become_45 : decode cX5_become 45 = .ok (.return_, 1) := by decide +kernel
def X5_become (σ : Mem) (l0 : Nat) (l1 : Nat) : Option (Mem) :=
  ac 4 4 0 0 ((4 : Nat) : Int) <|
  lt (cpy σ (l1 + 1) (w32 0).toNat (l0 + 1) (w32 0).toNat (w32 ((4 : Nat) : Int)).toNat) fun s2 =>
  ac 160 160 0 0 ((s2 l1 2) * 4) <|
  lt (cpy s2 (l1 + 2) (w32 0).toNat (l0 + 2) (w32 0).toNat (w32 ((s2 l1 2) * 4)).toNat) fun s4 =>
  lt (st s4 l0 2 (s4 l1 2)) fun s5 =>
  some s5
def S_X5_become_0 (fn : Mem → Nat → Nat → Option (Mem)) (p : Program) (l : Launch) (e : Env) (R : Room) (s : State) (m : MethodId) (args : Array Value) (below : List Frame) (meth : Method) (c : Code) (G : GT) (τ : Mem) : Prop := ∀ (σ : Mem) (H : Heap) (locs : List Loc) (ls : Array Slot) (l0 : Nat) (l1 : Nat), kd l0 = 5 → kd l1 = 5 → PW G σ H → va_S (AA G) s.heap H locs → fn σ l0 l1 = some τ → lv_has ls 2 [(0, .ref (gh G + l0)), (1, .ref (gh G + l1))] → W p l e R s m args below meth c H locs 0 0 (MQ below (QM G none τ) args s 0 0 (AA G)) (F0 m 0 ls [])
set_option maxHeartbeats 4000000 in
theorem a_X5_become_0 {p : Program} {l : Launch} {e : Env} {R : Room} {s : State} {m : MethodId} {args : Array Value} {below : List Frame} {meth : Method} {c : Code} {G : GT} {τ : Mem} (X : CX p R s m args meth c cX5_become 2 RX5 none 1 60 G) : S_X5_become_0 (X5_become) p l e R s m args below meth c G τ := by
  intro σ H locs ls l0 l1 hk_l0 hk_l1 hP hS hf hl
  unfold X5_become at hf
  refine lv_aload_n X.1 X.2.1 dX5_become_0 rfl (lv_at hl 1 rfl) ?_
  refine g_5_0 (r := l1 + 1) X hP hk_l1 rfl (tb t_151 rfl) dX5_become_1 ?_
  refine r_iconst X 0 dX5_become_4 ?_
  refine lv_aload_n X.1 X.2.1 dX5_become_5 rfl (lv_at hl 0 rfl) ?_
  refine g_5_0 (r := l0 + 1) X hP hk_l0 rfl (tb t_151 rfl) dX5_become_6 ?_
  refine r_iconst X 0 dX5_become_9 ?_
  refine lv_aload_n X.1 X.2.1 dX5_become_10 rfl (lv_at hl 0 rfl) ?_
  refine g_5_0 (r := l0 + 1) X hP hk_l0 rfl (tb t_151 rfl) dX5_become_11 ?_
  refine r_alen13 X hP (ch_5_0 hk_l0).1 (ch_5_0 hk_l0).2 dX5_become_14 ?_
  obtain ⟨hc1, hf⟩ := ac_inv hf
  refine r_acopy X hl.1 hP hS (tb t_627 rfl) (tb t_618 rfl) (tb t_617 rfl) (tb t_93 rfl) (by decide) (Nat.le_of_ble_eq_true rfl) (ch_5_0 hk_l1).1 (ch_5_0 hk_l1).2 (ch_5_0 hk_l0).1 (ch_5_0 hk_l0).2 hc1 dX5_become_15 (fun H locs hP hS => ?_)
  obtain ⟨s2, es2, hf⟩ := lt_inv hf
  rw [es2] at hP
  refine lv_aload_n X.1 X.2.1 dX5_become_18 rfl (lv_at hl 1 rfl) ?_
  refine g_5_1 (r := l1 + 2) X hP hk_l1 rfl (tb t_154 rfl) dX5_become_19 ?_
  refine r_iconst X 0 dX5_become_22 ?_
  refine lv_aload_n X.1 X.2.1 dX5_become_23 rfl (lv_at hl 0 rfl) ?_
  refine g_5_1 (r := l0 + 2) X hP hk_l0 rfl (tb t_154 rfl) dX5_become_24 ?_
  refine r_iconst X 0 dX5_become_27 ?_
  refine lv_aload_n X.1 X.2.1 dX5_become_28 rfl (lv_at hl 1 rfl) ?_
  refine g_5_2 X hP hk_l1 (tb t_156 rfl) dX5_become_29 ?_
  refine r_iconst X 4 dX5_become_32 ?_
  refine r_imul X dX5_become_33 ?_
  obtain ⟨hc3, hf⟩ := ac_inv hf
  refine r_acopy X hl.1 hP hS (tb t_627 rfl) (tb t_618 rfl) (tb t_617 rfl) (tb t_93 rfl) (by decide) (Nat.le_of_ble_eq_true rfl) (ch_5_1 hk_l1).1 (ch_5_1 hk_l1).2 (ch_5_1 hk_l0).1 (ch_5_1 hk_l0).2 hc3 dX5_become_34 (fun H locs hP hS => ?_)
  obtain ⟨s4, es4, hf⟩ := lt_inv hf
  rw [es4] at hP
  refine lv_aload_n X.1 X.2.1 dX5_become_37 rfl (lv_at hl 0 rfl) ?_
  refine lv_aload_n X.1 X.2.1 dX5_become_38 rfl (lv_at hl 1 rfl) ?_
  refine g_5_2 X hP hk_l1 (tb t_156 rfl) dX5_become_39 ?_
  refine p_5_2 X hP hS hk_l0 (tb t_156 rfl) dX5_become_42 (fun H locs hP hS => ?_)
  obtain ⟨s5, es5, hf⟩ := lt_inv hf
  rw [es5] at hP
  cases so_inv hf
  exact r_vret X hP hS dX5_become_45
set_option maxHeartbeats 4000000 in
theorem c_X5_become {l : Launch} {G : GT} {σ τ : Mem} {l0 : Nat} {l1 : Nat} (hk_l0 : kd l0 = 5) (hk_l1 : kd l1 = 5) (hf : X5_become σ l0 l1 = some τ) : CT l yX5_become cX5_become 2 none 1 60 G [.ref (gh G + l0), .ref (gh G + l1)] σ τ none := by
  refine CT.mk (own := RX5) (by decide) rfl (Nat.le_of_ble_eq_true rfl) ?_
  intro p e s m below meth c ls X hP hS hl
  have hl : lv_has ls 2 [(0, .ref (gh G + l0)), (1, .ref (gh G + l1))] := hl
  exact a_X5_become_0 X σ s.heap [] ls l0 l1 hk_l0 hk_l1 hP hS hf hl
theorem k_X5_become {p : Program} {l : Launch} {e : Env} {R : Room} {s : State} {m : MethodId} {args : Array Value} {below : List Frame} {meth : Method} {c : Code} {H : Heap} {locs : List Loc} {Q : State → Prop} {cc : ByteArray} {nL : Nat} {own : String} {ret : Option FieldType} {fF fL : Nat} {G : GT} {pc idx : Nat} {ls : Array Slot} {rest : List Value} {σ τ : Mem} {l0 : Nat} {l1 : Nat} (X : CX p R s m args meth c cc nL own ret fF fL G) (hP : PW G σ H) (hS : va_S (AA G) s.heap H locs) (hls : ls.size = nL) (hk_l0 : kd l0 = 5) (hk_l1 : kd l1 = 5) (hf : X5_become σ l0 l1 = some τ) (h1 : Cond.methodLink own idx yX5_become ∈ TB) (hR : 1 + 1 ≤ fF ∧ 8 + (2 + 11) + 60 ≤ fL) (hW : (rest.map fun v => v.category).sum ≤ 8) (hd : decode cc pc = .ok (.invokevirtual idx, 3)) (kk : ∀ (H1 : Heap) (locs1 : List Loc), PW G τ H1 → va_S (AA G) s.heap H1 locs1 → W p l e R s m args below meth c H1 locs1 0 0 Q (F0 m (pc + 3) ls (rest))) : W p l e R s m args below meth c H locs 0 0 Q (F0 m pc ls (.ref (gh G + l1) :: .ref (gh G + l0) :: rest)) := r_callV (n := 1) X hP hS hls (c_X5_become hk_l0 hk_l1 hf) h1 (tb t_1045 rfl) (tb t_1046 rfl) (tb t_79 rfl) (tb t_1047 rfl) (by decide +kernel) hR (r_recv X hP (kd_lt hk_l0 (by decide)) (cE_5 hk_l0) rfl) rfl rfl hW hd kk
/-! X7_become -/
theorem dX7_become_0 : decode cX7_become 0 = .ok (.iconst 0, 1) := by decide +kernel
theorem dX7_become_1 : decode cX7_become 1 = .ok (.istore_n 2, 1) := by decide +kernel
theorem dX7_become_2 : decode cX7_become 2 = .ok (.iload_n 2, 1) := by decide +kernel
theorem dX7_become_3 : decode cX7_become 3 = .ok (.iconst 4, 1) := by decide +kernel
theorem dX7_become_4 : decode cX7_become 4 = .ok (.if_icmp .ge 24, 3) := by decide +kernel
theorem dX7_become_7 : decode cX7_become 7 = .ok (.aload_n 0, 1) := by decide +kernel
theorem dX7_become_8 : decode cX7_become 8 = .ok (.getfield 11, 3) := by decide +kernel
theorem dX7_become_11 : decode cX7_become 11 = .ok (.iload_n 2, 1) := by decide +kernel
theorem dX7_become_12 : decode cX7_become 12 = .ok (.aaload, 1) := by decide +kernel
theorem dX7_become_13 : decode cX7_become 13 = .ok (.aload_n 1, 1) := by decide +kernel
theorem dX7_become_14 : decode cX7_become 14 = .ok (.getfield 11, 3) := by decide +kernel
theorem dX7_become_17 : decode cX7_become 17 = .ok (.iload_n 2, 1) := by decide +kernel
theorem dX7_become_18 : decode cX7_become 18 = .ok (.aaload, 1) := by decide +kernel
theorem dX7_become_19 : decode cX7_become 19 = .ok (.invokevirtual 29, 3) := by decide +kernel
theorem dX7_become_22 : decode cX7_become 22 = .ok (.iinc 2 1, 3) := by decide +kernel
theorem dX7_become_25 : decode cX7_become 25 = .ok (.goto (-23), 3) := by decide +kernel
theorem dX7_become_28 : decode cX7_become 28 = .ok (.aload_n 1, 1) := by decide +kernel
theorem dX7_become_29 : decode cX7_become 29 = .ok (.getfield 17, 3) := by decide +kernel
theorem dX7_become_32 : decode cX7_become 32 = .ok (.iconst 0, 1) := by decide +kernel
theorem dX7_become_33 : decode cX7_become 33 = .ok (.aload_n 0, 1) := by decide +kernel
theorem dX7_become_34 : decode cX7_become 34 = .ok (.getfield 17, 3) := by decide +kernel
theorem dX7_become_37 : decode cX7_become 37 = .ok (.iconst 0, 1) := by decide +kernel
theorem dX7_become_38 : decode cX7_become 38 = .ok (.aload_n 0, 1) := by decide +kernel
theorem dX7_become_39 : decode cX7_become 39 = .ok (.getfield 17, 3) := by decide +kernel
theorem dX7_become_42 : decode cX7_become 42 = .ok (.arraylength, 1) := by decide +kernel
theorem dX7_become_43 : decode cX7_become 43 = .ok (.invokestatic 33, 3) := by decide +kernel
theorem dX7_become_46 : decode cX7_become 46 = .ok (.aload_n 0, 1) := by decide +kernel
theorem dX7_become_47 : decode cX7_become 47 = .ok (.getfield 24, 3) := by decide +kernel
theorem dX7_become_50 : decode cX7_become 50 = .ok (.aload_n 1, 1) := by decide +kernel
theorem dX7_become_51 : decode cX7_become 51 = .ok (.getfield 24, 3) := by decide +kernel
theorem dX7_become_54 : decode cX7_become 54 = .ok (.invokevirtual 39, 3) := by decide +kernel
theorem dX7_become_57 : decode cX7_become 57 = .ok (.return_, 1) := by decide +kernel
def S_X7_become_2 (fn : Mem → Nat → Nat → Int → Option (Mem)) (p : Program) (l : Launch) (e : Env) (R : Room) (s : State) (m : MethodId) (args : Array Value) (below : List Frame) (meth : Method) (c : Code) (G : GT) (τ : Mem) : Prop := ∀ (σ : Mem) (H : Heap) (locs : List Loc) (ls : Array Slot) (l0 : Nat) (l1 : Nat) (l2 : Int), kd l0 = 7 → kd l1 = 7 → PW G σ H → va_S (AA G) s.heap H locs → fn σ l0 l1 l2 = some τ → lv_has ls 3 [(0, .ref (gh G + l0)), (1, .ref (gh G + l1)), (2, .int (i32 l2))] → W p l e R s m args below meth c H locs 0 0 (MQ below (QM G none τ) args s 0 0 (AA G)) (F0 m 2 ls [])
def X7_become_B2 (rec2 : Mem → Nat → Nat → Int → Option (Mem)) (σ : Mem) (l0 : Nat) (l1 : Nat) (l2 : Int) : Option (Mem) :=
  if w32 4 ≤ w32 l2 then
    ac 5 5 0 0 ((5 : Nat) : Int) <|
    lt (cpy σ (l1 + 2) (w32 0).toNat (l0 + 2) (w32 0).toNat (w32 ((5 : Nat) : Int)).toNat) fun s2 =>
    bd (X0_become s2 (l0 + 3) (l1 + 3)) fun s4 =>
    some s4
  else
  ag 4 l2 fun j5 =>
  ag 4 l2 fun j6 =>
  bd (X5_become σ (l0 + 1 + 7 + 3 * j5) (l1 + 1 + 7 + 3 * j6)) fun s8 =>
  lt (l2 + 1) fun l2_9 =>
  rec2 s8 l0 l1 l2_9
def X7_become_L2 : Nat → Mem → Nat → Nat → Int → Option (Mem)
  | 0 => fun _ _ _ _ => none
  | n + 1 => X7_become_B2 (X7_become_L2 n)
def X7_become (σ : Mem) (l0 : Nat) (l1 : Nat) : Option (Mem) :=
  X7_become_L2 5000 σ l0 l1 0
def S_X7_become_0 (fn : Mem → Nat → Nat → Option (Mem)) (p : Program) (l : Launch) (e : Env) (R : Room) (s : State) (m : MethodId) (args : Array Value) (below : List Frame) (meth : Method) (c : Code) (G : GT) (τ : Mem) : Prop := ∀ (σ : Mem) (H : Heap) (locs : List Loc) (ls : Array Slot) (l0 : Nat) (l1 : Nat), kd l0 = 7 → kd l1 = 7 → PW G σ H → va_S (AA G) s.heap H locs → fn σ l0 l1 = some τ → lv_has ls 3 [(0, .ref (gh G + l0)), (1, .ref (gh G + l1))] → W p l e R s m args below meth c H locs 0 0 (MQ below (QM G none τ) args s 0 0 (AA G)) (F0 m 0 ls [])
set_option maxHeartbeats 4000000 in
theorem a_X7_become_2 {p : Program} {l : Launch} {e : Env} {R : Room} {s : State} {m : MethodId} {args : Array Value} {below : List Frame} {meth : Method} {c : Code} {G : GT} {τ : Mem} {rec2 : Mem → Nat → Nat → Int → Option (Mem)} (X : CX p R s m args meth c cX7_become 3 RX7 none 2 81 G) (h2 : S_X7_become_2 rec2 p l e R s m args below meth c G τ) : S_X7_become_2 (X7_become_B2 rec2) p l e R s m args below meth c G τ := by
  intro σ H locs ls l0 l1 l2 hk_l0 hk_l1 hP hS hf hl
  unfold X7_become_B2 at hf
  refine lv_iload_n X.1 X.2.1 dX7_become_2 rfl (lv_at hl 2 rfl) ?_
  refine r_iconst X 4 dX7_become_3 ?_
  refine r_icmp_ge (tgt := 28) X dX7_become_4 (by decide) (fun q => ?_) (fun q => ?_)
  · replace hf := it_inv q hf
    refine lv_aload_n X.1 X.2.1 dX7_become_28 rfl (lv_at hl 1 rfl) ?_
    refine g_7_1 (r := l1 + 2) X hP hk_l1 rfl (tb t_171 rfl) dX7_become_29 ?_
    refine r_iconst X 0 dX7_become_32 ?_
    refine lv_aload_n X.1 X.2.1 dX7_become_33 rfl (lv_at hl 0 rfl) ?_
    refine g_7_1 (r := l0 + 2) X hP hk_l0 rfl (tb t_171 rfl) dX7_become_34 ?_
    refine r_iconst X 0 dX7_become_37 ?_
    refine lv_aload_n X.1 X.2.1 dX7_become_38 rfl (lv_at hl 0 rfl) ?_
    refine g_7_1 (r := l0 + 2) X hP hk_l0 rfl (tb t_171 rfl) dX7_become_39 ?_
    refine r_alen13 X hP (ch_7_1 hk_l0).1 (ch_7_1 hk_l0).2 dX7_become_42 ?_
    obtain ⟨hc1, hf⟩ := ac_inv hf
    refine r_acopy X hl.1 hP hS (tb t_1048 rfl) (tb t_618 rfl) (tb t_617 rfl) (tb t_93 rfl) (by decide) (Nat.le_of_ble_eq_true rfl) (ch_7_1 hk_l1).1 (ch_7_1 hk_l1).2 (ch_7_1 hk_l0).1 (ch_7_1 hk_l0).2 hc1 dX7_become_43 (fun H locs hP hS => ?_)
    obtain ⟨s2, es2, hf⟩ := lt_inv hf
    rw [es2] at hP
    refine lv_aload_n X.1 X.2.1 dX7_become_46 rfl (lv_at hl 0 rfl) ?_
    refine g_7_2 (r := l0 + 3) X hP hk_l0 rfl (tb t_173 rfl) dX7_become_47 ?_
    refine lv_aload_n X.1 X.2.1 dX7_become_50 rfl (lv_at hl 1 rfl) ?_
    refine g_7_2 (r := l1 + 3) X hP hk_l1 rfl (tb t_173 rfl) dX7_become_51 ?_
    obtain ⟨s4, hr3, hf⟩ := bd_inv hf
    refine k_X0_become X hP hS hl.1 (ch_7_2 hk_l0).1 (ch_7_2 hk_l1).1 hr3 (tb t_1049 rfl) (by decide) (Nat.le_of_ble_eq_true rfl) dX7_become_54 (fun H locs hP hS => ?_)
    cases so_inv hf
    exact r_vret X hP hS dX7_become_57
  · replace hf := ie_inv q hf
    refine lv_aload_n X.1 X.2.1 dX7_become_7 rfl (lv_at hl 0 rfl) ?_
    refine g_7_0 (r := l0 + 1) X hP hk_l0 rfl (tb t_168 rfl) dX7_become_8 ?_
    refine lv_iload_n X.1 X.2.1 dX7_become_11 rfl (lv_at hl 2 rfl) ?_
    obtain ⟨j5, hij5, hjj5, hlj5, hf⟩ := ag_inv hf
    refine r_aald18 (r := l0 + 1 + 7 + 3 * j5) X hP (ch_7_0 hk_l0).1 (ch_7_0 hk_l0).2 hij5 hjj5 rfl dX7_become_12 ?_
    refine lv_aload_n X.1 X.2.1 dX7_become_13 rfl (lv_at hl 1 rfl) ?_
    refine g_7_0 (r := l1 + 1) X hP hk_l1 rfl (tb t_168 rfl) dX7_become_14 ?_
    refine lv_iload_n X.1 X.2.1 dX7_become_17 rfl (lv_at hl 2 rfl) ?_
    obtain ⟨j6, hij6, hjj6, hlj6, hf⟩ := ag_inv hf
    refine r_aald18 (r := l1 + 1 + 7 + 3 * j6) X hP (ch_7_0 hk_l1).1 (ch_7_0 hk_l1).2 hij6 hjj6 rfl dX7_become_18 ?_
    obtain ⟨s8, hr7, hf⟩ := bd_inv hf
    refine k_X5_become X hP hS hl.1 ((ch_18 (ch_7_0 hk_l0).1).2 j5 hlj5) ((ch_18 (ch_7_0 hk_l1).1).2 j6 hlj6) hr7 (tb t_1044 rfl) (by decide) (Nat.le_of_ble_eq_true rfl) dX7_become_19 (fun H locs hP hS => ?_)
    obtain ⟨l2_9, el2_9, hf⟩ := lt_inv hf
    refine lv_iinc (v := i32 l2_9) (lv' := [(2, .int (i32 l2_9)), (0, .ref (gh G + l0)), (1, .ref (gh G + l1))]) X.1 X.2.1 dX7_become_22 hl (k := 2) rfl (by rw [← el2_9]; exact i32_add _ _) (by decide) rfl (fun ls hl => ?_)
    refine lv_goto (tgt := 2) X.1 X.2.1 dX7_become_25 (by decide) ?_
    exact h2 s8 H locs ls l0 l1 l2_9 hk_l0 hk_l1 hP hS hf (lv_sub hl [1, 2, 0] rfl)
theorem al_X7_become_2 {p : Program} {l : Launch} {e : Env} {R : Room} {s : State} {m : MethodId} {args : Array Value} {below : List Frame} {meth : Method} {c : Code} {G : GT} {τ : Mem} (X : CX p R s m args meth c cX7_become 3 RX7 none 2 81 G) : ∀ n, S_X7_become_2 (X7_become_L2 n) p l e R s m args below meth c G τ := by
  intro n
  induction n with
  | zero =>
    intro σ H locs ls l0 l1 l2 hk_l0 hk_l1 hP hS hf hl
    cases hf
  | succ n ih => exact a_X7_become_2 X ih
set_option maxHeartbeats 4000000 in
theorem a_X7_become_0 {p : Program} {l : Launch} {e : Env} {R : Room} {s : State} {m : MethodId} {args : Array Value} {below : List Frame} {meth : Method} {c : Code} {G : GT} {τ : Mem} (X : CX p R s m args meth c cX7_become 3 RX7 none 2 81 G) : S_X7_become_0 (X7_become) p l e R s m args below meth c G τ := by
  intro σ H locs ls l0 l1 hk_l0 hk_l1 hP hS hf hl
  unfold X7_become at hf
  refine r_iconst X 0 dX7_become_0 ?_
  refine lv_istore_n (lv' := [(2, .int (i32 0)), (0, .ref (gh G + l0)), (1, .ref (gh G + l1))]) X.1 X.2.1 dX7_become_1 rfl hl (by decide) rfl (fun ls hl => ?_)
  exact al_X7_become_2 X 5000 σ H locs ls l0 l1 0 hk_l0 hk_l1 hP hS hf (lv_sub hl [1, 2, 0] rfl)
set_option maxHeartbeats 4000000 in
theorem c_X7_become {l : Launch} {G : GT} {σ τ : Mem} {l0 : Nat} {l1 : Nat} (hk_l0 : kd l0 = 7) (hk_l1 : kd l1 = 7) (hf : X7_become σ l0 l1 = some τ) : CT l yX7_become cX7_become 3 none 2 81 G [.ref (gh G + l0), .ref (gh G + l1)] σ τ none := by
  refine CT.mk (own := RX7) (by decide) rfl (Nat.le_of_ble_eq_true rfl) ?_
  intro p e s m below meth c ls X hP hS hl
  have hl : lv_has ls 3 [(0, .ref (gh G + l0)), (1, .ref (gh G + l1))] := hl
  exact a_X7_become_0 X σ s.heap [] ls l0 l1 hk_l0 hk_l1 hP hS hf hl
theorem k_X7_become {p : Program} {l : Launch} {e : Env} {R : Room} {s : State} {m : MethodId} {args : Array Value} {below : List Frame} {meth : Method} {c : Code} {H : Heap} {locs : List Loc} {Q : State → Prop} {cc : ByteArray} {nL : Nat} {own : String} {ret : Option FieldType} {fF fL : Nat} {G : GT} {pc idx : Nat} {ls : Array Slot} {rest : List Value} {σ τ : Mem} {l0 : Nat} {l1 : Nat} (X : CX p R s m args meth c cc nL own ret fF fL G) (hP : PW G σ H) (hS : va_S (AA G) s.heap H locs) (hls : ls.size = nL) (hk_l0 : kd l0 = 7) (hk_l1 : kd l1 = 7) (hf : X7_become σ l0 l1 = some τ) (h1 : Cond.methodLink own idx yX7_become ∈ TB) (hR : 2 + 1 ≤ fF ∧ 8 + (3 + 11) + 81 ≤ fL) (hW : (rest.map fun v => v.category).sum ≤ 8) (hd : decode cc pc = .ok (.invokevirtual idx, 3)) (kk : ∀ (H1 : Heap) (locs1 : List Loc), PW G τ H1 → va_S (AA G) s.heap H1 locs1 → W p l e R s m args below meth c H1 locs1 0 0 Q (F0 m (pc + 3) ls (rest))) : W p l e R s m args below meth c H locs 0 0 Q (F0 m pc ls (.ref (gh G + l1) :: .ref (gh G + l0) :: rest)) := r_callV (n := 1) X hP hS hls (c_X7_become hk_l0 hk_l1 hf) h1 (tb t_1041 rfl) (tb t_1042 rfl) (tb t_76 rfl) (tb t_1043 rfl) (by decide +kernel) hR (r_recv X hP (kd_lt hk_l0 (by decide)) (cE_7 hk_l0) rfl) rfl rfl hW hd kk
/-! X10_image -/
theorem dX10_image_0 : decode cX10_image 0 = .ok (.aload_n 0, 1) := by decide +kernel
theorem dX10_image_1 : decode cX10_image 1 = .ok (.getfield 16, 3) := by decide +kernel
theorem dX10_image_4 : decode cX10_image 4 = .ok (.aload_n 0, 1) := by decide +kernel
theorem dX10_image_5 : decode cX10_image 5 = .ok (.getfield 10, 3) := by decide +kernel
theorem dX10_image_8 : decode cX10_image 8 = .ok (.invokevirtual 332, 3) := by decide +kernel
theorem dX10_image_11 : decode cX10_image 11 = .ok (.aload_n 0, 1) := by decide +kernel
theorem dX10_image_12 : decode cX10_image 12 = .ok (.iconst 1, 1) := by decide +kernel
theorem dX10_image_13 : decode cX10_image 13 = .ok (.putfield 336, 3) := by decide +kernel
theorem dX10_image_16 : decode cX10_image 16 = .ok (.iconst 1, 1) := by decide +kernel
theorem dX10_image_17 : decode cX10_image 17 = .ok (.ireturn, 1) := by decide +kernel
def X10_image (σ : Mem) : Option (Int × Mem) :=
  bd (X7_become σ 21 1) fun s2 =>
  lt (st s2 0 2 1) fun s3 =>
  some (1, s3)
def S_X10_image_0 (fn : Mem → Option (Int × Mem)) (p : Program) (l : Launch) (e : Env) (R : Room) (s : State) (m : MethodId) (args : Array Value) (below : List Frame) (meth : Method) (c : Code) (G : GT) (τ : Mem) (res : Int) : Prop := ∀ (σ : Mem) (H : Heap) (locs : List Loc) (ls : Array Slot), PW G σ H → va_S (AA G) s.heap H locs → fn σ = some (res, τ) → lv_has ls 1 [(0, .ref (gh G + 0))] → W p l e R s m args below meth c H locs 0 0 (MQ below (QM G (some (.int (i32 res))) τ) args s 0 0 (AA G)) (F0 m 0 ls [])
set_option maxHeartbeats 4000000 in
theorem a_X10_image_0 {p : Program} {l : Launch} {e : Env} {R : Room} {s : State} {m : MethodId} {args : Array Value} {below : List Frame} {meth : Method} {c : Code} {G : GT} {τ : Mem} {res : Int} (X : CX p R s m args meth c cX10_image 1 RX10 (some FieldType.int) 3 103 G) : S_X10_image_0 (X10_image) p l e R s m args below meth c G τ res := by
  intro σ H locs ls hP hS hf hl
  unfold X10_image at hf
  refine lv_aload_n X.1 X.2.1 dX10_image_0 rfl (lv_at hl 0 rfl) ?_
  refine g_10_1 (r := 21) X hP ks_10 rfl (tb t_389 rfl) dX10_image_1 ?_
  refine lv_aload_n X.1 X.2.1 dX10_image_4 rfl (lv_at hl 0 rfl) ?_
  refine g_10_0 (r := 1) X hP ks_10 rfl (tb t_388 rfl) dX10_image_5 ?_
  obtain ⟨s2, hr1, hf⟩ := bd_inv hf
  refine k_X7_become X hP hS hl.1 (ch_10_1 ks_10).1 (ch_10_0 ks_10).1 hr1 (tb t_1040 rfl) (by decide) (Nat.le_of_ble_eq_true rfl) dX10_image_8 (fun H locs hP hS => ?_)
  refine lv_aload_n X.1 X.2.1 dX10_image_11 rfl (lv_at hl 0 rfl) ?_
  refine r_iconst X 1 dX10_image_12 ?_
  refine p_10_2 X hP hS (Or.inr rfl) ks_10 (tb t_390 rfl) dX10_image_13 (fun H locs hP hS => ?_)
  obtain ⟨s3, es3, hf⟩ := lt_inv hf
  rw [es3] at hP
  refine r_iconst X 1 dX10_image_16 ?_
  obtain ⟨rfl, rfl⟩ := so2_inv hf
  exact r_iret X hP hS dX10_image_17
set_option maxHeartbeats 4000000 in
theorem c_X10_image {l : Launch} {G : GT} {σ τ : Mem} {res : Int} (hf : X10_image σ = some (res, τ)) : CT l yX10_image cX10_image 1 (some FieldType.int) 3 103 G [.ref (gh G + 0)] σ τ (some (.int (i32 res))) := by
  refine CT.mk (own := RX10) (by decide) rfl (Nat.le_of_ble_eq_true rfl) ?_
  intro p e s m below meth c ls X hP hS hl
  have hl : lv_has ls 1 [(0, .ref (gh G + 0))] := hl
  exact a_X10_image_0 X σ s.heap [] ls hP hS hf hl
theorem k_X10_image {p : Program} {l : Launch} {e : Env} {R : Room} {s : State} {m : MethodId} {args : Array Value} {below : List Frame} {meth : Method} {c : Code} {H : Heap} {locs : List Loc} {Q : State → Prop} {cc : ByteArray} {nL : Nat} {own : String} {ret : Option FieldType} {fF fL : Nat} {G : GT} {pc idx : Nat} {ls : Array Slot} {rest : List Value} {σ τ : Mem} {res : Int} (X : CX p R s m args meth c cc nL own ret fF fL G) (hP : PW G σ H) (hS : va_S (AA G) s.heap H locs) (hls : ls.size = nL) (hf : X10_image σ = some (res, τ)) (h1 : Cond.methodLink own idx yX10_image ∈ TB) (hR : 3 + 1 ≤ fF ∧ 8 + (1 + 11) + 103 ≤ fL) (hW : (rest.map fun v => v.category).sum ≤ 8) (hd : decode cc pc = .ok (.invokevirtual idx, 3)) (kk : ∀ (H1 : Heap) (locs1 : List Loc), PW G τ H1 → va_S (AA G) s.heap H1 locs1 → W p l e R s m args below meth c H1 locs1 0 0 Q (F0 m (pc + 3) ls (.int (i32 res) :: rest))) : W p l e R s m args below meth c H locs 0 0 Q (F0 m pc ls (.ref (gh G + 0) :: rest)) := r_callV (n := 0) X hP hS hls (c_X10_image hf) h1 (tb t_1037 rfl) (tb t_1038 rfl) (tb t_75 rfl) (tb t_1039 rfl) (by decide +kernel) hR (r_recv X hP (kd_lt ks_10 (by decide)) (cE_10 ks_10) rfl) rfl rfl hW hd kk
/-! X10_isSize -/
theorem dX10_isSize_0 : decode cX10_isSize 0 = .ok (.iload_n 0, 1) := by decide +kernel
theorem dX10_isSize_1 : decode cX10_isSize 1 = .ok (.iconst 0, 1) := by decide +kernel
theorem dX10_isSize_2 : decode cX10_isSize 2 = .ok (.iconst 2, 1) := by decide +kernel
theorem dX10_isSize_3 : decode cX10_isSize 3 = .ok (.invokestatic 62, 3) := by decide +kernel
theorem dX10_isSize_6 : decode cX10_isSize 6 = .ok (.ireturn, 1) := by decide +kernel
def X10_isSize (σ : Mem) (l0 : Int) : Option (Int) :=
  bd (X10_within σ l0 0 2) fun r1 =>
  bg r1 <|
  some r1
def S_X10_isSize_0 (fn : Int → Option (Int)) (p : Program) (l : Launch) (e : Env) (R : Room) (s : State) (m : MethodId) (args : Array Value) (below : List Frame) (meth : Method) (c : Code) (G : GT) (σ : Mem) (res : Int) : Prop := ∀ (H : Heap) (locs : List Loc) (ls : Array Slot) (l0 : Int), PW G σ H → va_S (AA G) s.heap H locs → fn l0 = some res → lv_has ls 1 [(0, .int (i32 l0))] → W p l e R s m args below meth c H locs 0 0 (MQ below (QM G (some (.int (i32 res))) σ) args s 0 0 (AA G)) (F0 m 0 ls [])
set_option maxHeartbeats 4000000 in
theorem a_X10_isSize_0 {p : Program} {l : Launch} {e : Env} {R : Room} {s : State} {m : MethodId} {args : Array Value} {below : List Frame} {meth : Method} {c : Code} {G : GT} {σ : Mem} {res : Int} (X : CX p R s m args meth c cX10_isSize 1 RX10 (some FieldType.boolean) 2 82 G) : S_X10_isSize_0 (X10_isSize σ) p l e R s m args below meth c G σ res := by
  intro H locs ls l0 hP hS hf hl
  unfold X10_isSize at hf
  refine lv_iload_n X.1 X.2.1 dX10_isSize_0 rfl (lv_at hl 0 rfl) ?_
  refine r_iconst X 0 dX10_isSize_1 ?_
  refine r_iconst X 2 dX10_isSize_2 ?_
  obtain ⟨r1, hr1, hf⟩ := bd_inv hf
  refine k_X10_within X hP hS hl.1  hr1 (tb t_423 rfl) (by decide) (Nat.le_of_ble_eq_true rfl) dX10_isSize_3 (fun H locs hP hS => ?_)
  obtain ⟨hb2, hf⟩ := bg_inv hf
  cases so_inv hf
  exact r_zret X hP hS hb2 dX10_isSize_6
set_option maxHeartbeats 4000000 in
theorem c_X10_isSize {l : Launch} {G : GT} {σ : Mem} {res : Int} {l0 : Int} (hf : X10_isSize σ l0 = some res) : CT l yX10_isSize cX10_isSize 1 (some FieldType.boolean) 2 82 G [.int (i32 l0)] σ σ (some (.int (i32 res))) := by
  refine CT.mk (own := RX10) (by decide) rfl (Nat.le_of_ble_eq_true rfl) ?_
  intro p e s m below meth c ls X hP hS hl
  have hl : lv_has ls 1 [(0, .int (i32 l0))] := hl
  exact a_X10_isSize_0 X  s.heap [] ls l0 hP hS hf hl
theorem k_X10_isSize {p : Program} {l : Launch} {e : Env} {R : Room} {s : State} {m : MethodId} {args : Array Value} {below : List Frame} {meth : Method} {c : Code} {H : Heap} {locs : List Loc} {Q : State → Prop} {cc : ByteArray} {nL : Nat} {own : String} {ret : Option FieldType} {fF fL : Nat} {G : GT} {pc idx : Nat} {ls : Array Slot} {rest : List Value} {σ : Mem} {res : Int} {l0 : Int} (X : CX p R s m args meth c cc nL own ret fF fL G) (hP : PW G σ H) (hS : va_S (AA G) s.heap H locs) (hls : ls.size = nL) (hf : X10_isSize σ l0 = some res) (h1 : Cond.methodLink own idx yX10_isSize ∈ TB) (hR : 2 + 1 ≤ fF ∧ 8 + (1 + 11) + 82 ≤ fL) (hW : (rest.map fun v => v.category).sum ≤ 8) (hd : decode cc pc = .ok (.invokestatic idx, 3)) (kk : ∀ (H1 : Heap) (locs1 : List Loc), PW G σ H1 → va_S (AA G) s.heap H1 locs1 → W p l e R s m args below meth c H1 locs1 0 0 Q (F0 m (pc + 3) ls (.int (i32 res) :: rest))) : W p l e R s m args below meth c H locs 0 0 Q (F0 m pc ls (.int (i32 l0) :: rest)) := r_callS (n := 1) X hP hS hls (c_X10_isSize hf) h1 (tb t_687 rfl) (tb t_75 rfl) (tb t_688 rfl) (by decide +kernel) hR rfl rfl hW hd kk
theorem kn_X10_isSize {p : Program} {l : Launch} {e : Env} {R : Room} {s : State} {m : MethodId} {args : Array Value} {below : List Frame} {meth : Method} {c : Code} {H : Heap} {locs : List Loc} {Q : State → Prop} {cc : ByteArray} {nL : Nat} {own : String} {ret : Option FieldType} {fF fL : Nat} {G : GT} {pc idx : Nat} {ls : Array Slot} {rest : List Value} {σ : Mem} {res : Int} {l0 : Int} (X : CX p R s m args meth c cc nL own ret fF fL G) (hP : PW G σ H) (hS : va_S (AA G) s.heap H locs) (hls : ls.size = nL) (hf : X10_isSize σ l0 = some res) {host : String} (h1 : Cond.methodLinkNest own idx yX10_isSize host ∈ NWl) (hR : 2 + 1 ≤ fF ∧ 8 + (1 + 11) + 82 ≤ fL) (hW : (rest.map fun v => v.category).sum ≤ 8) (hd : decode cc pc = .ok (.invokestatic idx, 3)) (kk : ∀ (H1 : Heap) (locs1 : List Loc), PW G σ H1 → va_S (AA G) s.heap H1 locs1 → W p l e R s m args below meth c H1 locs1 0 0 Q (F0 m (pc + 3) ls (.int (i32 res) :: rest))) : W p l e R s m args below meth c H locs 0 0 Q (F0 m pc ls (.int (i32 l0) :: rest)) := r_callSN (n := 1) X hP hS hls (c_X10_isSize hf) h1 (tb t_687 rfl) (tb t_75 rfl) (tb t_688 rfl) (by decide +kernel) hR rfl rfl hW hd kk
/-! X10_isStretch -/
theorem dX10_isStretch_0 : decode cX10_isStretch 0 = .ok (.aload_n 0, 1) := by decide +kernel
theorem dX10_isStretch_1 : decode cX10_isStretch 1 = .ok (.iload_n 1, 1) := by decide +kernel
theorem dX10_isStretch_2 : decode cX10_isStretch 2 = .ok (.iload_n 2, 1) := by decide +kernel
theorem dX10_isStretch_3 : decode cX10_isStretch 3 = .ok (.invokevirtual 141, 3) := by decide +kernel
theorem dX10_isStretch_6 : decode cX10_isStretch 6 = .ok (.ifCond .eq 21, 3) := by decide +kernel
theorem dX10_isStretch_9 : decode cX10_isStretch 9 = .ok (.aload_n 0, 1) := by decide +kernel
theorem dX10_isStretch_10 : decode cX10_isStretch 10 = .ok (.iload_n 1, 1) := by decide +kernel
theorem dX10_isStretch_11 : decode cX10_isStretch 11 = .ok (.iload_n 3, 1) := by decide +kernel
theorem dX10_isStretch_12 : decode cX10_isStretch 12 = .ok (.invokevirtual 141, 3) := by decide +kernel
theorem dX10_isStretch_15 : decode cX10_isStretch 15 = .ok (.ifCond .eq 12, 3) := by decide +kernel
theorem dX10_isStretch_18 : decode cX10_isStretch 18 = .ok (.iload_n 2, 1) := by decide +kernel
theorem dX10_isStretch_19 : decode cX10_isStretch 19 = .ok (.iload_n 3, 1) := by decide +kernel
theorem dX10_isStretch_20 : decode cX10_isStretch 20 = .ok (.if_icmp .gt 7, 3) := by decide +kernel
theorem dX10_isStretch_23 : decode cX10_isStretch 23 = .ok (.iconst 1, 1) := by decide +kernel
theorem dX10_isStretch_24 : decode cX10_isStretch 24 = .ok (.goto 4, 3) := by decide +kernel
theorem dX10_isStretch_27 : decode cX10_isStretch 27 = .ok (.iconst 0, 1) := by decide +kernel
theorem dX10_isStretch_28 : decode cX10_isStretch 28 = .ok (.ireturn, 1) := by decide +kernel
def X10_isStretch (σ : Mem) (l1 : Int) (l2 : Int) (l3 : Int) : Option (Int) :=
  bd (X10_isBar σ l1 l2) fun r1 =>
  if w32 r1 = 0 then
    some 0
  else
  bd (X10_isBar σ l1 l3) fun r2 =>
  if w32 r2 = 0 then
    some 0
  else
  if w32 l3 < w32 l2 then
    some 0
  else
  some 1
def S_X10_isStretch_0 (fn : Int → Int → Int → Option (Int)) (p : Program) (l : Launch) (e : Env) (R : Room) (s : State) (m : MethodId) (args : Array Value) (below : List Frame) (meth : Method) (c : Code) (G : GT) (σ : Mem) (res : Int) : Prop := ∀ (H : Heap) (locs : List Loc) (ls : Array Slot) (l1 : Int) (l2 : Int) (l3 : Int), PW G σ H → va_S (AA G) s.heap H locs → fn l1 l2 l3 = some res → lv_has ls 4 [(0, .ref (gh G + 0)), (1, .int (i32 l1)), (2, .int (i32 l2)), (3, .int (i32 l3))] → W p l e R s m args below meth c H locs 0 0 (MQ below (QM G (some (.int (i32 res))) σ) args s 0 0 (AA G)) (F0 m 0 ls [])
set_option maxHeartbeats 4000000 in
theorem a_X10_isStretch_0 {p : Program} {l : Launch} {e : Env} {R : Room} {s : State} {m : MethodId} {args : Array Value} {below : List Frame} {meth : Method} {c : Code} {G : GT} {σ : Mem} {res : Int} (X : CX p R s m args meth c cX10_isStretch 4 RX10 (some FieldType.boolean) 4 124 G) : S_X10_isStretch_0 (X10_isStretch σ) p l e R s m args below meth c G σ res := by
  intro H locs ls l1 l2 l3 hP hS hf hl
  unfold X10_isStretch at hf
  refine lv_aload_n X.1 X.2.1 dX10_isStretch_0 rfl (lv_at hl 0 rfl) ?_
  refine lv_iload_n X.1 X.2.1 dX10_isStretch_1 rfl (lv_at hl 1 rfl) ?_
  refine lv_iload_n X.1 X.2.1 dX10_isStretch_2 rfl (lv_at hl 2 rfl) ?_
  obtain ⟨r1, hr1, hf⟩ := bd_inv hf
  refine k_X10_isBar X hP hS hl.1  hr1 (tb t_632 rfl) (by decide) (Nat.le_of_ble_eq_true rfl) dX10_isStretch_3 (fun H locs hP hS => ?_)
  refine r_if_eq (tgt := 27) X dX10_isStretch_6 (by decide) (fun q => ?_) (fun q => ?_)
  · replace hf := it_inv q hf
    refine r_iconst X 0 dX10_isStretch_27 ?_
    cases so_inv hf
    exact r_zret X hP hS (Or.inl rfl) dX10_isStretch_28
  · replace hf := ie_inv q hf
    refine lv_aload_n X.1 X.2.1 dX10_isStretch_9 rfl (lv_at hl 0 rfl) ?_
    refine lv_iload_n X.1 X.2.1 dX10_isStretch_10 rfl (lv_at hl 1 rfl) ?_
    refine lv_iload_n X.1 X.2.1 dX10_isStretch_11 rfl (lv_at hl 3 rfl) ?_
    obtain ⟨r2, hr2, hf⟩ := bd_inv hf
    refine k_X10_isBar X hP hS hl.1  hr2 (tb t_632 rfl) (by decide) (Nat.le_of_ble_eq_true rfl) dX10_isStretch_12 (fun H locs hP hS => ?_)
    refine r_if_eq (tgt := 27) X dX10_isStretch_15 (by decide) (fun q => ?_) (fun q => ?_)
    · replace hf := it_inv q hf
      refine r_iconst X 0 dX10_isStretch_27 ?_
      cases so_inv hf
      exact r_zret X hP hS (Or.inl rfl) dX10_isStretch_28
    · replace hf := ie_inv q hf
      refine lv_iload_n X.1 X.2.1 dX10_isStretch_18 rfl (lv_at hl 2 rfl) ?_
      refine lv_iload_n X.1 X.2.1 dX10_isStretch_19 rfl (lv_at hl 3 rfl) ?_
      refine r_icmp_gt (tgt := 27) X dX10_isStretch_20 (by decide) (fun q => ?_) (fun q => ?_)
      · replace hf := it_inv q hf
        refine r_iconst X 0 dX10_isStretch_27 ?_
        cases so_inv hf
        exact r_zret X hP hS (Or.inl rfl) dX10_isStretch_28
      · replace hf := ie_inv q hf
        refine r_iconst X 1 dX10_isStretch_23 ?_
        refine lv_goto (tgt := 28) X.1 X.2.1 dX10_isStretch_24 (by decide) ?_
        cases so_inv hf
        exact r_zret X hP hS (Or.inr rfl) dX10_isStretch_28
set_option maxHeartbeats 4000000 in
theorem c_X10_isStretch {l : Launch} {G : GT} {σ : Mem} {res : Int} {l1 : Int} {l2 : Int} {l3 : Int} (hf : X10_isStretch σ l1 l2 l3 = some res) : CT l yX10_isStretch cX10_isStretch 4 (some FieldType.boolean) 4 124 G [.ref (gh G + 0), .int (i32 l1), .int (i32 l2), .int (i32 l3)] σ σ (some (.int (i32 res))) := by
  refine CT.mk (own := RX10) (by decide) rfl (Nat.le_of_ble_eq_true rfl) ?_
  intro p e s m below meth c ls X hP hS hl
  have hl : lv_has ls 4 [(0, .ref (gh G + 0)), (1, .int (i32 l1)), (2, .int (i32 l2)), (3, .int (i32 l3))] := hl
  exact a_X10_isStretch_0 X  s.heap [] ls l1 l2 l3 hP hS hf hl
theorem k_X10_isStretch {p : Program} {l : Launch} {e : Env} {R : Room} {s : State} {m : MethodId} {args : Array Value} {below : List Frame} {meth : Method} {c : Code} {H : Heap} {locs : List Loc} {Q : State → Prop} {cc : ByteArray} {nL : Nat} {own : String} {ret : Option FieldType} {fF fL : Nat} {G : GT} {pc idx : Nat} {ls : Array Slot} {rest : List Value} {σ : Mem} {res : Int} {l1 : Int} {l2 : Int} {l3 : Int} (X : CX p R s m args meth c cc nL own ret fF fL G) (hP : PW G σ H) (hS : va_S (AA G) s.heap H locs) (hls : ls.size = nL) (hf : X10_isStretch σ l1 l2 l3 = some res) (h1 : Cond.methodLink own idx yX10_isStretch ∈ TB) (hR : 4 + 1 ≤ fF ∧ 8 + (4 + 11) + 124 ≤ fL) (hW : (rest.map fun v => v.category).sum ≤ 8) (hd : decode cc pc = .ok (.invokevirtual idx, 3)) (kk : ∀ (H1 : Heap) (locs1 : List Loc), PW G σ H1 → va_S (AA G) s.heap H1 locs1 → W p l e R s m args below meth c H1 locs1 0 0 Q (F0 m (pc + 3) ls (.int (i32 res) :: rest))) : W p l e R s m args below meth c H locs 0 0 Q (F0 m pc ls (.int (i32 l3) :: .int (i32 l2) :: .int (i32 l1) :: .ref (gh G + 0) :: rest)) := r_callV (n := 3) X hP hS hls (c_X10_isStretch hf) h1 (tb t_699 rfl) (tb t_22 rfl) (tb t_75 rfl) (tb t_700 rfl) (by decide +kernel) hR (r_recv X hP (kd_lt ks_10 (by decide)) (cE_10 ks_10) rfl) rfl rfl hW hd kk
/-! X5_roomFromTo -/
theorem dX5_roomFromTo_0 : decode cX5_roomFromTo 0 = .ok (.iconst 0, 1) := by decide +kernel
theorem dX5_roomFromTo_1 : decode cX5_roomFromTo 1 = .ok (.istore_n 3, 1) := by decide +kernel
theorem dX5_roomFromTo_2 : decode cX5_roomFromTo 2 = .ok (.iload_n 1, 1) := by decide +kernel
theorem dX5_roomFromTo_3 : decode cX5_roomFromTo 3 = .ok (.istore 4, 2) := by decide +kernel
theorem dX5_roomFromTo_5 : decode cX5_roomFromTo 5 = .ok (.iload 4, 2) := by decide +kernel
theorem dX5_roomFromTo_7 : decode cX5_roomFromTo 7 = .ok (.iload_n 2, 1) := by decide +kernel
theorem dX5_roomFromTo_8 : decode cX5_roomFromTo 8 = .ok (.if_icmp .gt 19, 3) := by decide +kernel
theorem dX5_roomFromTo_11 : decode cX5_roomFromTo 11 = .ok (.iload_n 3, 1) := by decide +kernel
theorem dX5_roomFromTo_12 : decode cX5_roomFromTo 12 = .ok (.aload_n 0, 1) := by decide +kernel
theorem dX5_roomFromTo_13 : decode cX5_roomFromTo 13 = .ok (.iload 4, 2) := by decide +kernel
theorem dX5_roomFromTo_15 : decode cX5_roomFromTo 15 = .ok (.iconst 0, 1) := by decide +kernel
theorem dX5_roomFromTo_16 : decode cX5_roomFromTo 16 = .ok (.invokevirtual 28, 3) := by decide +kernel
theorem dX5_roomFromTo_19 : decode cX5_roomFromTo 19 = .ok (.iadd, 1) := by decide +kernel
theorem dX5_roomFromTo_20 : decode cX5_roomFromTo 20 = .ok (.istore_n 3, 1) := by decide +kernel
theorem dX5_roomFromTo_21 : decode cX5_roomFromTo 21 = .ok (.iinc 4 1, 3) := by decide +kernel
theorem dX5_roomFromTo_24 : decode cX5_roomFromTo 24 = .ok (.goto (-19), 3) := by decide +kernel
theorem dX5_roomFromTo_27 : decode cX5_roomFromTo 27 = .ok (.iload_n 3, 1) := by decide +kernel
theorem dX5_roomFromTo_28 : decode cX5_roomFromTo 28 = .ok (.ireturn, 1) := by decide +kernel
def S_X5_roomFromTo_5 (fn : Nat → Int → Int → Int → Option (Int)) (p : Program) (l : Launch) (e : Env) (R : Room) (s : State) (m : MethodId) (args : Array Value) (below : List Frame) (meth : Method) (c : Code) (G : GT) (σ : Mem) (res : Int) : Prop := ∀ (H : Heap) (locs : List Loc) (ls : Array Slot) (l0 : Nat) (l2 : Int) (l3 : Int) (l4 : Int), kd l0 = 5 → PW G σ H → va_S (AA G) s.heap H locs → fn l0 l2 l3 l4 = some res → lv_has ls 5 [(0, .ref (gh G + l0)), (2, .int (i32 l2)), (3, .int (i32 l3)), (4, .int (i32 l4))] → W p l e R s m args below meth c H locs 0 0 (MQ below (QM G (some (.int (i32 res))) σ) args s 0 0 (AA G)) (F0 m 5 ls [])
def X5_roomFromTo_B5 (rec5 : Nat → Int → Int → Int → Option (Int)) (σ : Mem) (l0 : Nat) (l2 : Int) (l3 : Int) (l4 : Int) : Option (Int) :=
  if w32 l2 < w32 l4 then
    some l3
  else
  bd (X5_fact σ l0 l4 0) fun r1 =>
  lt (l3 + r1) fun l3_2 =>
  lt (l4 + 1) fun l4_3 =>
  rec5 l0 l2 l3_2 l4_3
def X5_roomFromTo_L5 (σ : Mem) : Nat → Nat → Int → Int → Int → Option (Int)
  | 0 => fun _ _ _ _ => none
  | n + 1 => X5_roomFromTo_B5 (X5_roomFromTo_L5 σ n) σ
def X5_roomFromTo (σ : Mem) (l0 : Nat) (l1 : Int) (l2 : Int) : Option (Int) :=
  X5_roomFromTo_L5 σ 5000 l0 l2 0 l1
def S_X5_roomFromTo_0 (fn : Nat → Int → Int → Option (Int)) (p : Program) (l : Launch) (e : Env) (R : Room) (s : State) (m : MethodId) (args : Array Value) (below : List Frame) (meth : Method) (c : Code) (G : GT) (σ : Mem) (res : Int) : Prop := ∀ (H : Heap) (locs : List Loc) (ls : Array Slot) (l0 : Nat) (l1 : Int) (l2 : Int), kd l0 = 5 → PW G σ H → va_S (AA G) s.heap H locs → fn l0 l1 l2 = some res → lv_has ls 5 [(0, .ref (gh G + l0)), (1, .int (i32 l1)), (2, .int (i32 l2))] → W p l e R s m args below meth c H locs 0 0 (MQ below (QM G (some (.int (i32 res))) σ) args s 0 0 (AA G)) (F0 m 0 ls [])
set_option maxHeartbeats 4000000 in
theorem a_X5_roomFromTo_5 {p : Program} {l : Launch} {e : Env} {R : Room} {s : State} {m : MethodId} {args : Array Value} {below : List Frame} {meth : Method} {c : Code} {G : GT} {σ : Mem} {res : Int} {rec5 : Nat → Int → Int → Int → Option (Int)} (X : CX p R s m args meth c cX5_roomFromTo 5 RX5 (some FieldType.int) 2 82 G) (h5 : S_X5_roomFromTo_5 rec5 p l e R s m args below meth c G σ res) : S_X5_roomFromTo_5 (X5_roomFromTo_B5 rec5 σ) p l e R s m args below meth c G σ res := by
  intro H locs ls l0 l2 l3 l4 hk_l0 hP hS hf hl
  unfold X5_roomFromTo_B5 at hf
  refine lv_iload X.1 X.2.1 dX5_roomFromTo_5 (lv_at hl 3 rfl) ?_
  refine lv_iload_n X.1 X.2.1 dX5_roomFromTo_7 rfl (lv_at hl 1 rfl) ?_
  refine r_icmp_gt (tgt := 27) X dX5_roomFromTo_8 (by decide) (fun q => ?_) (fun q => ?_)
  · replace hf := it_inv q hf
    refine lv_iload_n X.1 X.2.1 dX5_roomFromTo_27 rfl (lv_at hl 2 rfl) ?_
    cases so_inv hf
    exact r_iret X hP hS dX5_roomFromTo_28
  · replace hf := ie_inv q hf
    refine lv_iload_n X.1 X.2.1 dX5_roomFromTo_11 rfl (lv_at hl 2 rfl) ?_
    refine lv_aload_n X.1 X.2.1 dX5_roomFromTo_12 rfl (lv_at hl 0 rfl) ?_
    refine lv_iload X.1 X.2.1 dX5_roomFromTo_13 (lv_at hl 3 rfl) ?_
    refine r_iconst X 0 dX5_roomFromTo_15 ?_
    obtain ⟨r1, hr1, hf⟩ := bd_inv hf
    refine k_X5_fact X hP hS hl.1 hk_l0 hr1 (tb t_678 rfl) (by decide) (Nat.le_of_ble_eq_true rfl) dX5_roomFromTo_16 (fun H locs hP hS => ?_)
    refine r_iadd X dX5_roomFromTo_19 ?_
    obtain ⟨l3_2, el3_2, hf⟩ := lt_inv hf
    refine r_eqi el3_2 ?_
    refine lv_istore_n (lv' := [(3, .int (i32 l3_2)), (0, .ref (gh G + l0)), (2, .int (i32 l2)), (4, .int (i32 l4))]) X.1 X.2.1 dX5_roomFromTo_20 rfl hl (by decide) rfl (fun ls hl => ?_)
    obtain ⟨l4_3, el4_3, hf⟩ := lt_inv hf
    refine lv_iinc (v := i32 l4_3) (lv' := [(4, .int (i32 l4_3)), (3, .int (i32 l3_2)), (0, .ref (gh G + l0)), (2, .int (i32 l2))]) X.1 X.2.1 dX5_roomFromTo_21 hl (k := 3) rfl (by rw [← el4_3]; exact i32_add _ _) (by decide) rfl (fun ls hl => ?_)
    refine lv_goto (tgt := 5) X.1 X.2.1 dX5_roomFromTo_24 (by decide) ?_
    exact h5  H locs ls l0 l2 l3_2 l4_3 hk_l0 hP hS hf (lv_sub hl [2, 3, 1, 0] rfl)
theorem al_X5_roomFromTo_5 {p : Program} {l : Launch} {e : Env} {R : Room} {s : State} {m : MethodId} {args : Array Value} {below : List Frame} {meth : Method} {c : Code} {G : GT} {σ : Mem} {res : Int} (X : CX p R s m args meth c cX5_roomFromTo 5 RX5 (some FieldType.int) 2 82 G) : ∀ n, S_X5_roomFromTo_5 (X5_roomFromTo_L5 σ n) p l e R s m args below meth c G σ res := by
  intro n
  induction n with
  | zero =>
    intro H locs ls l0 l2 l3 l4 hk_l0 hP hS hf hl
    cases hf
  | succ n ih => exact a_X5_roomFromTo_5 X ih
set_option maxHeartbeats 4000000 in
theorem a_X5_roomFromTo_0 {p : Program} {l : Launch} {e : Env} {R : Room} {s : State} {m : MethodId} {args : Array Value} {below : List Frame} {meth : Method} {c : Code} {G : GT} {σ : Mem} {res : Int} (X : CX p R s m args meth c cX5_roomFromTo 5 RX5 (some FieldType.int) 2 82 G) : S_X5_roomFromTo_0 (X5_roomFromTo σ) p l e R s m args below meth c G σ res := by
  intro H locs ls l0 l1 l2 hk_l0 hP hS hf hl
  unfold X5_roomFromTo at hf
  refine r_iconst X 0 dX5_roomFromTo_0 ?_
  refine lv_istore_n (lv' := [(3, .int (i32 0)), (0, .ref (gh G + l0)), (1, .int (i32 l1)), (2, .int (i32 l2))]) X.1 X.2.1 dX5_roomFromTo_1 rfl hl (by decide) rfl (fun ls hl => ?_)
  refine lv_iload_n X.1 X.2.1 dX5_roomFromTo_2 rfl (lv_at hl 2 rfl) ?_
  refine lv_istore (lv' := [(4, .int (i32 l1)), (3, .int (i32 0)), (0, .ref (gh G + l0)), (1, .int (i32 l1)), (2, .int (i32 l2))]) X.1 X.2.1 dX5_roomFromTo_3 hl (by decide) rfl (fun ls hl => ?_)
  exact al_X5_roomFromTo_5 X 5000  H locs ls l0 l2 0 l1 hk_l0 hP hS hf (lv_sub hl [2, 4, 1, 0] rfl)
set_option maxHeartbeats 4000000 in
theorem c_X5_roomFromTo {l : Launch} {G : GT} {σ : Mem} {res : Int} {l0 : Nat} {l1 : Int} {l2 : Int} (hk_l0 : kd l0 = 5) (hf : X5_roomFromTo σ l0 l1 l2 = some res) : CT l yX5_roomFromTo cX5_roomFromTo 5 (some FieldType.int) 2 82 G [.ref (gh G + l0), .int (i32 l1), .int (i32 l2)] σ σ (some (.int (i32 res))) := by
  refine CT.mk (own := RX5) (by decide) rfl (Nat.le_of_ble_eq_true rfl) ?_
  intro p e s m below meth c ls X hP hS hl
  have hl : lv_has ls 5 [(0, .ref (gh G + l0)), (1, .int (i32 l1)), (2, .int (i32 l2))] := hl
  exact a_X5_roomFromTo_0 X  s.heap [] ls l0 l1 l2 hk_l0 hP hS hf hl
theorem k_X5_roomFromTo {p : Program} {l : Launch} {e : Env} {R : Room} {s : State} {m : MethodId} {args : Array Value} {below : List Frame} {meth : Method} {c : Code} {H : Heap} {locs : List Loc} {Q : State → Prop} {cc : ByteArray} {nL : Nat} {own : String} {ret : Option FieldType} {fF fL : Nat} {G : GT} {pc idx : Nat} {ls : Array Slot} {rest : List Value} {σ : Mem} {res : Int} {l0 : Nat} {l1 : Int} {l2 : Int} (X : CX p R s m args meth c cc nL own ret fF fL G) (hP : PW G σ H) (hS : va_S (AA G) s.heap H locs) (hls : ls.size = nL) (hk_l0 : kd l0 = 5) (hf : X5_roomFromTo σ l0 l1 l2 = some res) (h1 : Cond.methodLink own idx yX5_roomFromTo ∈ TB) (hR : 2 + 1 ≤ fF ∧ 8 + (5 + 11) + 82 ≤ fL) (hW : (rest.map fun v => v.category).sum ≤ 8) (hd : decode cc pc = .ok (.invokevirtual idx, 3)) (kk : ∀ (H1 : Heap) (locs1 : List Loc), PW G σ H1 → va_S (AA G) s.heap H1 locs1 → W p l e R s m args below meth c H1 locs1 0 0 Q (F0 m (pc + 3) ls (.int (i32 res) :: rest))) : W p l e R s m args below meth c H locs 0 0 Q (F0 m pc ls (.int (i32 l2) :: .int (i32 l1) :: .ref (gh G + l0) :: rest)) := r_callV (n := 2) X hP hS hls (c_X5_roomFromTo hk_l0 hf) h1 (tb t_976 rfl) (tb t_977 rfl) (tb t_79 rfl) (tb t_978 rfl) (by decide +kernel) hR (r_recv X hP (kd_lt hk_l0 (by decide)) (cE_5 hk_l0) rfl) rfl rfl hW hd kk
/-! X7_firstWrong -/
theorem dX7_firstWrong_0 : decode cX7_firstWrong 0 = .ok (.aload_n 0, 1) := by decide +kernel
theorem dX7_firstWrong_1 : decode cX7_firstWrong 1 = .ok (.getfield 11, 3) := by decide +kernel
theorem dX7_firstWrong_4 : decode cX7_firstWrong 4 = .ok (.iload_n 1, 1) := by decide +kernel
theorem dX7_firstWrong_5 : decode cX7_firstWrong 5 = .ok (.aaload, 1) := by decide +kernel
theorem dX7_firstWrong_6 : decode cX7_firstWrong 6 = .ok (.astore_n 2, 1) := by decide +kernel
theorem dX7_firstWrong_7 : decode cX7_firstWrong 7 = .ok (.iconst 0, 1) := by decide +kernel
theorem dX7_firstWrong_8 : decode cX7_firstWrong 8 = .ok (.istore_n 3, 1) := by decide +kernel
theorem dX7_firstWrong_9 : decode cX7_firstWrong 9 = .ok (.iconst (-1), 1) := by decide +kernel
theorem dX7_firstWrong_10 : decode cX7_firstWrong 10 = .ok (.istore 4, 2) := by decide +kernel
theorem dX7_firstWrong_12 : decode cX7_firstWrong 12 = .ok (.iconst 0, 1) := by decide +kernel
theorem dX7_firstWrong_13 : decode cX7_firstWrong 13 = .ok (.istore 5, 2) := by decide +kernel
theorem dX7_firstWrong_15 : decode cX7_firstWrong 15 = .ok (.iload 5, 2) := by decide +kernel
theorem dX7_firstWrong_17 : decode cX7_firstWrong 17 = .ok (.aload_n 0, 1) := by decide +kernel
theorem dX7_firstWrong_18 : decode cX7_firstWrong 18 = .ok (.getfield 24, 3) := by decide +kernel
theorem dX7_firstWrong_21 : decode cX7_firstWrong 21 = .ok (.getfield 71, 3) := by decide +kernel
theorem dX7_firstWrong_24 : decode cX7_firstWrong 24 = .ok (.if_icmp .ge 95, 3) := by decide +kernel
theorem dX7_firstWrong_27 : decode cX7_firstWrong 27 = .ok (.aload_n 0, 1) := by decide +kernel
theorem dX7_firstWrong_28 : decode cX7_firstWrong 28 = .ok (.getfield 24, 3) := by decide +kernel
theorem dX7_firstWrong_31 : decode cX7_firstWrong 31 = .ok (.getfield 74, 3) := by decide +kernel
theorem dX7_firstWrong_34 : decode cX7_firstWrong 34 = .ok (.iload 5, 2) := by decide +kernel
theorem dX7_firstWrong_36 : decode cX7_firstWrong 36 = .ok (.iaload, 1) := by decide +kernel
theorem dX7_firstWrong_37 : decode cX7_firstWrong 37 = .ok (.iload_n 1, 1) := by decide +kernel
theorem dX7_firstWrong_38 : decode cX7_firstWrong 38 = .ok (.if_icmp .eq 6, 3) := by decide +kernel
theorem dX7_firstWrong_41 : decode cX7_firstWrong 41 = .ok (.goto 72, 3) := by decide +kernel
theorem dX7_firstWrong_44 : decode cX7_firstWrong 44 = .ok (.aload_n 0, 1) := by decide +kernel
theorem dX7_firstWrong_45 : decode cX7_firstWrong 45 = .ok (.getfield 24, 3) := by decide +kernel
theorem dX7_firstWrong_48 : decode cX7_firstWrong 48 = .ok (.getfield 76, 3) := by decide +kernel
theorem dX7_firstWrong_51 : decode cX7_firstWrong 51 = .ok (.iload 5, 2) := by decide +kernel
theorem dX7_firstWrong_53 : decode cX7_firstWrong 53 = .ok (.iaload, 1) := by decide +kernel
theorem dX7_firstWrong_54 : decode cX7_firstWrong 54 = .ok (.istore 6, 2) := by decide +kernel
theorem dX7_firstWrong_56 : decode cX7_firstWrong 56 = .ok (.iload 6, 2) := by decide +kernel
theorem dX7_firstWrong_58 : decode cX7_firstWrong 58 = .ok (.iload 4, 2) := by decide +kernel
theorem dX7_firstWrong_60 : decode cX7_firstWrong 60 = .ok (.if_icmp .le 42, 3) := by decide +kernel
theorem dX7_firstWrong_63 : decode cX7_firstWrong 63 = .ok (.aload_n 0, 1) := by decide +kernel
theorem dX7_firstWrong_64 : decode cX7_firstWrong 64 = .ok (.aload_n 0, 1) := by decide +kernel
theorem dX7_firstWrong_65 : decode cX7_firstWrong 65 = .ok (.getfield 24, 3) := by decide +kernel
theorem dX7_firstWrong_68 : decode cX7_firstWrong 68 = .ok (.getfield 78, 3) := by decide +kernel
theorem dX7_firstWrong_71 : decode cX7_firstWrong 71 = .ok (.iload 5, 2) := by decide +kernel
theorem dX7_firstWrong_73 : decode cX7_firstWrong 73 = .ok (.iaload, 1) := by decide +kernel
theorem dX7_firstWrong_74 : decode cX7_firstWrong 74 = .ok (.iload_n 1, 1) := by decide +kernel
theorem dX7_firstWrong_75 : decode cX7_firstWrong 75 = .ok (.iload 6, 2) := by decide +kernel
theorem dX7_firstWrong_77 : decode cX7_firstWrong 77 = .ok (.invokevirtual 81, 3) := by decide +kernel
theorem dX7_firstWrong_80 : decode cX7_firstWrong 80 = .ok (.ifCond .eq 22, 3) := by decide +kernel
theorem dX7_firstWrong_83 : decode cX7_firstWrong 83 = .ok (.aload_n 2, 1) := by decide +kernel
theorem dX7_firstWrong_84 : decode cX7_firstWrong 84 = .ok (.iload 4, 2) := by decide +kernel
theorem dX7_firstWrong_86 : decode cX7_firstWrong 86 = .ok (.iconst 1, 1) := by decide +kernel
theorem dX7_firstWrong_87 : decode cX7_firstWrong 87 = .ok (.iadd, 1) := by decide +kernel
theorem dX7_firstWrong_88 : decode cX7_firstWrong 88 = .ok (.iload 6, 2) := by decide +kernel
theorem dX7_firstWrong_90 : decode cX7_firstWrong 90 = .ok (.invokevirtual 85, 3) := by decide +kernel
theorem dX7_firstWrong_93 : decode cX7_firstWrong 93 = .ok (.aload_n 0, 1) := by decide +kernel
theorem dX7_firstWrong_94 : decode cX7_firstWrong 94 = .ok (.getfield 17, 3) := by decide +kernel
theorem dX7_firstWrong_97 : decode cX7_firstWrong 97 = .ok (.iconst 0, 1) := by decide +kernel
theorem dX7_firstWrong_98 : decode cX7_firstWrong 98 = .ok (.iaload, 1) := by decide +kernel
theorem dX7_firstWrong_99 : decode cX7_firstWrong 99 = .ok (.if_icmp .le 7, 3) := by decide +kernel
theorem dX7_firstWrong_102 : decode cX7_firstWrong 102 = .ok (.iconst 1, 1) := by decide +kernel
theorem dX7_firstWrong_103 : decode cX7_firstWrong 103 = .ok (.iload_n 3, 1) := by decide +kernel
theorem dX7_firstWrong_104 : decode cX7_firstWrong 104 = .ok (.iadd, 1) := by decide +kernel
theorem dX7_firstWrong_105 : decode cX7_firstWrong 105 = .ok (.ireturn, 1) := by decide +kernel
theorem dX7_firstWrong_106 : decode cX7_firstWrong 106 = .ok (.iinc 3 1, 3) := by decide +kernel
theorem dX7_firstWrong_109 : decode cX7_firstWrong 109 = .ok (.iload 6, 2) := by decide +kernel
theorem dX7_firstWrong_111 : decode cX7_firstWrong 111 = .ok (.istore 4, 2) := by decide +kernel
theorem dX7_firstWrong_113 : decode cX7_firstWrong 113 = .ok (.iinc 5 1, 3) := by decide +kernel
theorem dX7_firstWrong_116 : decode cX7_firstWrong 116 = .ok (.goto (-101), 3) := by decide +kernel
theorem dX7_firstWrong_119 : decode cX7_firstWrong 119 = .ok (.aload_n 2, 1) := by decide +kernel
theorem dX7_firstWrong_120 : decode cX7_firstWrong 120 = .ok (.iload 4, 2) := by decide +kernel
theorem dX7_firstWrong_122 : decode cX7_firstWrong 122 = .ok (.iconst 1, 1) := by decide +kernel
theorem dX7_firstWrong_123 : decode cX7_firstWrong 123 = .ok (.iadd, 1) := by decide +kernel
theorem dX7_firstWrong_124 : decode cX7_firstWrong 124 = .ok (.aload_n 2, 1) := by decide +kernel
theorem dX7_firstWrong_125 : decode cX7_firstWrong 125 = .ok (.getfield 42, 3) := by decide +kernel
theorem dX7_firstWrong_128 : decode cX7_firstWrong 128 = .ok (.iconst 1, 1) := by decide +kernel
theorem dX7_firstWrong_129 : decode cX7_firstWrong 129 = .ok (.isub, 1) := by decide +kernel
theorem dX7_firstWrong_130 : decode cX7_firstWrong 130 = .ok (.invokevirtual 85, 3) := by decide +kernel
theorem dX7_firstWrong_133 : decode cX7_firstWrong 133 = .ok (.aload_n 0, 1) := by decide +kernel
theorem dX7_firstWrong_134 : decode cX7_firstWrong 134 = .ok (.getfield 17, 3) := by decide +kernel
theorem dX7_firstWrong_137 : decode cX7_firstWrong 137 = .ok (.iconst 0, 1) := by decide +kernel
theorem dX7_firstWrong_138 : decode cX7_firstWrong 138 = .ok (.iaload, 1) := by decide +kernel
theorem dX7_firstWrong_139 : decode cX7_firstWrong 139 = .ok (.if_icmp .le 9, 3) := by decide +kernel
theorem dX7_firstWrong_142 : decode cX7_firstWrong 142 = .ok (.iconst 1, 1) := by decide +kernel
theorem dX7_firstWrong_143 : decode cX7_firstWrong 143 = .ok (.iload_n 3, 1) := by decide +kernel
theorem dX7_firstWrong_144 : decode cX7_firstWrong 144 = .ok (.iadd, 1) := by decide +kernel
theorem dX7_firstWrong_145 : decode cX7_firstWrong 145 = .ok (.goto 4, 3) := by decide +kernel
theorem dX7_firstWrong_148 : decode cX7_firstWrong 148 = .ok (.iconst 0, 1) := by decide +kernel
theorem dX7_firstWrong_149 : decode cX7_firstWrong 149 = .ok (.ireturn, 1) := by decide +kernel
def S_X7_firstWrong_15 (fn : Nat → Int → Nat → Int → Int → Int → Option (Int)) (p : Program) (l : Launch) (e : Env) (R : Room) (s : State) (m : MethodId) (args : Array Value) (below : List Frame) (meth : Method) (c : Code) (G : GT) (σ : Mem) (res : Int) : Prop := ∀ (H : Heap) (locs : List Loc) (ls : Array Slot) (l0 : Nat) (l1 : Int) (l2 : Nat) (l3 : Int) (l4 : Int) (l5 : Int), kd l0 = 7 → kd l2 = 5 → PW G σ H → va_S (AA G) s.heap H locs → fn l0 l1 l2 l3 l4 l5 = some res → lv_has ls 7 [(0, .ref (gh G + l0)), (1, .int (i32 l1)), (2, .ref (gh G + l2)), (3, .int (i32 l3)), (4, .int (i32 l4)), (5, .int (i32 l5))] → W p l e R s m args below meth c H locs 0 0 (MQ below (QM G (some (.int (i32 res))) σ) args s 0 0 (AA G)) (F0 m 15 ls [])
def X7_firstWrong_B113 (rec15 : Nat → Int → Nat → Int → Int → Int → Option (Int)) (σ : Mem) (l0 : Nat) (l1 : Int) (l2 : Nat) (l3 : Int) (l4 : Int) (l5 : Int) : Option (Int) :=
  lt (l5 + 1) fun l5_1 =>
  rec15 l0 l1 l2 l3 l4 l5_1
def S_X7_firstWrong_113 (fn : Nat → Int → Nat → Int → Int → Int → Option (Int)) (p : Program) (l : Launch) (e : Env) (R : Room) (s : State) (m : MethodId) (args : Array Value) (below : List Frame) (meth : Method) (c : Code) (G : GT) (σ : Mem) (res : Int) : Prop := ∀ (H : Heap) (locs : List Loc) (ls : Array Slot) (l0 : Nat) (l1 : Int) (l2 : Nat) (l3 : Int) (l4 : Int) (l5 : Int), kd l0 = 7 → kd l2 = 5 → PW G σ H → va_S (AA G) s.heap H locs → fn l0 l1 l2 l3 l4 l5 = some res → lv_has ls 7 [(0, .ref (gh G + l0)), (1, .int (i32 l1)), (2, .ref (gh G + l2)), (3, .int (i32 l3)), (4, .int (i32 l4)), (5, .int (i32 l5))] → W p l e R s m args below meth c H locs 0 0 (MQ below (QM G (some (.int (i32 res))) σ) args s 0 0 (AA G)) (F0 m 113 ls [])
def X7_firstWrong_B15 (rec15 : Nat → Int → Nat → Int → Int → Int → Option (Int)) (σ : Mem) (l0 : Nat) (l1 : Int) (l2 : Nat) (l3 : Int) (l4 : Int) (l5 : Int) : Option (Int) :=
  if w32 (σ (l0 + 3) 3) ≤ w32 l5 then
    bd (X5_roomFromTo σ l2 (l4 + 1) ((σ l2 2) - 1)) fun r1 =>
    ag 5 0 fun j2 =>
    if w32 r1 ≤ w32 (σ (l0 + 2) j2) then
      some 0
    else
    some (1 + l3)
  else
  ag 30 l5 fun j3 =>
  if w32 (σ (l0 + 3 + 2) j3) = w32 l1 then
    ag 30 l5 fun j4 =>
    lt (σ (l0 + 3 + 3) j4) fun l6_5 =>
    if w32 l6_5 ≤ w32 l4 then
      some (1 + l3)
    else
    ag 30 l5 fun j6 =>
    bd (X7_mayBreak σ l0 (σ (l0 + 3 + 1) j6) l1 l6_5) fun r7 =>
    if w32 r7 = 0 then
      some (1 + l3)
    else
    bd (X5_roomFromTo σ l2 (l4 + 1) l6_5) fun r8 =>
    ag 5 0 fun j9 =>
    if w32 r8 ≤ w32 (σ (l0 + 2) j9) then
      lt (l3 + 1) fun l3_10 =>
      X7_firstWrong_B113 rec15 σ l0 l1 l2 l3_10 l6_5 l5
    else
    some (1 + l3)
  else
  X7_firstWrong_B113 rec15 σ l0 l1 l2 l3 l4 l5
def X7_firstWrong_L15 (σ : Mem) : Nat → Nat → Int → Nat → Int → Int → Int → Option (Int)
  | 0 => fun _ _ _ _ _ _ => none
  | n + 1 => X7_firstWrong_B15 (X7_firstWrong_L15 σ n) σ
def X7_firstWrong (σ : Mem) (l0 : Nat) (l1 : Int) : Option (Int) :=
  ag 4 l1 fun j1 =>
  X7_firstWrong_L15 σ 5000 l0 l1 (l0 + 1 + 7 + 3 * j1) 0 (-1) 0
def S_X7_firstWrong_0 (fn : Nat → Int → Option (Int)) (p : Program) (l : Launch) (e : Env) (R : Room) (s : State) (m : MethodId) (args : Array Value) (below : List Frame) (meth : Method) (c : Code) (G : GT) (σ : Mem) (res : Int) : Prop := ∀ (H : Heap) (locs : List Loc) (ls : Array Slot) (l0 : Nat) (l1 : Int), kd l0 = 7 → PW G σ H → va_S (AA G) s.heap H locs → fn l0 l1 = some res → lv_has ls 7 [(0, .ref (gh G + l0)), (1, .int (i32 l1))] → W p l e R s m args below meth c H locs 0 0 (MQ below (QM G (some (.int (i32 res))) σ) args s 0 0 (AA G)) (F0 m 0 ls [])
set_option maxHeartbeats 4000000 in
theorem a_X7_firstWrong_113 {p : Program} {l : Launch} {e : Env} {R : Room} {s : State} {m : MethodId} {args : Array Value} {below : List Frame} {meth : Method} {c : Code} {G : GT} {σ : Mem} {res : Int} {rec15 : Nat → Int → Nat → Int → Int → Int → Option (Int)} (X : CX p R s m args meth c cX7_firstWrong 7 RX7 (some FieldType.int) 6 180 G) (h15 : S_X7_firstWrong_15 rec15 p l e R s m args below meth c G σ res) : S_X7_firstWrong_113 (X7_firstWrong_B113 rec15 σ) p l e R s m args below meth c G σ res := by
  intro H locs ls l0 l1 l2 l3 l4 l5 hk_l0 hk_l2 hP hS hf hl
  unfold X7_firstWrong_B113 at hf
  obtain ⟨l5_1, el5_1, hf⟩ := lt_inv hf
  refine lv_iinc (v := i32 l5_1) (lv' := [(5, .int (i32 l5_1)), (0, .ref (gh G + l0)), (1, .int (i32 l1)), (2, .ref (gh G + l2)), (3, .int (i32 l3)), (4, .int (i32 l4))]) X.1 X.2.1 dX7_firstWrong_113 hl (k := 5) rfl (by rw [← el5_1]; exact i32_add _ _) (by decide) rfl (fun ls hl => ?_)
  refine lv_goto (tgt := 15) X.1 X.2.1 dX7_firstWrong_116 (by decide) ?_
  exact h15  H locs ls l0 l1 l2 l3 l4 l5_1 hk_l0 hk_l2 hP hS hf (lv_sub hl [1, 2, 3, 4, 5, 0] rfl)
set_option maxHeartbeats 4000000 in
theorem a_X7_firstWrong_15 {p : Program} {l : Launch} {e : Env} {R : Room} {s : State} {m : MethodId} {args : Array Value} {below : List Frame} {meth : Method} {c : Code} {G : GT} {σ : Mem} {res : Int} {rec15 : Nat → Int → Nat → Int → Int → Int → Option (Int)} (X : CX p R s m args meth c cX7_firstWrong 7 RX7 (some FieldType.int) 6 180 G) (h15 : S_X7_firstWrong_15 rec15 p l e R s m args below meth c G σ res) : S_X7_firstWrong_15 (X7_firstWrong_B15 rec15 σ) p l e R s m args below meth c G σ res := by
  intro H locs ls l0 l1 l2 l3 l4 l5 hk_l0 hk_l2 hP hS hf hl
  unfold X7_firstWrong_B15 at hf
  refine lv_iload X.1 X.2.1 dX7_firstWrong_15 (lv_at hl 5 rfl) ?_
  refine lv_aload_n X.1 X.2.1 dX7_firstWrong_17 rfl (lv_at hl 0 rfl) ?_
  refine g_7_2 (r := l0 + 3) X hP hk_l0 rfl (tb t_173 rfl) dX7_firstWrong_18 ?_
  refine g_0_3 X hP (ch_7_2 hk_l0).1 (tb t_130 rfl) dX7_firstWrong_21 ?_
  refine r_icmp_ge (tgt := 119) X dX7_firstWrong_24 (by decide) (fun q => ?_) (fun q => ?_)
  · replace hf := it_inv q hf
    refine lv_aload_n X.1 X.2.1 dX7_firstWrong_119 rfl (lv_at hl 2 rfl) ?_
    refine lv_iload X.1 X.2.1 dX7_firstWrong_120 (lv_at hl 4 rfl) ?_
    refine r_iconst X 1 dX7_firstWrong_122 ?_
    refine r_iadd X dX7_firstWrong_123 ?_
    refine lv_aload_n X.1 X.2.1 dX7_firstWrong_124 rfl (lv_at hl 2 rfl) ?_
    refine g_5_2 X hP hk_l2 (tb t_158 rfl) dX7_firstWrong_125 ?_
    refine r_iconst X 1 dX7_firstWrong_128 ?_
    refine r_isub X dX7_firstWrong_129 ?_
    obtain ⟨r1, hr1, hf⟩ := bd_inv hf
    refine k_X5_roomFromTo X hP hS hl.1 hk_l2 hr1 (tb t_975 rfl) (by decide) (Nat.le_of_ble_eq_true rfl) dX7_firstWrong_130 (fun H locs hP hS => ?_)
    refine lv_aload_n X.1 X.2.1 dX7_firstWrong_133 rfl (lv_at hl 0 rfl) ?_
    refine g_7_1 (r := l0 + 2) X hP hk_l0 rfl (tb t_171 rfl) dX7_firstWrong_134 ?_
    refine r_iconst X 0 dX7_firstWrong_137 ?_
    obtain ⟨j2, hij2, hjj2, hlj2, hf⟩ := ag_inv hf
    refine r_iald X hP (ch_7_1 hk_l0).1 (ch_7_1 hk_l0).2 hij2 hjj2 dX7_firstWrong_138 ?_
    refine r_icmp_le (tgt := 148) X dX7_firstWrong_139 (by decide) (fun q => ?_) (fun q => ?_)
    · replace hf := it_inv q hf
      refine r_iconst X 0 dX7_firstWrong_148 ?_
      cases so_inv hf
      exact r_iret X hP hS dX7_firstWrong_149
    · replace hf := ie_inv q hf
      refine r_iconst X 1 dX7_firstWrong_142 ?_
      refine lv_iload_n X.1 X.2.1 dX7_firstWrong_143 rfl (lv_at hl 3 rfl) ?_
      refine r_iadd X dX7_firstWrong_144 ?_
      refine lv_goto (tgt := 149) X.1 X.2.1 dX7_firstWrong_145 (by decide) ?_
      cases so_inv hf
      exact r_iret X hP hS dX7_firstWrong_149
  · replace hf := ie_inv q hf
    refine lv_aload_n X.1 X.2.1 dX7_firstWrong_27 rfl (lv_at hl 0 rfl) ?_
    refine g_7_2 (r := l0 + 3) X hP hk_l0 rfl (tb t_173 rfl) dX7_firstWrong_28 ?_
    refine g_0_1 (r := l0 + 3 + 2) X hP (ch_7_2 hk_l0).1 rfl (tb t_124 rfl) dX7_firstWrong_31 ?_
    refine lv_iload X.1 X.2.1 dX7_firstWrong_34 (lv_at hl 5 rfl) ?_
    obtain ⟨j3, hij3, hjj3, hlj3, hf⟩ := ag_inv hf
    refine r_iald X hP (ch_0_1 (ch_7_2 hk_l0).1).1 (ch_0_1 (ch_7_2 hk_l0).1).2 hij3 hjj3 dX7_firstWrong_36 ?_
    refine lv_iload_n X.1 X.2.1 dX7_firstWrong_37 rfl (lv_at hl 1 rfl) ?_
    refine r_icmp_eq (tgt := 44) X dX7_firstWrong_38 (by decide) (fun q => ?_) (fun q => ?_)
    · replace hf := it_inv q hf
      refine lv_aload_n X.1 X.2.1 dX7_firstWrong_44 rfl (lv_at hl 0 rfl) ?_
      refine g_7_2 (r := l0 + 3) X hP hk_l0 rfl (tb t_173 rfl) dX7_firstWrong_45 ?_
      refine g_0_2 (r := l0 + 3 + 3) X hP (ch_7_2 hk_l0).1 rfl (tb t_127 rfl) dX7_firstWrong_48 ?_
      refine lv_iload X.1 X.2.1 dX7_firstWrong_51 (lv_at hl 5 rfl) ?_
      obtain ⟨j4, hij4, hjj4, hlj4, hf⟩ := ag_inv hf
      refine r_iald X hP (ch_0_2 (ch_7_2 hk_l0).1).1 (ch_0_2 (ch_7_2 hk_l0).1).2 hij4 hjj4 dX7_firstWrong_53 ?_
      obtain ⟨l6_5, el6_5, hf⟩ := lt_inv hf
      refine r_eqi el6_5 ?_
      refine lv_istore (lv' := [(6, .int (i32 l6_5)), (0, .ref (gh G + l0)), (1, .int (i32 l1)), (2, .ref (gh G + l2)), (3, .int (i32 l3)), (4, .int (i32 l4)), (5, .int (i32 l5))]) X.1 X.2.1 dX7_firstWrong_54 hl (by decide) rfl (fun ls hl => ?_)
      refine lv_iload X.1 X.2.1 dX7_firstWrong_56 (lv_at hl 0 rfl) ?_
      refine lv_iload X.1 X.2.1 dX7_firstWrong_58 (lv_at hl 5 rfl) ?_
      refine r_icmp_le (tgt := 102) X dX7_firstWrong_60 (by decide) (fun q => ?_) (fun q => ?_)
      · replace hf := it_inv q hf
        refine r_iconst X 1 dX7_firstWrong_102 ?_
        refine lv_iload_n X.1 X.2.1 dX7_firstWrong_103 rfl (lv_at hl 4 rfl) ?_
        refine r_iadd X dX7_firstWrong_104 ?_
        cases so_inv hf
        exact r_iret X hP hS dX7_firstWrong_105
      · replace hf := ie_inv q hf
        refine lv_aload_n X.1 X.2.1 dX7_firstWrong_63 rfl (lv_at hl 1 rfl) ?_
        refine lv_aload_n X.1 X.2.1 dX7_firstWrong_64 rfl (lv_at hl 1 rfl) ?_
        refine g_7_2 (r := l0 + 3) X hP hk_l0 rfl (tb t_173 rfl) dX7_firstWrong_65 ?_
        refine g_0_0 (r := l0 + 3 + 1) X hP (ch_7_2 hk_l0).1 rfl (tb t_121 rfl) dX7_firstWrong_68 ?_
        refine lv_iload X.1 X.2.1 dX7_firstWrong_71 (lv_at hl 6 rfl) ?_
        obtain ⟨j6, hij6, hjj6, hlj6, hf⟩ := ag_inv hf
        refine r_iald X hP (ch_0_0 (ch_7_2 hk_l0).1).1 (ch_0_0 (ch_7_2 hk_l0).1).2 hij6 hjj6 dX7_firstWrong_73 ?_
        refine lv_iload_n X.1 X.2.1 dX7_firstWrong_74 rfl (lv_at hl 2 rfl) ?_
        refine lv_iload X.1 X.2.1 dX7_firstWrong_75 (lv_at hl 0 rfl) ?_
        obtain ⟨r7, hr7, hf⟩ := bd_inv hf
        refine k_X7_mayBreak X hP hS hl.1 hk_l0 hr7 (tb t_974 rfl) (by decide) (Nat.le_of_ble_eq_true rfl) dX7_firstWrong_77 (fun H locs hP hS => ?_)
        refine r_if_eq (tgt := 102) X dX7_firstWrong_80 (by decide) (fun q => ?_) (fun q => ?_)
        · replace hf := it_inv q hf
          refine r_iconst X 1 dX7_firstWrong_102 ?_
          refine lv_iload_n X.1 X.2.1 dX7_firstWrong_103 rfl (lv_at hl 4 rfl) ?_
          refine r_iadd X dX7_firstWrong_104 ?_
          cases so_inv hf
          exact r_iret X hP hS dX7_firstWrong_105
        · replace hf := ie_inv q hf
          refine lv_aload_n X.1 X.2.1 dX7_firstWrong_83 rfl (lv_at hl 3 rfl) ?_
          refine lv_iload X.1 X.2.1 dX7_firstWrong_84 (lv_at hl 5 rfl) ?_
          refine r_iconst X 1 dX7_firstWrong_86 ?_
          refine r_iadd X dX7_firstWrong_87 ?_
          refine lv_iload X.1 X.2.1 dX7_firstWrong_88 (lv_at hl 0 rfl) ?_
          obtain ⟨r8, hr8, hf⟩ := bd_inv hf
          refine k_X5_roomFromTo X hP hS hl.1 hk_l2 hr8 (tb t_975 rfl) (by decide) (Nat.le_of_ble_eq_true rfl) dX7_firstWrong_90 (fun H locs hP hS => ?_)
          refine lv_aload_n X.1 X.2.1 dX7_firstWrong_93 rfl (lv_at hl 1 rfl) ?_
          refine g_7_1 (r := l0 + 2) X hP hk_l0 rfl (tb t_171 rfl) dX7_firstWrong_94 ?_
          refine r_iconst X 0 dX7_firstWrong_97 ?_
          obtain ⟨j9, hij9, hjj9, hlj9, hf⟩ := ag_inv hf
          refine r_iald X hP (ch_7_1 hk_l0).1 (ch_7_1 hk_l0).2 hij9 hjj9 dX7_firstWrong_98 ?_
          refine r_icmp_le (tgt := 106) X dX7_firstWrong_99 (by decide) (fun q => ?_) (fun q => ?_)
          · replace hf := it_inv q hf
            obtain ⟨l3_10, el3_10, hf⟩ := lt_inv hf
            refine lv_iinc (v := i32 l3_10) (lv' := [(3, .int (i32 l3_10)), (6, .int (i32 l6_5)), (0, .ref (gh G + l0)), (1, .int (i32 l1)), (2, .ref (gh G + l2)), (4, .int (i32 l4)), (5, .int (i32 l5))]) X.1 X.2.1 dX7_firstWrong_106 hl (k := 4) rfl (by rw [← el3_10]; exact i32_add _ _) (by decide) rfl (fun ls hl => ?_)
            refine lv_iload X.1 X.2.1 dX7_firstWrong_109 (lv_at hl 1 rfl) ?_
            refine lv_istore (lv' := [(4, .int (i32 l6_5)), (3, .int (i32 l3_10)), (6, .int (i32 l6_5)), (0, .ref (gh G + l0)), (1, .int (i32 l1)), (2, .ref (gh G + l2)), (5, .int (i32 l5))]) X.1 X.2.1 dX7_firstWrong_111 hl (by decide) rfl (fun ls hl => ?_)
            exact a_X7_firstWrong_113 X h15  H locs ls l0 l1 l2 l3_10 l6_5 l5 hk_l0 hk_l2 hP hS hf (lv_sub hl [3, 4, 5, 1, 0, 6] rfl)
          · replace hf := ie_inv q hf
            refine r_iconst X 1 dX7_firstWrong_102 ?_
            refine lv_iload_n X.1 X.2.1 dX7_firstWrong_103 rfl (lv_at hl 4 rfl) ?_
            refine r_iadd X dX7_firstWrong_104 ?_
            cases so_inv hf
            exact r_iret X hP hS dX7_firstWrong_105
    · replace hf := ie_inv q hf
      refine lv_goto (tgt := 113) X.1 X.2.1 dX7_firstWrong_41 (by decide) ?_
      exact a_X7_firstWrong_113 X h15  H locs ls l0 l1 l2 l3 l4 l5 hk_l0 hk_l2 hP hS hf hl
theorem al_X7_firstWrong_15 {p : Program} {l : Launch} {e : Env} {R : Room} {s : State} {m : MethodId} {args : Array Value} {below : List Frame} {meth : Method} {c : Code} {G : GT} {σ : Mem} {res : Int} (X : CX p R s m args meth c cX7_firstWrong 7 RX7 (some FieldType.int) 6 180 G) : ∀ n, S_X7_firstWrong_15 (X7_firstWrong_L15 σ n) p l e R s m args below meth c G σ res := by
  intro n
  induction n with
  | zero =>
    intro H locs ls l0 l1 l2 l3 l4 l5 hk_l0 hk_l2 hP hS hf hl
    cases hf
  | succ n ih => exact a_X7_firstWrong_15 X ih
set_option maxHeartbeats 4000000 in
theorem a_X7_firstWrong_0 {p : Program} {l : Launch} {e : Env} {R : Room} {s : State} {m : MethodId} {args : Array Value} {below : List Frame} {meth : Method} {c : Code} {G : GT} {σ : Mem} {res : Int} (X : CX p R s m args meth c cX7_firstWrong 7 RX7 (some FieldType.int) 6 180 G) : S_X7_firstWrong_0 (X7_firstWrong σ) p l e R s m args below meth c G σ res := by
  intro H locs ls l0 l1 hk_l0 hP hS hf hl
  unfold X7_firstWrong at hf
  refine lv_aload_n X.1 X.2.1 dX7_firstWrong_0 rfl (lv_at hl 0 rfl) ?_
  refine g_7_0 (r := l0 + 1) X hP hk_l0 rfl (tb t_168 rfl) dX7_firstWrong_1 ?_
  refine lv_iload_n X.1 X.2.1 dX7_firstWrong_4 rfl (lv_at hl 1 rfl) ?_
  obtain ⟨j1, hij1, hjj1, hlj1, hf⟩ := ag_inv hf
  refine r_aald18 (r := l0 + 1 + 7 + 3 * j1) X hP (ch_7_0 hk_l0).1 (ch_7_0 hk_l0).2 hij1 hjj1 rfl dX7_firstWrong_5 ?_
  refine lv_astore_n (lv' := [(2, .ref (gh G + (l0 + 1 + 7 + 3 * j1))), (0, .ref (gh G + l0)), (1, .int (i32 l1))]) X.1 X.2.1 dX7_firstWrong_6 rfl hl (by decide) rfl (fun ls hl => ?_)
  refine r_iconst X 0 dX7_firstWrong_7 ?_
  refine lv_istore_n (lv' := [(3, .int (i32 0)), (2, .ref (gh G + (l0 + 1 + 7 + 3 * j1))), (0, .ref (gh G + l0)), (1, .int (i32 l1))]) X.1 X.2.1 dX7_firstWrong_8 rfl hl (by decide) rfl (fun ls hl => ?_)
  refine r_iconst X (-1) dX7_firstWrong_9 ?_
  refine lv_istore (lv' := [(4, .int (i32 (-1))), (3, .int (i32 0)), (2, .ref (gh G + (l0 + 1 + 7 + 3 * j1))), (0, .ref (gh G + l0)), (1, .int (i32 l1))]) X.1 X.2.1 dX7_firstWrong_10 hl (by decide) rfl (fun ls hl => ?_)
  refine r_iconst X 0 dX7_firstWrong_12 ?_
  refine lv_istore (lv' := [(5, .int (i32 0)), (4, .int (i32 (-1))), (3, .int (i32 0)), (2, .ref (gh G + (l0 + 1 + 7 + 3 * j1))), (0, .ref (gh G + l0)), (1, .int (i32 l1))]) X.1 X.2.1 dX7_firstWrong_13 hl (by decide) rfl (fun ls hl => ?_)
  exact al_X7_firstWrong_15 X 5000  H locs ls l0 l1 (l0 + 1 + 7 + 3 * j1) 0 (-1) 0 hk_l0 ((ch_18 (ch_7_0 hk_l0).1).2 j1 hlj1) hP hS hf (lv_sub hl [4, 5, 3, 2, 1, 0] rfl)
set_option maxHeartbeats 4000000 in
theorem c_X7_firstWrong {l : Launch} {G : GT} {σ : Mem} {res : Int} {l0 : Nat} {l1 : Int} (hk_l0 : kd l0 = 7) (hf : X7_firstWrong σ l0 l1 = some res) : CT l yX7_firstWrong cX7_firstWrong 7 (some FieldType.int) 6 180 G [.ref (gh G + l0), .int (i32 l1)] σ σ (some (.int (i32 res))) := by
  refine CT.mk (own := RX7) (by decide) rfl (Nat.le_of_ble_eq_true rfl) ?_
  intro p e s m below meth c ls X hP hS hl
  have hl : lv_has ls 7 [(0, .ref (gh G + l0)), (1, .int (i32 l1))] := hl
  exact a_X7_firstWrong_0 X  s.heap [] ls l0 l1 hk_l0 hP hS hf hl
theorem k_X7_firstWrong {p : Program} {l : Launch} {e : Env} {R : Room} {s : State} {m : MethodId} {args : Array Value} {below : List Frame} {meth : Method} {c : Code} {H : Heap} {locs : List Loc} {Q : State → Prop} {cc : ByteArray} {nL : Nat} {own : String} {ret : Option FieldType} {fF fL : Nat} {G : GT} {pc idx : Nat} {ls : Array Slot} {rest : List Value} {σ : Mem} {res : Int} {l0 : Nat} {l1 : Int} (X : CX p R s m args meth c cc nL own ret fF fL G) (hP : PW G σ H) (hS : va_S (AA G) s.heap H locs) (hls : ls.size = nL) (hk_l0 : kd l0 = 7) (hf : X7_firstWrong σ l0 l1 = some res) (h1 : Cond.methodLink own idx yX7_firstWrong ∈ TB) (hR : 6 + 1 ≤ fF ∧ 8 + (7 + 11) + 180 ≤ fL) (hW : (rest.map fun v => v.category).sum ≤ 8) (hd : decode cc pc = .ok (.invokevirtual idx, 3)) (kk : ∀ (H1 : Heap) (locs1 : List Loc), PW G σ H1 → va_S (AA G) s.heap H1 locs1 → W p l e R s m args below meth c H1 locs1 0 0 Q (F0 m (pc + 3) ls (.int (i32 res) :: rest))) : W p l e R s m args below meth c H locs 0 0 Q (F0 m pc ls (.int (i32 l1) :: .ref (gh G + l0) :: rest)) := r_callV (n := 1) X hP hS hls (c_X7_firstWrong hk_l0 hf) h1 (tb t_971 rfl) (tb t_972 rfl) (tb t_76 rfl) (tb t_973 rfl) (by decide +kernel) hR (r_recv X hP (kd_lt hk_l0 (by decide)) (cE_7 hk_l0) rfl) rfl rfl hW hd kk
/-! X10_judge -/
theorem dX10_judge_0 : decode cX10_judge 0 = .ok (.iload_n 1, 1) := by decide +kernel
theorem dX10_judge_1 : decode cX10_judge 1 = .ok (.invokestatic 58, 3) := by decide +kernel
theorem dX10_judge_4 : decode cX10_judge 4 = .ok (.ifCond .eq 14, 3) := by decide +kernel
theorem dX10_judge_7 : decode cX10_judge 7 = .ok (.aload_n 0, 1) := by decide +kernel
theorem dX10_judge_8 : decode cX10_judge 8 = .ok (.getfield 10, 3) := by decide +kernel
theorem dX10_judge_11 : decode cX10_judge 11 = .ok (.iload_n 1, 1) := by decide +kernel
theorem dX10_judge_12 : decode cX10_judge 12 = .ok (.invokevirtual 290, 3) := by decide +kernel
theorem dX10_judge_15 : decode cX10_judge 15 = .ok (.goto 9, 3) := by decide +kernel
theorem dX10_judge_18 : decode cX10_judge 18 = .ok (.aload_n 0, 1) := by decide +kernel
theorem dX10_judge_19 : decode cX10_judge 19 = .ok (.ldc 72, 2) := by decide +kernel
theorem dX10_judge_21 : decode cX10_judge 21 = .ok (.invokevirtual 73, 3) := by decide +kernel
theorem dX10_judge_24 : decode cX10_judge 24 = .ok (.ireturn, 1) := by decide +kernel
def X10_judge (σ : Mem) (l1 : Int) : Option (Int × Mem) :=
  bd (X10_isPart σ l1) fun r1 =>
  if w32 r1 = 0 then
    bd2 (X10_tell σ (-1000001)) fun r2 s3 =>
    some (r2, s3)
  else
  bd (X7_firstWrong σ 1 l1) fun r4 =>
  some (r4, σ)
def S_X10_judge_0 (fn : Mem → Int → Option (Int × Mem)) (p : Program) (l : Launch) (e : Env) (R : Room) (s : State) (m : MethodId) (args : Array Value) (below : List Frame) (meth : Method) (c : Code) (G : GT) (τ : Mem) (res : Int) : Prop := ∀ (σ : Mem) (H : Heap) (locs : List Loc) (ls : Array Slot) (l1 : Int), PW G σ H → va_S (AA G) s.heap H locs → fn σ l1 = some (res, τ) → lv_has ls 2 [(0, .ref (gh G + 0)), (1, .int (i32 l1))] → W p l e R s m args below meth c H locs 0 0 (MQ below (QM G (some (.int (i32 res))) τ) args s 0 0 (AA G)) (F0 m 0 ls [])
set_option maxHeartbeats 4000000 in
theorem a_X10_judge_0 {p : Program} {l : Launch} {e : Env} {R : Room} {s : State} {m : MethodId} {args : Array Value} {below : List Frame} {meth : Method} {c : Code} {G : GT} {τ : Mem} {res : Int} (X : CX p R s m args meth c cX10_judge 2 RX10 (some FieldType.int) 7 206 G) : S_X10_judge_0 (X10_judge) p l e R s m args below meth c G τ res := by
  intro σ H locs ls l1 hP hS hf hl
  unfold X10_judge at hf
  refine lv_iload_n X.1 X.2.1 dX10_judge_0 rfl (lv_at hl 1 rfl) ?_
  obtain ⟨r1, hr1, hf⟩ := bd_inv hf
  refine k_X10_isPart X hP hS hl.1  hr1 (tb t_420 rfl) (by decide) (Nat.le_of_ble_eq_true rfl) dX10_judge_1 (fun H locs hP hS => ?_)
  refine r_if_eq (tgt := 18) X dX10_judge_4 (by decide) (fun q => ?_) (fun q => ?_)
  · replace hf := it_inv q hf
    refine lv_aload_n X.1 X.2.1 dX10_judge_18 rfl (lv_at hl 0 rfl) ?_
    refine r_ldc X (-1000001) (tb t_430 rfl) (by decide) dX10_judge_19 ?_
    obtain ⟨r2, s3, hr2, hf⟩ := bd2_inv hf
    refine k_X10_tell X hP hS hl.1  hr2 (tb t_431 rfl) (by decide) (Nat.le_of_ble_eq_true rfl) dX10_judge_21 (fun H locs hP hS => ?_)
    obtain ⟨rfl, rfl⟩ := so2_inv hf
    exact r_iret X hP hS dX10_judge_24
  · replace hf := ie_inv q hf
    refine lv_aload_n X.1 X.2.1 dX10_judge_7 rfl (lv_at hl 0 rfl) ?_
    refine g_10_0 (r := 1) X hP ks_10 rfl (tb t_388 rfl) dX10_judge_8 ?_
    refine lv_iload_n X.1 X.2.1 dX10_judge_11 rfl (lv_at hl 1 rfl) ?_
    obtain ⟨r4, hr4, hf⟩ := bd_inv hf
    refine k_X7_firstWrong X hP hS hl.1 (ch_10_0 ks_10).1 hr4 (tb t_970 rfl) (by decide) (Nat.le_of_ble_eq_true rfl) dX10_judge_12 (fun H locs hP hS => ?_)
    refine lv_goto (tgt := 24) X.1 X.2.1 dX10_judge_15 (by decide) ?_
    obtain ⟨rfl, rfl⟩ := so2_inv hf
    exact r_iret X hP hS dX10_judge_24
set_option maxHeartbeats 4000000 in
theorem c_X10_judge {l : Launch} {G : GT} {σ τ : Mem} {res : Int} {l1 : Int} (hf : X10_judge σ l1 = some (res, τ)) : CT l yX10_judge cX10_judge 2 (some FieldType.int) 7 206 G [.ref (gh G + 0), .int (i32 l1)] σ τ (some (.int (i32 res))) := by
  refine CT.mk (own := RX10) (by decide) rfl (Nat.le_of_ble_eq_true rfl) ?_
  intro p e s m below meth c ls X hP hS hl
  have hl : lv_has ls 2 [(0, .ref (gh G + 0)), (1, .int (i32 l1))] := hl
  exact a_X10_judge_0 X σ s.heap [] ls l1 hP hS hf hl
theorem k_X10_judge {p : Program} {l : Launch} {e : Env} {R : Room} {s : State} {m : MethodId} {args : Array Value} {below : List Frame} {meth : Method} {c : Code} {H : Heap} {locs : List Loc} {Q : State → Prop} {cc : ByteArray} {nL : Nat} {own : String} {ret : Option FieldType} {fF fL : Nat} {G : GT} {pc idx : Nat} {ls : Array Slot} {rest : List Value} {σ τ : Mem} {res : Int} {l1 : Int} (X : CX p R s m args meth c cc nL own ret fF fL G) (hP : PW G σ H) (hS : va_S (AA G) s.heap H locs) (hls : ls.size = nL) (hf : X10_judge σ l1 = some (res, τ)) (h1 : Cond.methodLink own idx yX10_judge ∈ TB) (hR : 7 + 1 ≤ fF ∧ 8 + (2 + 11) + 206 ≤ fL) (hW : (rest.map fun v => v.category).sum ≤ 8) (hd : decode cc pc = .ok (.invokevirtual idx, 3)) (kk : ∀ (H1 : Heap) (locs1 : List Loc), PW G τ H1 → va_S (AA G) s.heap H1 locs1 → W p l e R s m args below meth c H1 locs1 0 0 Q (F0 m (pc + 3) ls (.int (i32 res) :: rest))) : W p l e R s m args below meth c H locs 0 0 Q (F0 m pc ls (.int (i32 l1) :: .ref (gh G + 0) :: rest)) := r_callV (n := 1) X hP hS hls (c_X10_judge hf) h1 (tb t_967 rfl) (tb t_968 rfl) (tb t_75 rfl) (tb t_969 rfl) (by decide +kernel) hR (r_recv X hP (kd_lt ks_10 (by decide)) (cE_10 ks_10) rfl) rfl rfl hW hd kk
/-! X2_ofPage -/
theorem dX2_ofPage_0 : decode cX2_ofPage 0 = .ok (.iload_n 2, 1) := by decide +kernel
theorem dX2_ofPage_1 : decode cX2_ofPage 1 = .ok (.tableswitch 70 0 4 #[35, 42, 49, 56, 63], 35) := by decide +kernel
theorem dX2_ofPage_36 : decode cX2_ofPage 36 = .ok (.aload_n 0, 1) := by decide +kernel
theorem dX2_ofPage_37 : decode cX2_ofPage 37 = .ok (.getfield 9, 3) := by decide +kernel
theorem dX2_ofPage_40 : decode cX2_ofPage 40 = .ok (.iload_n 1, 1) := by decide +kernel
theorem dX2_ofPage_41 : decode cX2_ofPage 41 = .ok (.iaload, 1) := by decide +kernel
theorem dX2_ofPage_42 : decode cX2_ofPage 42 = .ok (.ireturn, 1) := by decide +kernel
theorem dX2_ofPage_43 : decode cX2_ofPage 43 = .ok (.aload_n 0, 1) := by decide +kernel
theorem dX2_ofPage_44 : decode cX2_ofPage 44 = .ok (.getfield 15, 3) := by decide +kernel
theorem dX2_ofPage_47 : decode cX2_ofPage 47 = .ok (.iload_n 1, 1) := by decide +kernel
theorem dX2_ofPage_48 : decode cX2_ofPage 48 = .ok (.iaload, 1) := by decide +kernel
theorem dX2_ofPage_49 : decode cX2_ofPage 49 = .ok (.ireturn, 1) := by decide +kernel
theorem dX2_ofPage_50 : decode cX2_ofPage 50 = .ok (.aload_n 0, 1) := by decide +kernel
theorem dX2_ofPage_51 : decode cX2_ofPage 51 = .ok (.getfield 18, 3) := by decide +kernel
theorem dX2_ofPage_54 : decode cX2_ofPage 54 = .ok (.iload_n 1, 1) := by decide +kernel
theorem dX2_ofPage_55 : decode cX2_ofPage 55 = .ok (.iaload, 1) := by decide +kernel
theorem dX2_ofPage_56 : decode cX2_ofPage 56 = .ok (.ireturn, 1) := by decide +kernel
theorem dX2_ofPage_57 : decode cX2_ofPage 57 = .ok (.aload_n 0, 1) := by decide +kernel
theorem dX2_ofPage_58 : decode cX2_ofPage 58 = .ok (.getfield 21, 3) := by decide +kernel
theorem dX2_ofPage_61 : decode cX2_ofPage 61 = .ok (.iload_n 1, 1) := by decide +kernel
theorem dX2_ofPage_62 : decode cX2_ofPage 62 = .ok (.iaload, 1) := by decide +kernel
theorem dX2_ofPage_63 : decode cX2_ofPage 63 = .ok (.ireturn, 1) := by decide +kernel
theorem dX2_ofPage_64 : decode cX2_ofPage 64 = .ok (.aload_n 0, 1) := by decide +kernel
theorem dX2_ofPage_65 : decode cX2_ofPage 65 = .ok (.getfield 24, 3) := by decide +kernel
theorem dX2_ofPage_68 : decode cX2_ofPage 68 = .ok (.iload_n 1, 1) := by decide +kernel
theorem dX2_ofPage_69 : decode cX2_ofPage 69 = .ok (.iaload, 1) := by decide +kernel
theorem dX2_ofPage_70 : decode cX2_ofPage 70 = .ok (.ireturn, 1) := by decide +kernel
theorem dX2_ofPage_71 : decode cX2_ofPage 71 = .ok (.aload_n 0, 1) := by decide +kernel
theorem dX2_ofPage_72 : decode cX2_ofPage 72 = .ok (.getfield 30, 3) := by decide +kernel
theorem dX2_ofPage_75 : decode cX2_ofPage 75 = .ok (.aload_n 0, 1) := by decide +kernel
theorem dX2_ofPage_76 : decode cX2_ofPage 76 = .ok (.getfield 15, 3) := by decide +kernel
theorem dX2_ofPage_79 : decode cX2_ofPage 79 = .ok (.iload_n 1, 1) := by decide +kernel
theorem dX2_ofPage_80 : decode cX2_ofPage 80 = .ok (.iaload, 1) := by decide +kernel
theorem dX2_ofPage_81 : decode cX2_ofPage 81 = .ok (.iaload, 1) := by decide +kernel
theorem dX2_ofPage_82 : decode cX2_ofPage 82 = .ok (.ireturn, 1) := by decide +kernel
def X2_ofPage (σ : Mem) (l0 : Nat) (l1 : Int) (l2 : Int) : Option (Int) :=
  if w32 l2 = 0 then
    ag 40 l1 fun j1 =>
    some (σ (l0 + 1) j1)
  else
  if w32 l2 = 1 then
    ag 40 l1 fun j2 =>
    some (σ (l0 + 2) j2)
  else
  if w32 l2 = 2 then
    ag 40 l1 fun j3 =>
    some (σ (l0 + 3) j3)
  else
  if w32 l2 = 3 then
    ag 40 l1 fun j4 =>
    some (σ (l0 + 4) j4)
  else
  if w32 l2 = 4 then
    ag 40 l1 fun j5 =>
    some (σ (l0 + 5) j5)
  else
  ag 40 l1 fun j6 =>
  ag 40 (σ (l0 + 2) j6) fun j7 =>
  some (σ (l0 + 7) j7)
def S_X2_ofPage_0 (fn : Nat → Int → Int → Option (Int)) (p : Program) (l : Launch) (e : Env) (R : Room) (s : State) (m : MethodId) (args : Array Value) (below : List Frame) (meth : Method) (c : Code) (G : GT) (σ : Mem) (res : Int) : Prop := ∀ (H : Heap) (locs : List Loc) (ls : Array Slot) (l0 : Nat) (l1 : Int) (l2 : Int), kd l0 = 2 → PW G σ H → va_S (AA G) s.heap H locs → fn l0 l1 l2 = some res → lv_has ls 3 [(0, .ref (gh G + l0)), (1, .int (i32 l1)), (2, .int (i32 l2))] → W p l e R s m args below meth c H locs 0 0 (MQ below (QM G (some (.int (i32 res))) σ) args s 0 0 (AA G)) (F0 m 0 ls [])
set_option maxHeartbeats 4000000 in
theorem a_X2_ofPage_0 {p : Program} {l : Launch} {e : Env} {R : Room} {s : State} {m : MethodId} {args : Array Value} {below : List Frame} {meth : Method} {c : Code} {G : GT} {σ : Mem} {res : Int} (X : CX p R s m args meth c cX2_ofPage 3 RX2 (some FieldType.int) 1 60 G) : S_X2_ofPage_0 (X2_ofPage σ) p l e R s m args below meth c G σ res := by
  intro H locs ls l0 l1 l2 hk_l0 hP hS hf hl
  unfold X2_ofPage at hf
  refine lv_iload_n X.1 X.2.1 dX2_ofPage_0 rfl (lv_at hl 2 rfl) ?_
  by_cases q0 : w32 l2 = 0
  · replace hf := it_inv q0 hf
    refine r_tsI (tgt := 36) (off := 35) X 0 dX2_ofPage_1 q0 (by decide) (by decide) ?_
    refine lv_aload_n X.1 X.2.1 dX2_ofPage_36 rfl (lv_at hl 0 rfl) ?_
    refine g_2_6 (r := l0 + 1) X hP hk_l0 rfl (tb t_351 rfl) dX2_ofPage_37 ?_
    refine lv_iload_n X.1 X.2.1 dX2_ofPage_40 rfl (lv_at hl 1 rfl) ?_
    obtain ⟨j1, hij1, hjj1, hlj1, hf⟩ := ag_inv hf
    refine r_iald X hP (ch_2_6 hk_l0).1 (ch_2_6 hk_l0).2 hij1 hjj1 dX2_ofPage_41 ?_
    cases so_inv hf
    exact r_iret X hP hS dX2_ofPage_42
  replace hf := ie_inv q0 hf
  by_cases q1 : w32 l2 = 1
  · replace hf := it_inv q1 hf
    refine r_tsI (tgt := 43) (off := 42) X 1 dX2_ofPage_1 q1 (by decide) (by decide) ?_
    refine lv_aload_n X.1 X.2.1 dX2_ofPage_43 rfl (lv_at hl 0 rfl) ?_
    refine g_2_7 (r := l0 + 2) X hP hk_l0 rfl (tb t_352 rfl) dX2_ofPage_44 ?_
    refine lv_iload_n X.1 X.2.1 dX2_ofPage_47 rfl (lv_at hl 1 rfl) ?_
    obtain ⟨j2, hij2, hjj2, hlj2, hf⟩ := ag_inv hf
    refine r_iald X hP (ch_2_7 hk_l0).1 (ch_2_7 hk_l0).2 hij2 hjj2 dX2_ofPage_48 ?_
    cases so_inv hf
    exact r_iret X hP hS dX2_ofPage_49
  replace hf := ie_inv q1 hf
  by_cases q2 : w32 l2 = 2
  · replace hf := it_inv q2 hf
    refine r_tsI (tgt := 50) (off := 49) X 2 dX2_ofPage_1 q2 (by decide) (by decide) ?_
    refine lv_aload_n X.1 X.2.1 dX2_ofPage_50 rfl (lv_at hl 0 rfl) ?_
    refine g_2_8 (r := l0 + 3) X hP hk_l0 rfl (tb t_354 rfl) dX2_ofPage_51 ?_
    refine lv_iload_n X.1 X.2.1 dX2_ofPage_54 rfl (lv_at hl 1 rfl) ?_
    obtain ⟨j3, hij3, hjj3, hlj3, hf⟩ := ag_inv hf
    refine r_iald X hP (ch_2_8 hk_l0).1 (ch_2_8 hk_l0).2 hij3 hjj3 dX2_ofPage_55 ?_
    cases so_inv hf
    exact r_iret X hP hS dX2_ofPage_56
  replace hf := ie_inv q2 hf
  by_cases q3 : w32 l2 = 3
  · replace hf := it_inv q3 hf
    refine r_tsI (tgt := 57) (off := 56) X 3 dX2_ofPage_1 q3 (by decide) (by decide) ?_
    refine lv_aload_n X.1 X.2.1 dX2_ofPage_57 rfl (lv_at hl 0 rfl) ?_
    refine g_2_9 (r := l0 + 4) X hP hk_l0 rfl (tb t_355 rfl) dX2_ofPage_58 ?_
    refine lv_iload_n X.1 X.2.1 dX2_ofPage_61 rfl (lv_at hl 1 rfl) ?_
    obtain ⟨j4, hij4, hjj4, hlj4, hf⟩ := ag_inv hf
    refine r_iald X hP (ch_2_9 hk_l0).1 (ch_2_9 hk_l0).2 hij4 hjj4 dX2_ofPage_62 ?_
    cases so_inv hf
    exact r_iret X hP hS dX2_ofPage_63
  replace hf := ie_inv q3 hf
  by_cases q4 : w32 l2 = 4
  · replace hf := it_inv q4 hf
    refine r_tsI (tgt := 64) (off := 63) X 4 dX2_ofPage_1 q4 (by decide) (by decide) ?_
    refine lv_aload_n X.1 X.2.1 dX2_ofPage_64 rfl (lv_at hl 0 rfl) ?_
    refine g_2_10 (r := l0 + 5) X hP hk_l0 rfl (tb t_356 rfl) dX2_ofPage_65 ?_
    refine lv_iload_n X.1 X.2.1 dX2_ofPage_68 rfl (lv_at hl 1 rfl) ?_
    obtain ⟨j5, hij5, hjj5, hlj5, hf⟩ := ag_inv hf
    refine r_iald X hP (ch_2_10 hk_l0).1 (ch_2_10 hk_l0).2 hij5 hjj5 dX2_ofPage_69 ?_
    cases so_inv hf
    exact r_iret X hP hS dX2_ofPage_70
  replace hf := ie_inv q4 hf
  refine r_tsO (tgt := 71) X dX2_ofPage_1 (by omega) (by decide) ?_
  refine lv_aload_n X.1 X.2.1 dX2_ofPage_71 rfl (lv_at hl 0 rfl) ?_
  refine g_2_12 (r := l0 + 7) X hP hk_l0 rfl (tb t_359 rfl) dX2_ofPage_72 ?_
  refine lv_aload_n X.1 X.2.1 dX2_ofPage_75 rfl (lv_at hl 0 rfl) ?_
  refine g_2_7 (r := l0 + 2) X hP hk_l0 rfl (tb t_352 rfl) dX2_ofPage_76 ?_
  refine lv_iload_n X.1 X.2.1 dX2_ofPage_79 rfl (lv_at hl 1 rfl) ?_
  obtain ⟨j6, hij6, hjj6, hlj6, hf⟩ := ag_inv hf
  refine r_iald X hP (ch_2_7 hk_l0).1 (ch_2_7 hk_l0).2 hij6 hjj6 dX2_ofPage_80 ?_
  obtain ⟨j7, hij7, hjj7, hlj7, hf⟩ := ag_inv hf
  refine r_iald X hP (ch_2_12 hk_l0).1 (ch_2_12 hk_l0).2 hij7 hjj7 dX2_ofPage_81 ?_
  cases so_inv hf
  exact r_iret X hP hS dX2_ofPage_82
set_option maxHeartbeats 4000000 in
theorem c_X2_ofPage {l : Launch} {G : GT} {σ : Mem} {res : Int} {l0 : Nat} {l1 : Int} {l2 : Int} (hk_l0 : kd l0 = 2) (hf : X2_ofPage σ l0 l1 l2 = some res) : CT l yX2_ofPage cX2_ofPage 3 (some FieldType.int) 1 60 G [.ref (gh G + l0), .int (i32 l1), .int (i32 l2)] σ σ (some (.int (i32 res))) := by
  refine CT.mk (own := RX2) (by decide) rfl (Nat.le_of_ble_eq_true rfl) ?_
  intro p e s m below meth c ls X hP hS hl
  have hl : lv_has ls 3 [(0, .ref (gh G + l0)), (1, .int (i32 l1)), (2, .int (i32 l2))] := hl
  exact a_X2_ofPage_0 X  s.heap [] ls l0 l1 l2 hk_l0 hP hS hf hl
theorem k_X2_ofPage {p : Program} {l : Launch} {e : Env} {R : Room} {s : State} {m : MethodId} {args : Array Value} {below : List Frame} {meth : Method} {c : Code} {H : Heap} {locs : List Loc} {Q : State → Prop} {cc : ByteArray} {nL : Nat} {own : String} {ret : Option FieldType} {fF fL : Nat} {G : GT} {pc idx : Nat} {ls : Array Slot} {rest : List Value} {σ : Mem} {res : Int} {l0 : Nat} {l1 : Int} {l2 : Int} (X : CX p R s m args meth c cc nL own ret fF fL G) (hP : PW G σ H) (hS : va_S (AA G) s.heap H locs) (hls : ls.size = nL) (hk_l0 : kd l0 = 2) (hf : X2_ofPage σ l0 l1 l2 = some res) (h1 : Cond.methodLink own idx yX2_ofPage ∈ TB) (hR : 1 + 1 ≤ fF ∧ 8 + (3 + 11) + 60 ≤ fL) (hW : (rest.map fun v => v.category).sum ≤ 8) (hd : decode cc pc = .ok (.invokevirtual idx, 3)) (kk : ∀ (H1 : Heap) (locs1 : List Loc), PW G σ H1 → va_S (AA G) s.heap H1 locs1 → W p l e R s m args below meth c H1 locs1 0 0 Q (F0 m (pc + 3) ls (.int (i32 res) :: rest))) : W p l e R s m args below meth c H locs 0 0 Q (F0 m pc ls (.int (i32 l2) :: .int (i32 l1) :: .ref (gh G + l0) :: rest)) := r_callV (n := 2) X hP hS hls (c_X2_ofPage hk_l0 hf) h1 (tb t_866 rfl) (tb t_867 rfl) (tb t_86 rfl) (tb t_868 rfl) (by decide +kernel) hR (r_recv X hP (kd_lt hk_l0 (by decide)) (cE_2 hk_l0) rfl) rfl rfl hW hd kk
/-! X10_laid -/
theorem dX10_laid_0 : decode cX10_laid 0 = .ok (.iload_n 1, 1) := by decide +kernel
theorem dX10_laid_1 : decode cX10_laid 1 = .ok (.invokestatic 58, 3) := by decide +kernel
theorem dX10_laid_4 : decode cX10_laid 4 = .ok (.ifCond .eq 16, 3) := by decide +kernel
theorem dX10_laid_7 : decode cX10_laid 7 = .ok (.iload_n 2, 1) := by decide +kernel
theorem dX10_laid_8 : decode cX10_laid 8 = .ok (.ifCond .lt 12, 3) := by decide +kernel
theorem dX10_laid_11 : decode cX10_laid 11 = .ok (.iload_n 3, 1) := by decide +kernel
theorem dX10_laid_12 : decode cX10_laid 12 = .ok (.iconst 0, 1) := by decide +kernel
theorem dX10_laid_13 : decode cX10_laid 13 = .ok (.iconst 5, 1) := by decide +kernel
theorem dX10_laid_14 : decode cX10_laid 14 = .ok (.invokestatic 62, 3) := by decide +kernel
theorem dX10_laid_17 : decode cX10_laid 17 = .ok (.ifCond .ne 10, 3) := by decide +kernel
theorem dX10_laid_20 : decode cX10_laid 20 = .ok (.aload_n 0, 1) := by decide +kernel
theorem dX10_laid_21 : decode cX10_laid 21 = .ok (.ldc 72, 2) := by decide +kernel
theorem dX10_laid_23 : decode cX10_laid 23 = .ok (.invokevirtual 73, 3) := by decide +kernel
theorem dX10_laid_26 : decode cX10_laid 26 = .ok (.ireturn, 1) := by decide +kernel
theorem dX10_laid_27 : decode cX10_laid 27 = .ok (.aload_n 0, 1) := by decide +kernel
theorem dX10_laid_28 : decode cX10_laid 28 = .ok (.iload_n 1, 1) := by decide +kernel
theorem dX10_laid_29 : decode cX10_laid 29 = .ok (.invokevirtual 206, 3) := by decide +kernel
theorem dX10_laid_32 : decode cX10_laid 32 = .ok (.astore 4, 2) := by decide +kernel
theorem dX10_laid_34 : decode cX10_laid 34 = .ok (.iload_n 2, 1) := by decide +kernel
theorem dX10_laid_35 : decode cX10_laid 35 = .ok (.aload 4, 2) := by decide +kernel
theorem dX10_laid_37 : decode cX10_laid 37 = .ok (.getfield 220, 3) := by decide +kernel
theorem dX10_laid_40 : decode cX10_laid 40 = .ok (.if_icmp .ge 13, 3) := by decide +kernel
theorem dX10_laid_43 : decode cX10_laid 43 = .ok (.aload 4, 2) := by decide +kernel
theorem dX10_laid_45 : decode cX10_laid 45 = .ok (.iload_n 2, 1) := by decide +kernel
theorem dX10_laid_46 : decode cX10_laid 46 = .ok (.iload_n 3, 1) := by decide +kernel
theorem dX10_laid_47 : decode cX10_laid 47 = .ok (.invokevirtual 228, 3) := by decide +kernel
theorem dX10_laid_50 : decode cX10_laid 50 = .ok (.goto 9, 3) := by decide +kernel
theorem dX10_laid_53 : decode cX10_laid 53 = .ok (.aload_n 0, 1) := by decide +kernel
theorem dX10_laid_54 : decode cX10_laid 54 = .ok (.ldc 205, 2) := by decide +kernel
theorem dX10_laid_56 : decode cX10_laid 56 = .ok (.invokevirtual 73, 3) := by decide +kernel
theorem dX10_laid_59 : decode cX10_laid 59 = .ok (.ireturn, 1) := by decide +kernel
def X10_laid_B20 (σ : Mem) : Option (Int × Mem) :=
  bd2 (X10_tell σ (-1000001)) fun r1 s2 =>
  some (r1, s2)
def S_X10_laid_20 (fn : Mem → Option (Int × Mem)) (p : Program) (l : Launch) (e : Env) (R : Room) (s : State) (m : MethodId) (args : Array Value) (below : List Frame) (meth : Method) (c : Code) (G : GT) (τ : Mem) (res : Int) : Prop := ∀ (σ : Mem) (H : Heap) (locs : List Loc) (ls : Array Slot), PW G σ H → va_S (AA G) s.heap H locs → fn σ = some (res, τ) → lv_has ls 5 [(0, .ref (gh G + 0))] → W p l e R s m args below meth c H locs 0 0 (MQ below (QM G (some (.int (i32 res))) τ) args s 0 0 (AA G)) (F0 m 20 ls [])
def X10_laid (σ : Mem) (l1 : Int) (l2 : Int) (l3 : Int) : Option (Int × Mem) :=
  bd (X10_isPart σ l1) fun r1 =>
  if w32 r1 = 0 then
    X10_laid_B20 σ
  else
  if w32 l2 < 0 then
    X10_laid_B20 σ
  else
  bd (X10_within σ l3 0 5) fun r2 =>
  if w32 r2 ≠ 0 then
    bd2 (X10_layingOf σ l1) fun r3 s4 =>
    kg 2 r3 <|
    if w32 (s4 r3 0) ≤ w32 l2 then
      bd2 (X10_tell s4 (-1000004)) fun r5 s6 =>
      some (r5, s6)
    else
    bd (X2_ofPage s4 r3 l2 l3) fun r7 =>
    some (r7, s4)
  else
  X10_laid_B20 σ
def S_X10_laid_0 (fn : Mem → Int → Int → Int → Option (Int × Mem)) (p : Program) (l : Launch) (e : Env) (R : Room) (s : State) (m : MethodId) (args : Array Value) (below : List Frame) (meth : Method) (c : Code) (G : GT) (τ : Mem) (res : Int) : Prop := ∀ (σ : Mem) (H : Heap) (locs : List Loc) (ls : Array Slot) (l1 : Int) (l2 : Int) (l3 : Int), PW G σ H → va_S (AA G) s.heap H locs → fn σ l1 l2 l3 = some (res, τ) → lv_has ls 5 [(0, .ref (gh G + 0)), (1, .int (i32 l1)), (2, .int (i32 l2)), (3, .int (i32 l3))] → W p l e R s m args below meth c H locs 0 0 (MQ below (QM G (some (.int (i32 res))) τ) args s 0 0 (AA G)) (F0 m 0 ls [])
set_option maxHeartbeats 4000000 in
theorem a_X10_laid_20 {p : Program} {l : Launch} {e : Env} {R : Room} {s : State} {m : MethodId} {args : Array Value} {below : List Frame} {meth : Method} {c : Code} {G : GT} {τ : Mem} {res : Int} (X : CX p R s m args meth c cX10_laid 5 RX10 (some FieldType.int) 7 209 G) : S_X10_laid_20 (X10_laid_B20) p l e R s m args below meth c G τ res := by
  intro σ H locs ls hP hS hf hl
  unfold X10_laid_B20 at hf
  refine lv_aload_n X.1 X.2.1 dX10_laid_20 rfl (lv_at hl 0 rfl) ?_
  refine r_ldc X (-1000001) (tb t_430 rfl) (by decide) dX10_laid_21 ?_
  obtain ⟨r1, s2, hr1, hf⟩ := bd2_inv hf
  refine k_X10_tell X hP hS hl.1  hr1 (tb t_431 rfl) (by decide) (Nat.le_of_ble_eq_true rfl) dX10_laid_23 (fun H locs hP hS => ?_)
  obtain ⟨rfl, rfl⟩ := so2_inv hf
  exact r_iret X hP hS dX10_laid_26
set_option maxHeartbeats 4000000 in
theorem a_X10_laid_0 {p : Program} {l : Launch} {e : Env} {R : Room} {s : State} {m : MethodId} {args : Array Value} {below : List Frame} {meth : Method} {c : Code} {G : GT} {τ : Mem} {res : Int} (X : CX p R s m args meth c cX10_laid 5 RX10 (some FieldType.int) 7 209 G) : S_X10_laid_0 (X10_laid) p l e R s m args below meth c G τ res := by
  intro σ H locs ls l1 l2 l3 hP hS hf hl
  unfold X10_laid at hf
  refine lv_iload_n X.1 X.2.1 dX10_laid_0 rfl (lv_at hl 1 rfl) ?_
  obtain ⟨r1, hr1, hf⟩ := bd_inv hf
  refine k_X10_isPart X hP hS hl.1  hr1 (tb t_420 rfl) (by decide) (Nat.le_of_ble_eq_true rfl) dX10_laid_1 (fun H locs hP hS => ?_)
  refine r_if_eq (tgt := 20) X dX10_laid_4 (by decide) (fun q => ?_) (fun q => ?_)
  · replace hf := it_inv q hf
    exact a_X10_laid_20 X σ H locs ls  hP hS hf (lv_sub hl [0] rfl)
  · replace hf := ie_inv q hf
    refine lv_iload_n X.1 X.2.1 dX10_laid_7 rfl (lv_at hl 2 rfl) ?_
    refine r_if_lt (tgt := 20) X dX10_laid_8 (by decide) (fun q => ?_) (fun q => ?_)
    · replace hf := it_inv q hf
      exact a_X10_laid_20 X σ H locs ls  hP hS hf (lv_sub hl [0] rfl)
    · replace hf := ie_inv q hf
      refine lv_iload_n X.1 X.2.1 dX10_laid_11 rfl (lv_at hl 3 rfl) ?_
      refine r_iconst X 0 dX10_laid_12 ?_
      refine r_iconst X 5 dX10_laid_13 ?_
      obtain ⟨r2, hr2, hf⟩ := bd_inv hf
      refine k_X10_within X hP hS hl.1  hr2 (tb t_423 rfl) (by decide) (Nat.le_of_ble_eq_true rfl) dX10_laid_14 (fun H locs hP hS => ?_)
      refine r_if_ne (tgt := 27) X dX10_laid_17 (by decide) (fun q => ?_) (fun q => ?_)
      · replace hf := it_inv q hf
        refine lv_aload_n X.1 X.2.1 dX10_laid_27 rfl (lv_at hl 0 rfl) ?_
        refine lv_iload_n X.1 X.2.1 dX10_laid_28 rfl (lv_at hl 1 rfl) ?_
        obtain ⟨r3, s4, hr3, hf⟩ := bd2_inv hf
        refine k_X10_layingOf X hP hS hl.1  hr3 (tb t_752 rfl) (by decide) (Nat.le_of_ble_eq_true rfl) dX10_laid_29 (fun H locs hP hS => ?_)
        obtain ⟨hk_r3, hf⟩ := kg_inv hf
        refine lv_astore (lv' := [(4, .ref (gh G + r3)), (0, .ref (gh G + 0)), (1, .int (i32 l1)), (2, .int (i32 l2)), (3, .int (i32 l3))]) X.1 X.2.1 dX10_laid_32 hl (by decide) rfl (fun ls hl => ?_)
        refine lv_iload_n X.1 X.2.1 dX10_laid_34 rfl (lv_at hl 3 rfl) ?_
        refine lv_aload X.1 X.2.1 dX10_laid_35 (lv_at hl 0 rfl) ?_
        refine g_2_0 X hP hk_r3 (tb t_340 rfl) dX10_laid_37 ?_
        refine r_icmp_ge (tgt := 53) X dX10_laid_40 (by decide) (fun q => ?_) (fun q => ?_)
        · replace hf := it_inv q hf
          refine lv_aload_n X.1 X.2.1 dX10_laid_53 rfl (lv_at hl 1 rfl) ?_
          refine r_ldc X (-1000004) (tb t_747 rfl) (by decide) dX10_laid_54 ?_
          obtain ⟨r5, s6, hr5, hf⟩ := bd2_inv hf
          refine k_X10_tell X hP hS hl.1  hr5 (tb t_431 rfl) (by decide) (Nat.le_of_ble_eq_true rfl) dX10_laid_56 (fun H locs hP hS => ?_)
          obtain ⟨rfl, rfl⟩ := so2_inv hf
          exact r_iret X hP hS dX10_laid_59
        · replace hf := ie_inv q hf
          refine lv_aload X.1 X.2.1 dX10_laid_43 (lv_at hl 0 rfl) ?_
          refine lv_iload_n X.1 X.2.1 dX10_laid_45 rfl (lv_at hl 3 rfl) ?_
          refine lv_iload_n X.1 X.2.1 dX10_laid_46 rfl (lv_at hl 4 rfl) ?_
          obtain ⟨r7, hr7, hf⟩ := bd_inv hf
          refine k_X2_ofPage X hP hS hl.1 hk_r3 hr7 (tb t_865 rfl) (by decide) (Nat.le_of_ble_eq_true rfl) dX10_laid_47 (fun H locs hP hS => ?_)
          refine lv_goto (tgt := 59) X.1 X.2.1 dX10_laid_50 (by decide) ?_
          obtain ⟨rfl, rfl⟩ := so2_inv hf
          exact r_iret X hP hS dX10_laid_59
      · replace hf := ie_inv q hf
        exact a_X10_laid_20 X σ H locs ls  hP hS hf (lv_sub hl [0] rfl)
set_option maxHeartbeats 4000000 in
theorem c_X10_laid {l : Launch} {G : GT} {σ τ : Mem} {res : Int} {l1 : Int} {l2 : Int} {l3 : Int} (hf : X10_laid σ l1 l2 l3 = some (res, τ)) : CT l yX10_laid cX10_laid 5 (some FieldType.int) 7 209 G [.ref (gh G + 0), .int (i32 l1), .int (i32 l2), .int (i32 l3)] σ τ (some (.int (i32 res))) := by
  refine CT.mk (own := RX10) (by decide) rfl (Nat.le_of_ble_eq_true rfl) ?_
  intro p e s m below meth c ls X hP hS hl
  have hl : lv_has ls 5 [(0, .ref (gh G + 0)), (1, .int (i32 l1)), (2, .int (i32 l2)), (3, .int (i32 l3))] := hl
  exact a_X10_laid_0 X σ s.heap [] ls l1 l2 l3 hP hS hf hl
theorem k_X10_laid {p : Program} {l : Launch} {e : Env} {R : Room} {s : State} {m : MethodId} {args : Array Value} {below : List Frame} {meth : Method} {c : Code} {H : Heap} {locs : List Loc} {Q : State → Prop} {cc : ByteArray} {nL : Nat} {own : String} {ret : Option FieldType} {fF fL : Nat} {G : GT} {pc idx : Nat} {ls : Array Slot} {rest : List Value} {σ τ : Mem} {res : Int} {l1 : Int} {l2 : Int} {l3 : Int} (X : CX p R s m args meth c cc nL own ret fF fL G) (hP : PW G σ H) (hS : va_S (AA G) s.heap H locs) (hls : ls.size = nL) (hf : X10_laid σ l1 l2 l3 = some (res, τ)) (h1 : Cond.methodLink own idx yX10_laid ∈ TB) (hR : 7 + 1 ≤ fF ∧ 8 + (5 + 11) + 209 ≤ fL) (hW : (rest.map fun v => v.category).sum ≤ 8) (hd : decode cc pc = .ok (.invokevirtual idx, 3)) (kk : ∀ (H1 : Heap) (locs1 : List Loc), PW G τ H1 → va_S (AA G) s.heap H1 locs1 → W p l e R s m args below meth c H1 locs1 0 0 Q (F0 m (pc + 3) ls (.int (i32 res) :: rest))) : W p l e R s m args below meth c H locs 0 0 Q (F0 m pc ls (.int (i32 l3) :: .int (i32 l2) :: .int (i32 l1) :: .ref (gh G + 0) :: rest)) := r_callV (n := 3) X hP hS hls (c_X10_laid hf) h1 (tb t_862 rfl) (tb t_863 rfl) (tb t_75 rfl) (tb t_864 rfl) (by decide +kernel) hR (r_recv X hP (kd_lt ks_10 (by decide)) (cE_10 ks_10) rfl) rfl rfl hW hd kk
