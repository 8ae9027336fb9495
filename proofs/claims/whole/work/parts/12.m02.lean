/-! X10_layingOf -/
theorem dX10_layingOf_0 : decode cX10_layingOf 0 = .ok (.aload_n 0, 1) := by decide +kernel
theorem dX10_layingOf_1 : decode cX10_layingOf 1 = .ok (.getfield 40, 3) := by decide +kernel
theorem dX10_layingOf_4 : decode cX10_layingOf 4 = .ok (.iload_n 1, 1) := by decide +kernel
theorem dX10_layingOf_5 : decode cX10_layingOf 5 = .ok (.aaload, 1) := by decide +kernel
theorem dX10_layingOf_6 : decode cX10_layingOf 6 = .ok (.astore_n 2, 1) := by decide +kernel
theorem dX10_layingOf_7 : decode cX10_layingOf 7 = .ok (.aload_n 2, 1) := by decide +kernel
theorem dX10_layingOf_8 : decode cX10_layingOf 8 = .ok (.getfield 356, 3) := by decide +kernel
theorem dX10_layingOf_11 : decode cX10_layingOf 11 = .ok (.ifCond .ne 78, 3) := by decide +kernel
theorem dX10_layingOf_14 : decode cX10_layingOf 14 = .ok (.aload_n 0, 1) := by decide +kernel
theorem dX10_layingOf_15 : decode cX10_layingOf 15 = .ok (.getfield 10, 3) := by decide +kernel
theorem dX10_layingOf_18 : decode cX10_layingOf 18 = .ok (.getfield 77, 3) := by decide +kernel
theorem dX10_layingOf_21 : decode cX10_layingOf 21 = .ok (.iload_n 1, 1) := by decide +kernel
theorem dX10_layingOf_22 : decode cX10_layingOf 22 = .ok (.aaload, 1) := by decide +kernel
theorem dX10_layingOf_23 : decode cX10_layingOf 23 = .ok (.astore_n 3, 1) := by decide +kernel
theorem dX10_layingOf_24 : decode cX10_layingOf 24 = .ok (.aload_n 0, 1) := by decide +kernel
theorem dX10_layingOf_25 : decode cX10_layingOf 25 = .ok (.iload_n 1, 1) := by decide +kernel
theorem dX10_layingOf_26 : decode cX10_layingOf 26 = .ok (.invokevirtual 237, 3) := by decide +kernel
theorem dX10_layingOf_29 : decode cX10_layingOf 29 = .ok (.astore 4, 2) := by decide +kernel
theorem dX10_layingOf_31 : decode cX10_layingOf 31 = .ok (.aload_n 0, 1) := by decide +kernel
theorem dX10_layingOf_32 : decode cX10_layingOf 32 = .ok (.getfield 47, 3) := by decide +kernel
theorem dX10_layingOf_35 : decode cX10_layingOf 35 = .ok (.aload_n 0, 1) := by decide +kernel
theorem dX10_layingOf_36 : decode cX10_layingOf 36 = .ok (.getfield 10, 3) := by decide +kernel
theorem dX10_layingOf_39 : decode cX10_layingOf 39 = .ok (.iload_n 1, 1) := by decide +kernel
theorem dX10_layingOf_40 : decode cX10_layingOf 40 = .ok (.aload_n 3, 1) := by decide +kernel
theorem dX10_layingOf_41 : decode cX10_layingOf 41 = .ok (.getfield 81, 3) := by decide +kernel
theorem dX10_layingOf_44 : decode cX10_layingOf 44 = .ok (.iconst 1, 1) := by decide +kernel
theorem dX10_layingOf_45 : decode cX10_layingOf 45 = .ok (.iaload, 1) := by decide +kernel
theorem dX10_layingOf_46 : decode cX10_layingOf 46 = .ok (.invokevirtual 241, 3) := by decide +kernel
theorem dX10_layingOf_49 : decode cX10_layingOf 49 = .ok (.aload_n 0, 1) := by decide +kernel
theorem dX10_layingOf_50 : decode cX10_layingOf 50 = .ok (.getfield 47, 3) := by decide +kernel
theorem dX10_layingOf_53 : decode cX10_layingOf 53 = .ok (.aload 4, 2) := by decide +kernel
theorem dX10_layingOf_55 : decode cX10_layingOf 55 = .ok (.aload_n 3, 1) := by decide +kernel
theorem dX10_layingOf_56 : decode cX10_layingOf 56 = .ok (.getfield 81, 3) := by decide +kernel
theorem dX10_layingOf_59 : decode cX10_layingOf 59 = .ok (.iconst 3, 1) := by decide +kernel
theorem dX10_layingOf_60 : decode cX10_layingOf 60 = .ok (.iaload, 1) := by decide +kernel
theorem dX10_layingOf_61 : decode cX10_layingOf 61 = .ok (.aload_n 0, 1) := by decide +kernel
theorem dX10_layingOf_62 : decode cX10_layingOf 62 = .ok (.getfield 10, 3) := by decide +kernel
theorem dX10_layingOf_65 : decode cX10_layingOf 65 = .ok (.getfield 95, 3) := by decide +kernel
theorem dX10_layingOf_68 : decode cX10_layingOf 68 = .ok (.invokevirtual 357, 3) := by decide +kernel
theorem dX10_layingOf_71 : decode cX10_layingOf 71 = .ok (.aload_n 0, 1) := by decide +kernel
theorem dX10_layingOf_72 : decode cX10_layingOf 72 = .ok (.getfield 47, 3) := by decide +kernel
theorem dX10_layingOf_75 : decode cX10_layingOf 75 = .ok (.aload_n 3, 1) := by decide +kernel
theorem dX10_layingOf_76 : decode cX10_layingOf 76 = .ok (.aload_n 0, 1) := by decide +kernel
theorem dX10_layingOf_77 : decode cX10_layingOf 77 = .ok (.getfield 10, 3) := by decide +kernel
theorem dX10_layingOf_80 : decode cX10_layingOf 80 = .ok (.getfield 95, 3) := by decide +kernel
theorem dX10_layingOf_83 : decode cX10_layingOf 83 = .ok (.aload 4, 2) := by decide +kernel
theorem dX10_layingOf_85 : decode cX10_layingOf 85 = .ok (.aload_n 2, 1) := by decide +kernel
theorem dX10_layingOf_86 : decode cX10_layingOf 86 = .ok (.invokevirtual 361, 3) := by decide +kernel
theorem dX10_layingOf_89 : decode cX10_layingOf 89 = .ok (.aload_n 2, 1) := by decide +kernel
theorem dX10_layingOf_90 : decode cX10_layingOf 90 = .ok (.areturn, 1) := by decide +kernel
def X10_layingOf (σ : Mem) (l1 : Int) : Option (Nat × Mem) :=
  ag 4 l1 fun j1 =>
  if w32 (σ (73 + 10 * j1) 5) ≠ 0 then
    some (73 + 10 * j1, σ)
  else
  ag 4 l1 fun j2 =>
  bd2 (X10_tableOf σ l1) fun r3 s4 =>
  kg 4 r3 <|
  ag 4 1 fun j5 =>
  bd (X1_findEase s4 1 l1 (s4 (9 + 3 * j2 + 1) j5)) fun s7 =>
  ag 4 3 fun j8 =>
  bd (X1_weigh s7 r3 (s7 (9 + 3 * j2 + 1) j8) 3) fun s10 =>
  bd (X1_layOut s10 (9 + 3 * j2) 3 r3 (73 + 10 * j1)) fun s12 =>
  some (73 + 10 * j1, s12)
def S_X10_layingOf_0 (fn : Mem → Int → Option (Nat × Mem)) (p : Program) (l : Launch) (e : Env) (R : Room) (s : State) (m : MethodId) (args : Array Value) (below : List Frame) (meth : Method) (c : Code) (G : GT) (τ : Mem) (res : Nat) : Prop := ∀ (σ : Mem) (H : Heap) (locs : List Loc) (ls : Array Slot) (l1 : Int), PW G σ H → va_S (AA G) s.heap H locs → fn σ l1 = some (res, τ) → lv_has ls 5 [(0, .ref (gh G + 0)), (1, .int (i32 l1))] → W p l e R s m args below meth c H locs 0 0 (MQ below (QM G (some (.ref (gh G + res))) τ) args s 0 0 (AA G)) (F0 m 0 ls [])
set_option maxHeartbeats 4000000 in
theorem a_X10_layingOf_0 {p : Program} {l : Launch} {e : Env} {R : Room} {s : State} {m : MethodId} {args : Array Value} {below : List Frame} {meth : Method} {c : Code} {G : GT} {τ : Mem} {res : Nat} (X : CX p R s m args meth c cX10_layingOf 5 RX10 (some (FieldType.object "PageTurns$Laying")) 6 185 G) : S_X10_layingOf_0 (X10_layingOf) p l e R s m args below meth c G τ res := by
  intro σ H locs ls l1 hP hS hf hl
  unfold X10_layingOf at hf
  refine lv_aload_n X.1 X.2.1 dX10_layingOf_0 rfl (lv_at hl 0 rfl) ?_
  refine g_10_6 (r := 52) X hP ks_10 rfl (tb t_394 rfl) dX10_layingOf_1 ?_
  refine lv_iload_n X.1 X.2.1 dX10_layingOf_4 rfl (lv_at hl 1 rfl) ?_
  obtain ⟨j1, hij1, hjj1, hlj1, hf⟩ := ag_inv hf
  refine r_aald16 (r := 73 + 10 * j1) X hP (ch_10_6 ks_10).1 (ch_10_6 ks_10).2 hij1 hjj1 rfl dX10_layingOf_5 ?_
  refine lv_astore_n (lv' := [(2, .ref (gh G + (73 + 10 * j1))), (0, .ref (gh G + 0)), (1, .int (i32 l1))]) X.1 X.2.1 dX10_layingOf_6 rfl hl (by decide) rfl (fun ls hl => ?_)
  refine lv_aload_n X.1 X.2.1 dX10_layingOf_7 rfl (lv_at hl 0 rfl) ?_
  refine g_2_5 X hP ((ch_16 (ch_10_6 ks_10).1).2 j1 hlj1) (tb t_350 rfl) dX10_layingOf_8 ?_
  refine r_if_ne (tgt := 89) X dX10_layingOf_11 (by decide) (fun q => ?_) (fun q => ?_)
  · replace hf := it_inv q hf
    refine lv_aload_n X.1 X.2.1 dX10_layingOf_89 rfl (lv_at hl 0 rfl) ?_
    obtain ⟨rfl, rfl⟩ := so2_inv hf
    exact r_aret X hP hS dX10_layingOf_90
  · replace hf := ie_inv q hf
    refine lv_aload_n X.1 X.2.1 dX10_layingOf_14 rfl (lv_at hl 1 rfl) ?_
    refine g_10_0 (r := 1) X hP ks_10 rfl (tb t_388 rfl) dX10_layingOf_15 ?_
    refine g_7_0 (r := 2) X hP (ch_10_0 ks_10).1 rfl (tb t_170 rfl) dX10_layingOf_18 ?_
    refine lv_iload_n X.1 X.2.1 dX10_layingOf_21 rfl (lv_at hl 2 rfl) ?_
    obtain ⟨j2, hij2, hjj2, hlj2, hf⟩ := ag_inv hf
    refine r_aald18 (r := 9 + 3 * j2) X hP (ch_7_0 (ch_10_0 ks_10).1).1 (ch_7_0 (ch_10_0 ks_10).1).2 hij2 hjj2 rfl dX10_layingOf_22 ?_
    refine lv_astore_n (lv' := [(3, .ref (gh G + (9 + 3 * j2))), (2, .ref (gh G + (73 + 10 * j1))), (0, .ref (gh G + 0)), (1, .int (i32 l1))]) X.1 X.2.1 dX10_layingOf_23 rfl hl (by decide) rfl (fun ls hl => ?_)
    refine lv_aload_n X.1 X.2.1 dX10_layingOf_24 rfl (lv_at hl 2 rfl) ?_
    refine lv_iload_n X.1 X.2.1 dX10_layingOf_25 rfl (lv_at hl 3 rfl) ?_
    obtain ⟨r3, s4, hr3, hf⟩ := bd2_inv hf
    refine k_X10_tableOf X hP hS hl.1  hr3 (tb t_756 rfl) (by decide) (Nat.le_of_ble_eq_true rfl) dX10_layingOf_26 (fun H locs hP hS => ?_)
    obtain ⟨hk_r3, hf⟩ := kg_inv hf
    refine lv_astore (lv' := [(4, .ref (gh G + r3)), (3, .ref (gh G + (9 + 3 * j2))), (2, .ref (gh G + (73 + 10 * j1))), (0, .ref (gh G + 0)), (1, .int (i32 l1))]) X.1 X.2.1 dX10_layingOf_29 hl (by decide) rfl (fun ls hl => ?_)
    refine lv_aload_n X.1 X.2.1 dX10_layingOf_31 rfl (lv_at hl 3 rfl) ?_
    refine g_10_7 (r := 53) X hP ks_10 rfl (tb t_395 rfl) dX10_layingOf_32 ?_
    refine lv_aload_n X.1 X.2.1 dX10_layingOf_35 rfl (lv_at hl 3 rfl) ?_
    refine g_10_0 (r := 1) X hP ks_10 rfl (tb t_388 rfl) dX10_layingOf_36 ?_
    refine lv_iload_n X.1 X.2.1 dX10_layingOf_39 rfl (lv_at hl 4 rfl) ?_
    refine lv_aload_n X.1 X.2.1 dX10_layingOf_40 rfl (lv_at hl 1 rfl) ?_
    refine g_5_0 (r := 9 + 3 * j2 + 1) X hP ((ch_18 (ch_7_0 (ch_10_0 ks_10).1).1).2 j2 hlj2) rfl (tb t_152 rfl) dX10_layingOf_41 ?_
    refine r_iconst X 1 dX10_layingOf_44 ?_
    obtain ⟨j5, hij5, hjj5, hlj5, hf⟩ := ag_inv hf
    refine r_iald X hP (ch_5_0 ((ch_18 (ch_7_0 (ch_10_0 ks_10).1).1).2 j2 hlj2)).1 (ch_5_0 ((ch_18 (ch_7_0 (ch_10_0 ks_10).1).1).2 j2 hlj2)).2 hij5 hjj5 dX10_layingOf_45 ?_
    obtain ⟨s7, hr6, hf⟩ := bd_inv hf
    refine k_X1_findEase X hP hS hl.1 (ch_10_0 ks_10).1 hr6 (tb t_775 rfl) (by decide) (Nat.le_of_ble_eq_true rfl) dX10_layingOf_46 (fun H locs hP hS => ?_)
    refine lv_aload_n X.1 X.2.1 dX10_layingOf_49 rfl (lv_at hl 3 rfl) ?_
    refine g_10_7 (r := 53) X hP ks_10 rfl (tb t_395 rfl) dX10_layingOf_50 ?_
    refine lv_aload X.1 X.2.1 dX10_layingOf_53 (lv_at hl 0 rfl) ?_
    refine lv_aload_n X.1 X.2.1 dX10_layingOf_55 rfl (lv_at hl 1 rfl) ?_
    refine g_5_0 (r := 9 + 3 * j2 + 1) X hP ((ch_18 (ch_7_0 (ch_10_0 ks_10).1).1).2 j2 hlj2) rfl (tb t_152 rfl) dX10_layingOf_56 ?_
    refine r_iconst X 3 dX10_layingOf_59 ?_
    obtain ⟨j8, hij8, hjj8, hlj8, hf⟩ := ag_inv hf
    refine r_iald X hP (ch_5_0 ((ch_18 (ch_7_0 (ch_10_0 ks_10).1).1).2 j2 hlj2)).1 (ch_5_0 ((ch_18 (ch_7_0 (ch_10_0 ks_10).1).1).2 j2 hlj2)).2 hij8 hjj8 dX10_layingOf_60 ?_
    refine lv_aload_n X.1 X.2.1 dX10_layingOf_61 rfl (lv_at hl 3 rfl) ?_
    refine g_10_0 (r := 1) X hP ks_10 rfl (tb t_388 rfl) dX10_layingOf_62 ?_
    refine g_7_1 (r := 3) X hP (ch_10_0 ks_10).1 rfl (tb t_172 rfl) dX10_layingOf_65 ?_
    obtain ⟨s10, hr9, hf⟩ := bd_inv hf
    refine k_X1_weigh X hP hS hl.1 hk_r3 (ch_7_1 (ch_10_0 ks_10).1).1 hr9 (tb t_788 rfl) (by decide) (Nat.le_of_ble_eq_true rfl) dX10_layingOf_68 (fun H locs hP hS => ?_)
    refine lv_aload_n X.1 X.2.1 dX10_layingOf_71 rfl (lv_at hl 3 rfl) ?_
    refine g_10_7 (r := 53) X hP ks_10 rfl (tb t_395 rfl) dX10_layingOf_72 ?_
    refine lv_aload_n X.1 X.2.1 dX10_layingOf_75 rfl (lv_at hl 1 rfl) ?_
    refine lv_aload_n X.1 X.2.1 dX10_layingOf_76 rfl (lv_at hl 3 rfl) ?_
    refine g_10_0 (r := 1) X hP ks_10 rfl (tb t_388 rfl) dX10_layingOf_77 ?_
    refine g_7_1 (r := 3) X hP (ch_10_0 ks_10).1 rfl (tb t_172 rfl) dX10_layingOf_80 ?_
    refine lv_aload X.1 X.2.1 dX10_layingOf_83 (lv_at hl 0 rfl) ?_
    refine lv_aload_n X.1 X.2.1 dX10_layingOf_85 rfl (lv_at hl 2 rfl) ?_
    obtain ⟨s12, hr11, hf⟩ := bd_inv hf
    refine k_X1_layOut X hP hS hl.1 ((ch_18 (ch_7_0 (ch_10_0 ks_10).1).1).2 j2 hlj2) (ch_7_1 (ch_10_0 ks_10).1).1 hk_r3 ((ch_16 (ch_10_6 ks_10).1).2 j1 hlj1) hr11 (tb t_816 rfl) (by decide) (Nat.le_of_ble_eq_true rfl) dX10_layingOf_86 (fun H locs hP hS => ?_)
    refine lv_aload_n X.1 X.2.1 dX10_layingOf_89 rfl (lv_at hl 2 rfl) ?_
    obtain ⟨rfl, rfl⟩ := so2_inv hf
    exact r_aret X hP hS dX10_layingOf_90
set_option maxHeartbeats 4000000 in
theorem c_X10_layingOf {l : Launch} {G : GT} {σ τ : Mem} {res : Nat} {l1 : Int} (hf : X10_layingOf σ l1 = some (res, τ)) : CT l yX10_layingOf cX10_layingOf 5 (some (FieldType.object "PageTurns$Laying")) 6 185 G [.ref (gh G + 0), .int (i32 l1)] σ τ (some (.ref (gh G + res))) := by
  refine CT.mk (own := RX10) (by decide) rfl (Nat.le_of_ble_eq_true rfl) ?_
  intro p e s m below meth c ls X hP hS hl
  have hl : lv_has ls 5 [(0, .ref (gh G + 0)), (1, .int (i32 l1))] := hl
  exact a_X10_layingOf_0 X σ s.heap [] ls l1 hP hS hf hl
theorem k_X10_layingOf {p : Program} {l : Launch} {e : Env} {R : Room} {s : State} {m : MethodId} {args : Array Value} {below : List Frame} {meth : Method} {c : Code} {H : Heap} {locs : List Loc} {Q : State → Prop} {cc : ByteArray} {nL : Nat} {own : String} {ret : Option FieldType} {fF fL : Nat} {G : GT} {pc idx : Nat} {ls : Array Slot} {rest : List Value} {σ τ : Mem} {res : Nat} {l1 : Int} (X : CX p R s m args meth c cc nL own ret fF fL G) (hP : PW G σ H) (hS : va_S (AA G) s.heap H locs) (hls : ls.size = nL) (hf : X10_layingOf σ l1 = some (res, τ)) (h1 : Cond.methodLink own idx yX10_layingOf ∈ TB) (hR : 6 + 1 ≤ fF ∧ 8 + (5 + 11) + 185 ≤ fL) (hW : (rest.map fun v => v.category).sum ≤ 8) (hd : decode cc pc = .ok (.invokevirtual idx, 3)) (kk : ∀ (H1 : Heap) (locs1 : List Loc), PW G τ H1 → va_S (AA G) s.heap H1 locs1 → W p l e R s m args below meth c H1 locs1 0 0 Q (F0 m (pc + 3) ls (.ref (gh G + res) :: rest))) : W p l e R s m args below meth c H locs 0 0 Q (F0 m pc ls (.int (i32 l1) :: .ref (gh G + 0) :: rest)) := r_callV (n := 1) X hP hS hls (c_X10_layingOf hf) h1 (tb t_754 rfl) (tb t_24 rfl) (tb t_75 rfl) (tb t_755 rfl) (by decide +kernel) hR (r_recv X hP (kd_lt ks_10 (by decide)) (cE_10 ks_10) rfl) rfl rfl hW hd kk
/-! X10_turnsAtOnce -/
theorem dX10_turnsAtOnce_0 : decode cX10_turnsAtOnce 0 = .ok (.iconst 0, 1) := by decide +kernel
theorem dX10_turnsAtOnce_1 : decode cX10_turnsAtOnce 1 = .ok (.istore_n 2, 1) := by decide +kernel
theorem dX10_turnsAtOnce_2 : decode cX10_turnsAtOnce 2 = .ok (.iconst 0, 1) := by decide +kernel
theorem dX10_turnsAtOnce_3 : decode cX10_turnsAtOnce 3 = .ok (.istore_n 3, 1) := by decide +kernel
theorem dX10_turnsAtOnce_4 : decode cX10_turnsAtOnce 4 = .ok (.iconst 0, 1) := by decide +kernel
theorem dX10_turnsAtOnce_5 : decode cX10_turnsAtOnce 5 = .ok (.istore 4, 2) := by decide +kernel
theorem dX10_turnsAtOnce_7 : decode cX10_turnsAtOnce 7 = .ok (.iload 4, 2) := by decide +kernel
theorem dX10_turnsAtOnce_9 : decode cX10_turnsAtOnce 9 = .ok (.bipush 40, 2) := by decide +kernel
theorem dX10_turnsAtOnce_11 : decode cX10_turnsAtOnce 11 = .ok (.if_icmp .ge 62, 3) := by decide +kernel
theorem dX10_turnsAtOnce_14 : decode cX10_turnsAtOnce 14 = .ok (.iconst 0, 1) := by decide +kernel
theorem dX10_turnsAtOnce_15 : decode cX10_turnsAtOnce 15 = .ok (.istore 5, 2) := by decide +kernel
theorem dX10_turnsAtOnce_17 : decode cX10_turnsAtOnce 17 = .ok (.iconst 0, 1) := by decide +kernel
theorem dX10_turnsAtOnce_18 : decode cX10_turnsAtOnce 18 = .ok (.istore 6, 2) := by decide +kernel
theorem dX10_turnsAtOnce_20 : decode cX10_turnsAtOnce 20 = .ok (.iload 6, 2) := by decide +kernel
theorem dX10_turnsAtOnce_22 : decode cX10_turnsAtOnce 22 = .ok (.iconst 4, 1) := by decide +kernel
theorem dX10_turnsAtOnce_23 : decode cX10_turnsAtOnce 23 = .ok (.if_icmp .ge 28, 3) := by decide +kernel
theorem dX10_turnsAtOnce_26 : decode cX10_turnsAtOnce 26 = .ok (.aload_n 0, 1) := by decide +kernel
theorem dX10_turnsAtOnce_27 : decode cX10_turnsAtOnce 27 = .ok (.getfield 40, 3) := by decide +kernel
theorem dX10_turnsAtOnce_30 : decode cX10_turnsAtOnce 30 = .ok (.iload 6, 2) := by decide +kernel
theorem dX10_turnsAtOnce_32 : decode cX10_turnsAtOnce 32 = .ok (.aaload, 1) := by decide +kernel
theorem dX10_turnsAtOnce_33 : decode cX10_turnsAtOnce 33 = .ok (.getfield 257, 3) := by decide +kernel
theorem dX10_turnsAtOnce_36 : decode cX10_turnsAtOnce 36 = .ok (.iload 4, 2) := by decide +kernel
theorem dX10_turnsAtOnce_38 : decode cX10_turnsAtOnce 38 = .ok (.iaload, 1) := by decide +kernel
theorem dX10_turnsAtOnce_39 : decode cX10_turnsAtOnce 39 = .ok (.ifCond .eq 6, 3) := by decide +kernel
theorem dX10_turnsAtOnce_42 : decode cX10_turnsAtOnce 42 = .ok (.iinc 5 1, 3) := by decide +kernel
theorem dX10_turnsAtOnce_45 : decode cX10_turnsAtOnce 45 = .ok (.iinc 6 1, 3) := by decide +kernel
theorem dX10_turnsAtOnce_48 : decode cX10_turnsAtOnce 48 = .ok (.goto (-28), 3) := by decide +kernel
theorem dX10_turnsAtOnce_51 : decode cX10_turnsAtOnce 51 = .ok (.iload_n 2, 1) := by decide +kernel
theorem dX10_turnsAtOnce_52 : decode cX10_turnsAtOnce 52 = .ok (.iload 5, 2) := by decide +kernel
theorem dX10_turnsAtOnce_54 : decode cX10_turnsAtOnce 54 = .ok (.invokestatic 345, 3) := by decide +kernel
theorem dX10_turnsAtOnce_57 : decode cX10_turnsAtOnce 57 = .ok (.istore_n 2, 1) := by decide +kernel
theorem dX10_turnsAtOnce_58 : decode cX10_turnsAtOnce 58 = .ok (.iload 5, 2) := by decide +kernel
theorem dX10_turnsAtOnce_60 : decode cX10_turnsAtOnce 60 = .ok (.iconst 2, 1) := by decide +kernel
theorem dX10_turnsAtOnce_61 : decode cX10_turnsAtOnce 61 = .ok (.if_icmp .lt 6, 3) := by decide +kernel
theorem dX10_turnsAtOnce_64 : decode cX10_turnsAtOnce 64 = .ok (.iinc 3 1, 3) := by decide +kernel
theorem dX10_turnsAtOnce_67 : decode cX10_turnsAtOnce 67 = .ok (.iinc 4 1, 3) := by decide +kernel
theorem dX10_turnsAtOnce_70 : decode cX10_turnsAtOnce 70 = .ok (.goto (-63), 3) := by decide +kernel
theorem dX10_turnsAtOnce_73 : decode cX10_turnsAtOnce 73 = .ok (.iload_n 1, 1) := by decide +kernel
theorem dX10_turnsAtOnce_74 : decode cX10_turnsAtOnce 74 = .ok (.ifCond .eq 7, 3) := by decide +kernel
theorem dX10_turnsAtOnce_77 : decode cX10_turnsAtOnce 77 = .ok (.iload_n 2, 1) := by decide +kernel
theorem dX10_turnsAtOnce_78 : decode cX10_turnsAtOnce 78 = .ok (.goto 4, 3) := by decide +kernel
theorem dX10_turnsAtOnce_81 : decode cX10_turnsAtOnce 81 = .ok (.iload_n 3, 1) := by decide +kernel
theorem dX10_turnsAtOnce_82 : decode cX10_turnsAtOnce 82 = .ok (.ireturn, 1) := by decide +kernel
def S_X10_turnsAtOnce_7 (fn : Int → Int → Int → Int → Option (Int)) (p : Program) (l : Launch) (e : Env) (R : Room) (s : State) (m : MethodId) (args : Array Value) (below : List Frame) (meth : Method) (c : Code) (G : GT) (σ : Mem) (res : Int) : Prop := ∀ (H : Heap) (locs : List Loc) (ls : Array Slot) (l1 : Int) (l2 : Int) (l3 : Int) (l4 : Int), PW G σ H → va_S (AA G) s.heap H locs → fn l1 l2 l3 l4 = some res → lv_has ls 7 [(0, .ref (gh G + 0)), (1, .int (i32 l1)), (2, .int (i32 l2)), (3, .int (i32 l3)), (4, .int (i32 l4))] → W p l e R s m args below meth c H locs 0 0 (MQ below (QM G (some (.int (i32 res))) σ) args s 0 0 (AA G)) (F0 m 7 ls [])
def S_X10_turnsAtOnce_20 (fn : Int → Int → Int → Int → Int → Int → Option (Int)) (p : Program) (l : Launch) (e : Env) (R : Room) (s : State) (m : MethodId) (args : Array Value) (below : List Frame) (meth : Method) (c : Code) (G : GT) (σ : Mem) (res : Int) : Prop := ∀ (H : Heap) (locs : List Loc) (ls : Array Slot) (l1 : Int) (l2 : Int) (l3 : Int) (l4 : Int) (l5 : Int) (l6 : Int), PW G σ H → va_S (AA G) s.heap H locs → fn l1 l2 l3 l4 l5 l6 = some res → lv_has ls 7 [(0, .ref (gh G + 0)), (1, .int (i32 l1)), (2, .int (i32 l2)), (3, .int (i32 l3)), (4, .int (i32 l4)), (5, .int (i32 l5)), (6, .int (i32 l6))] → W p l e R s m args below meth c H locs 0 0 (MQ below (QM G (some (.int (i32 res))) σ) args s 0 0 (AA G)) (F0 m 20 ls [])
def X10_turnsAtOnce_B67 (rec7 : Int → Int → Int → Int → Option (Int)) (σ : Mem) (l1 : Int) (l2 : Int) (l3 : Int) (l4 : Int) : Option (Int) :=
  lt (l4 + 1) fun l4_1 =>
  rec7 l1 l2 l3 l4_1
def S_X10_turnsAtOnce_67 (fn : Int → Int → Int → Int → Option (Int)) (p : Program) (l : Launch) (e : Env) (R : Room) (s : State) (m : MethodId) (args : Array Value) (below : List Frame) (meth : Method) (c : Code) (G : GT) (σ : Mem) (res : Int) : Prop := ∀ (H : Heap) (locs : List Loc) (ls : Array Slot) (l1 : Int) (l2 : Int) (l3 : Int) (l4 : Int), PW G σ H → va_S (AA G) s.heap H locs → fn l1 l2 l3 l4 = some res → lv_has ls 7 [(0, .ref (gh G + 0)), (1, .int (i32 l1)), (2, .int (i32 l2)), (3, .int (i32 l3)), (4, .int (i32 l4))] → W p l e R s m args below meth c H locs 0 0 (MQ below (QM G (some (.int (i32 res))) σ) args s 0 0 (AA G)) (F0 m 67 ls [])
def X10_turnsAtOnce_B45 (rec7 : Int → Int → Int → Int → Option (Int)) (rec20 : Int → Int → Int → Int → Int → Int → Option (Int)) (σ : Mem) (l1 : Int) (l2 : Int) (l3 : Int) (l4 : Int) (l5 : Int) (l6 : Int) : Option (Int) :=
  lt (l6 + 1) fun l6_1 =>
  rec20 l1 l2 l3 l4 l5 l6_1
def S_X10_turnsAtOnce_45 (fn : Int → Int → Int → Int → Int → Int → Option (Int)) (p : Program) (l : Launch) (e : Env) (R : Room) (s : State) (m : MethodId) (args : Array Value) (below : List Frame) (meth : Method) (c : Code) (G : GT) (σ : Mem) (res : Int) : Prop := ∀ (H : Heap) (locs : List Loc) (ls : Array Slot) (l1 : Int) (l2 : Int) (l3 : Int) (l4 : Int) (l5 : Int) (l6 : Int), PW G σ H → va_S (AA G) s.heap H locs → fn l1 l2 l3 l4 l5 l6 = some res → lv_has ls 7 [(0, .ref (gh G + 0)), (1, .int (i32 l1)), (2, .int (i32 l2)), (3, .int (i32 l3)), (4, .int (i32 l4)), (5, .int (i32 l5)), (6, .int (i32 l6))] → W p l e R s m args below meth c H locs 0 0 (MQ below (QM G (some (.int (i32 res))) σ) args s 0 0 (AA G)) (F0 m 45 ls [])
def X10_turnsAtOnce_B20 (rec7 : Int → Int → Int → Int → Option (Int)) (rec20 : Int → Int → Int → Int → Int → Int → Option (Int)) (σ : Mem) (l1 : Int) (l2 : Int) (l3 : Int) (l4 : Int) (l5 : Int) (l6 : Int) : Option (Int) :=
  if w32 4 ≤ w32 l6 then
    lt (imx l2 l5) fun l2_1 =>
    if w32 l5 < w32 2 then
      X10_turnsAtOnce_B67 rec7 σ l1 l2_1 l3 l4
    else
    lt (l3 + 1) fun l3_2 =>
    X10_turnsAtOnce_B67 rec7 σ l1 l2_1 l3_2 l4
  else
  ag 4 l6 fun j3 =>
  ag 40 l4 fun j4 =>
  if w32 (σ (73 + 10 * j3 + 7) j4) = 0 then
    X10_turnsAtOnce_B45 rec7 rec20 σ l1 l2 l3 l4 l5 l6
  else
  lt (l5 + 1) fun l5_5 =>
  X10_turnsAtOnce_B45 rec7 rec20 σ l1 l2 l3 l4 l5_5 l6
def X10_turnsAtOnce_L20 (rec7 : Int → Int → Int → Int → Option (Int)) (σ : Mem) : Nat → Int → Int → Int → Int → Int → Int → Option (Int)
  | 0 => fun _ _ _ _ _ _ => none
  | n + 1 => X10_turnsAtOnce_B20 rec7 (X10_turnsAtOnce_L20 rec7 σ n) σ
def X10_turnsAtOnce_B7 (rec7 : Int → Int → Int → Int → Option (Int)) (σ : Mem) (l1 : Int) (l2 : Int) (l3 : Int) (l4 : Int) : Option (Int) :=
  if w32 40 ≤ w32 l4 then
    if w32 l1 = 0 then
      some l3
    else
    some l2
  else
  X10_turnsAtOnce_L20 rec7 σ 5000 l1 l2 l3 l4 0 0
def X10_turnsAtOnce_L7 (σ : Mem) : Nat → Int → Int → Int → Int → Option (Int)
  | 0 => fun _ _ _ _ => none
  | n + 1 => X10_turnsAtOnce_B7 (X10_turnsAtOnce_L7 σ n) σ
def X10_turnsAtOnce (σ : Mem) (l1 : Int) : Option (Int) :=
  X10_turnsAtOnce_L7 σ 5000 l1 0 0 0
def S_X10_turnsAtOnce_0 (fn : Int → Option (Int)) (p : Program) (l : Launch) (e : Env) (R : Room) (s : State) (m : MethodId) (args : Array Value) (below : List Frame) (meth : Method) (c : Code) (G : GT) (σ : Mem) (res : Int) : Prop := ∀ (H : Heap) (locs : List Loc) (ls : Array Slot) (l1 : Int), PW G σ H → va_S (AA G) s.heap H locs → fn l1 = some res → lv_has ls 7 [(0, .ref (gh G + 0)), (1, .int (i32 l1))] → W p l e R s m args below meth c H locs 0 0 (MQ below (QM G (some (.int (i32 res))) σ) args s 0 0 (AA G)) (F0 m 0 ls [])
set_option maxHeartbeats 4000000 in
theorem a_X10_turnsAtOnce_67 {p : Program} {l : Launch} {e : Env} {R : Room} {s : State} {m : MethodId} {args : Array Value} {below : List Frame} {meth : Method} {c : Code} {G : GT} {σ : Mem} {res : Int} {rec7 : Int → Int → Int → Int → Option (Int)} (X : CX p R s m args meth c cX10_turnsAtOnce 7 RX10 (some FieldType.int) 1 60 G) (h7 : S_X10_turnsAtOnce_7 rec7 p l e R s m args below meth c G σ res) : S_X10_turnsAtOnce_67 (X10_turnsAtOnce_B67 rec7 σ) p l e R s m args below meth c G σ res := by
  intro H locs ls l1 l2 l3 l4 hP hS hf hl
  unfold X10_turnsAtOnce_B67 at hf
  obtain ⟨l4_1, el4_1, hf⟩ := lt_inv hf
  refine lv_iinc (v := i32 l4_1) (lv' := [(4, .int (i32 l4_1)), (0, .ref (gh G + 0)), (1, .int (i32 l1)), (2, .int (i32 l2)), (3, .int (i32 l3))]) X.1 X.2.1 dX10_turnsAtOnce_67 hl (k := 4) rfl (by rw [← el4_1]; exact i32_add _ _) (by decide) rfl (fun ls hl => ?_)
  refine lv_goto (tgt := 7) X.1 X.2.1 dX10_turnsAtOnce_70 (by decide) ?_
  exact h7  H locs ls l1 l2 l3 l4_1 hP hS hf (lv_sub hl [1, 2, 3, 4, 0] rfl)
set_option maxHeartbeats 4000000 in
theorem a_X10_turnsAtOnce_45 {p : Program} {l : Launch} {e : Env} {R : Room} {s : State} {m : MethodId} {args : Array Value} {below : List Frame} {meth : Method} {c : Code} {G : GT} {σ : Mem} {res : Int} {rec7 : Int → Int → Int → Int → Option (Int)} {rec20 : Int → Int → Int → Int → Int → Int → Option (Int)} (X : CX p R s m args meth c cX10_turnsAtOnce 7 RX10 (some FieldType.int) 1 60 G) (h7 : S_X10_turnsAtOnce_7 rec7 p l e R s m args below meth c G σ res) (h20 : S_X10_turnsAtOnce_20 rec20 p l e R s m args below meth c G σ res) : S_X10_turnsAtOnce_45 (X10_turnsAtOnce_B45 rec7 rec20 σ) p l e R s m args below meth c G σ res := by
  intro H locs ls l1 l2 l3 l4 l5 l6 hP hS hf hl
  unfold X10_turnsAtOnce_B45 at hf
  obtain ⟨l6_1, el6_1, hf⟩ := lt_inv hf
  refine lv_iinc (v := i32 l6_1) (lv' := [(6, .int (i32 l6_1)), (0, .ref (gh G + 0)), (1, .int (i32 l1)), (2, .int (i32 l2)), (3, .int (i32 l3)), (4, .int (i32 l4)), (5, .int (i32 l5))]) X.1 X.2.1 dX10_turnsAtOnce_45 hl (k := 6) rfl (by rw [← el6_1]; exact i32_add _ _) (by decide) rfl (fun ls hl => ?_)
  refine lv_goto (tgt := 20) X.1 X.2.1 dX10_turnsAtOnce_48 (by decide) ?_
  exact h20  H locs ls l1 l2 l3 l4 l5 l6_1 hP hS hf (lv_sub hl [1, 2, 3, 4, 5, 6, 0] rfl)
set_option maxHeartbeats 4000000 in
theorem a_X10_turnsAtOnce_20 {p : Program} {l : Launch} {e : Env} {R : Room} {s : State} {m : MethodId} {args : Array Value} {below : List Frame} {meth : Method} {c : Code} {G : GT} {σ : Mem} {res : Int} {rec7 : Int → Int → Int → Int → Option (Int)} {rec20 : Int → Int → Int → Int → Int → Int → Option (Int)} (X : CX p R s m args meth c cX10_turnsAtOnce 7 RX10 (some FieldType.int) 1 60 G) (h7 : S_X10_turnsAtOnce_7 rec7 p l e R s m args below meth c G σ res) (h20 : S_X10_turnsAtOnce_20 rec20 p l e R s m args below meth c G σ res) : S_X10_turnsAtOnce_20 (X10_turnsAtOnce_B20 rec7 rec20 σ) p l e R s m args below meth c G σ res := by
  intro H locs ls l1 l2 l3 l4 l5 l6 hP hS hf hl
  unfold X10_turnsAtOnce_B20 at hf
  refine lv_iload X.1 X.2.1 dX10_turnsAtOnce_20 (lv_at hl 6 rfl) ?_
  refine r_iconst X 4 dX10_turnsAtOnce_22 ?_
  refine r_icmp_ge (tgt := 51) X dX10_turnsAtOnce_23 (by decide) (fun q => ?_) (fun q => ?_)
  · replace hf := it_inv q hf
    refine lv_iload_n X.1 X.2.1 dX10_turnsAtOnce_51 rfl (lv_at hl 2 rfl) ?_
    refine lv_iload X.1 X.2.1 dX10_turnsAtOnce_52 (lv_at hl 5 rfl) ?_
    refine r_mmax X hl.1 (tb t_922 rfl) (tb t_680 rfl) (tb t_92 rfl) (tb t_681 rfl) (by decide) (Nat.le_of_ble_eq_true rfl) dX10_turnsAtOnce_54 ?_
    obtain ⟨l2_1, el2_1, hf⟩ := lt_inv hf
    refine r_eqi el2_1 ?_
    refine lv_istore_n (lv' := [(2, .int (i32 l2_1)), (0, .ref (gh G + 0)), (1, .int (i32 l1)), (3, .int (i32 l3)), (4, .int (i32 l4)), (5, .int (i32 l5)), (6, .int (i32 l6))]) X.1 X.2.1 dX10_turnsAtOnce_57 rfl hl (by decide) rfl (fun ls hl => ?_)
    refine lv_iload X.1 X.2.1 dX10_turnsAtOnce_58 (lv_at hl 5 rfl) ?_
    refine r_iconst X 2 dX10_turnsAtOnce_60 ?_
    refine r_icmp_lt (tgt := 67) X dX10_turnsAtOnce_61 (by decide) (fun q => ?_) (fun q => ?_)
    · replace hf := it_inv q hf
      exact a_X10_turnsAtOnce_67 X h7  H locs ls l1 l2_1 l3 l4 hP hS hf (lv_sub hl [1, 2, 0, 3, 4] rfl)
    · replace hf := ie_inv q hf
      obtain ⟨l3_2, el3_2, hf⟩ := lt_inv hf
      refine lv_iinc (v := i32 l3_2) (lv' := [(3, .int (i32 l3_2)), (2, .int (i32 l2_1)), (0, .ref (gh G + 0)), (1, .int (i32 l1)), (4, .int (i32 l4)), (5, .int (i32 l5)), (6, .int (i32 l6))]) X.1 X.2.1 dX10_turnsAtOnce_64 hl (k := 3) rfl (by rw [← el3_2]; exact i32_add _ _) (by decide) rfl (fun ls hl => ?_)
      exact a_X10_turnsAtOnce_67 X h7  H locs ls l1 l2_1 l3_2 l4 hP hS hf (lv_sub hl [2, 3, 1, 0, 4] rfl)
  · replace hf := ie_inv q hf
    refine lv_aload_n X.1 X.2.1 dX10_turnsAtOnce_26 rfl (lv_at hl 0 rfl) ?_
    refine g_10_6 (r := 52) X hP ks_10 rfl (tb t_394 rfl) dX10_turnsAtOnce_27 ?_
    refine lv_iload X.1 X.2.1 dX10_turnsAtOnce_30 (lv_at hl 6 rfl) ?_
    obtain ⟨j3, hij3, hjj3, hlj3, hf⟩ := ag_inv hf
    refine r_aald16 (r := 73 + 10 * j3) X hP (ch_10_6 ks_10).1 (ch_10_6 ks_10).2 hij3 hjj3 rfl dX10_turnsAtOnce_32 ?_
    refine g_2_12 (r := 73 + 10 * j3 + 7) X hP ((ch_16 (ch_10_6 ks_10).1).2 j3 hlj3) rfl (tb t_360 rfl) dX10_turnsAtOnce_33 ?_
    refine lv_iload X.1 X.2.1 dX10_turnsAtOnce_36 (lv_at hl 4 rfl) ?_
    obtain ⟨j4, hij4, hjj4, hlj4, hf⟩ := ag_inv hf
    refine r_iald X hP (ch_2_12 ((ch_16 (ch_10_6 ks_10).1).2 j3 hlj3)).1 (ch_2_12 ((ch_16 (ch_10_6 ks_10).1).2 j3 hlj3)).2 hij4 hjj4 dX10_turnsAtOnce_38 ?_
    refine r_if_eq (tgt := 45) X dX10_turnsAtOnce_39 (by decide) (fun q => ?_) (fun q => ?_)
    · replace hf := it_inv q hf
      exact a_X10_turnsAtOnce_45 X h7 h20  H locs ls l1 l2 l3 l4 l5 l6 hP hS hf hl
    · replace hf := ie_inv q hf
      obtain ⟨l5_5, el5_5, hf⟩ := lt_inv hf
      refine lv_iinc (v := i32 l5_5) (lv' := [(5, .int (i32 l5_5)), (0, .ref (gh G + 0)), (1, .int (i32 l1)), (2, .int (i32 l2)), (3, .int (i32 l3)), (4, .int (i32 l4)), (6, .int (i32 l6))]) X.1 X.2.1 dX10_turnsAtOnce_42 hl (k := 5) rfl (by rw [← el5_5]; exact i32_add _ _) (by decide) rfl (fun ls hl => ?_)
      exact a_X10_turnsAtOnce_45 X h7 h20  H locs ls l1 l2 l3 l4 l5_5 l6 hP hS hf (lv_sub hl [1, 2, 3, 4, 5, 0, 6] rfl)
theorem al_X10_turnsAtOnce_20 {p : Program} {l : Launch} {e : Env} {R : Room} {s : State} {m : MethodId} {args : Array Value} {below : List Frame} {meth : Method} {c : Code} {G : GT} {σ : Mem} {res : Int} {rec7 : Int → Int → Int → Int → Option (Int)} (X : CX p R s m args meth c cX10_turnsAtOnce 7 RX10 (some FieldType.int) 1 60 G) (h7 : S_X10_turnsAtOnce_7 rec7 p l e R s m args below meth c G σ res) : ∀ n, S_X10_turnsAtOnce_20 (X10_turnsAtOnce_L20 rec7 σ n) p l e R s m args below meth c G σ res := by
  intro n
  induction n with
  | zero =>
    intro H locs ls l1 l2 l3 l4 l5 l6 hP hS hf hl
    cases hf
  | succ n ih => exact a_X10_turnsAtOnce_20 X h7 ih
set_option maxHeartbeats 4000000 in
theorem a_X10_turnsAtOnce_7 {p : Program} {l : Launch} {e : Env} {R : Room} {s : State} {m : MethodId} {args : Array Value} {below : List Frame} {meth : Method} {c : Code} {G : GT} {σ : Mem} {res : Int} {rec7 : Int → Int → Int → Int → Option (Int)} (X : CX p R s m args meth c cX10_turnsAtOnce 7 RX10 (some FieldType.int) 1 60 G) (h7 : S_X10_turnsAtOnce_7 rec7 p l e R s m args below meth c G σ res) : S_X10_turnsAtOnce_7 (X10_turnsAtOnce_B7 rec7 σ) p l e R s m args below meth c G σ res := by
  intro H locs ls l1 l2 l3 l4 hP hS hf hl
  unfold X10_turnsAtOnce_B7 at hf
  refine lv_iload X.1 X.2.1 dX10_turnsAtOnce_7 (lv_at hl 4 rfl) ?_
  refine r_bipush X 40 (by decide) dX10_turnsAtOnce_9 ?_
  refine r_icmp_ge (tgt := 73) X dX10_turnsAtOnce_11 (by decide) (fun q => ?_) (fun q => ?_)
  · replace hf := it_inv q hf
    refine lv_iload_n X.1 X.2.1 dX10_turnsAtOnce_73 rfl (lv_at hl 1 rfl) ?_
    refine r_if_eq (tgt := 81) X dX10_turnsAtOnce_74 (by decide) (fun q => ?_) (fun q => ?_)
    · replace hf := it_inv q hf
      refine lv_iload_n X.1 X.2.1 dX10_turnsAtOnce_81 rfl (lv_at hl 3 rfl) ?_
      cases so_inv hf
      exact r_iret X hP hS dX10_turnsAtOnce_82
    · replace hf := ie_inv q hf
      refine lv_iload_n X.1 X.2.1 dX10_turnsAtOnce_77 rfl (lv_at hl 2 rfl) ?_
      refine lv_goto (tgt := 82) X.1 X.2.1 dX10_turnsAtOnce_78 (by decide) ?_
      cases so_inv hf
      exact r_iret X hP hS dX10_turnsAtOnce_82
  · replace hf := ie_inv q hf
    refine r_iconst X 0 dX10_turnsAtOnce_14 ?_
    refine lv_istore (lv' := [(5, .int (i32 0)), (0, .ref (gh G + 0)), (1, .int (i32 l1)), (2, .int (i32 l2)), (3, .int (i32 l3)), (4, .int (i32 l4))]) X.1 X.2.1 dX10_turnsAtOnce_15 hl (by decide) rfl (fun ls hl => ?_)
    refine r_iconst X 0 dX10_turnsAtOnce_17 ?_
    refine lv_istore (lv' := [(6, .int (i32 0)), (5, .int (i32 0)), (0, .ref (gh G + 0)), (1, .int (i32 l1)), (2, .int (i32 l2)), (3, .int (i32 l3)), (4, .int (i32 l4))]) X.1 X.2.1 dX10_turnsAtOnce_18 hl (by decide) rfl (fun ls hl => ?_)
    exact al_X10_turnsAtOnce_20 X h7 5000  H locs ls l1 l2 l3 l4 0 0 hP hS hf (lv_sub hl [2, 3, 4, 5, 6, 1, 0] rfl)
theorem al_X10_turnsAtOnce_7 {p : Program} {l : Launch} {e : Env} {R : Room} {s : State} {m : MethodId} {args : Array Value} {below : List Frame} {meth : Method} {c : Code} {G : GT} {σ : Mem} {res : Int} (X : CX p R s m args meth c cX10_turnsAtOnce 7 RX10 (some FieldType.int) 1 60 G) : ∀ n, S_X10_turnsAtOnce_7 (X10_turnsAtOnce_L7 σ n) p l e R s m args below meth c G σ res := by
  intro n
  induction n with
  | zero =>
    intro H locs ls l1 l2 l3 l4 hP hS hf hl
    cases hf
  | succ n ih => exact a_X10_turnsAtOnce_7 X ih
set_option maxHeartbeats 4000000 in
theorem a_X10_turnsAtOnce_0 {p : Program} {l : Launch} {e : Env} {R : Room} {s : State} {m : MethodId} {args : Array Value} {below : List Frame} {meth : Method} {c : Code} {G : GT} {σ : Mem} {res : Int} (X : CX p R s m args meth c cX10_turnsAtOnce 7 RX10 (some FieldType.int) 1 60 G) : S_X10_turnsAtOnce_0 (X10_turnsAtOnce σ) p l e R s m args below meth c G σ res := by
  intro H locs ls l1 hP hS hf hl
  unfold X10_turnsAtOnce at hf
  refine r_iconst X 0 dX10_turnsAtOnce_0 ?_
  refine lv_istore_n (lv' := [(2, .int (i32 0)), (0, .ref (gh G + 0)), (1, .int (i32 l1))]) X.1 X.2.1 dX10_turnsAtOnce_1 rfl hl (by decide) rfl (fun ls hl => ?_)
  refine r_iconst X 0 dX10_turnsAtOnce_2 ?_
  refine lv_istore_n (lv' := [(3, .int (i32 0)), (2, .int (i32 0)), (0, .ref (gh G + 0)), (1, .int (i32 l1))]) X.1 X.2.1 dX10_turnsAtOnce_3 rfl hl (by decide) rfl (fun ls hl => ?_)
  refine r_iconst X 0 dX10_turnsAtOnce_4 ?_
  refine lv_istore (lv' := [(4, .int (i32 0)), (3, .int (i32 0)), (2, .int (i32 0)), (0, .ref (gh G + 0)), (1, .int (i32 l1))]) X.1 X.2.1 dX10_turnsAtOnce_5 hl (by decide) rfl (fun ls hl => ?_)
  exact al_X10_turnsAtOnce_7 X 5000  H locs ls l1 0 0 0 hP hS hf (lv_sub hl [3, 4, 2, 1, 0] rfl)
set_option maxHeartbeats 4000000 in
theorem c_X10_turnsAtOnce {l : Launch} {G : GT} {σ : Mem} {res : Int} {l1 : Int} (hf : X10_turnsAtOnce σ l1 = some res) : CT l yX10_turnsAtOnce cX10_turnsAtOnce 7 (some FieldType.int) 1 60 G [.ref (gh G + 0), .int (i32 l1)] σ σ (some (.int (i32 res))) := by
  refine CT.mk (own := RX10) (by decide) rfl (Nat.le_of_ble_eq_true rfl) ?_
  intro p e s m below meth c ls X hP hS hl
  have hl : lv_has ls 7 [(0, .ref (gh G + 0)), (1, .int (i32 l1))] := hl
  exact a_X10_turnsAtOnce_0 X  s.heap [] ls l1 hP hS hf hl
theorem k_X10_turnsAtOnce {p : Program} {l : Launch} {e : Env} {R : Room} {s : State} {m : MethodId} {args : Array Value} {below : List Frame} {meth : Method} {c : Code} {H : Heap} {locs : List Loc} {Q : State → Prop} {cc : ByteArray} {nL : Nat} {own : String} {ret : Option FieldType} {fF fL : Nat} {G : GT} {pc idx : Nat} {ls : Array Slot} {rest : List Value} {σ : Mem} {res : Int} {l1 : Int} (X : CX p R s m args meth c cc nL own ret fF fL G) (hP : PW G σ H) (hS : va_S (AA G) s.heap H locs) (hls : ls.size = nL) (hf : X10_turnsAtOnce σ l1 = some res) (h1 : Cond.methodLink own idx yX10_turnsAtOnce ∈ TB) (hR : 1 + 1 ≤ fF ∧ 8 + (7 + 11) + 60 ≤ fL) (hW : (rest.map fun v => v.category).sum ≤ 8) (hd : decode cc pc = .ok (.invokevirtual idx, 3)) (kk : ∀ (H1 : Heap) (locs1 : List Loc), PW G σ H1 → va_S (AA G) s.heap H1 locs1 → W p l e R s m args below meth c H1 locs1 0 0 Q (F0 m (pc + 3) ls (.int (i32 res) :: rest))) : W p l e R s m args below meth c H locs 0 0 Q (F0 m pc ls (.int (i32 l1) :: .ref (gh G + 0) :: rest)) := r_callV (n := 1) X hP hS hls (c_X10_turnsAtOnce hf) h1 (tb t_920 rfl) (tb t_30 rfl) (tb t_75 rfl) (tb t_921 rfl) (by decide +kernel) hR (r_recv X hP (kd_lt ks_10 (by decide)) (cE_10 ks_10) rfl) rfl rfl hW hd kk
/-! X10_all -/
theorem dX10_all_0 : decode cX10_all 0 = .ok (.iload_n 1, 1) := by decide +kernel
theorem dX10_all_1 : decode cX10_all 1 = .ok (.iconst 0, 1) := by decide +kernel
theorem dX10_all_2 : decode cX10_all 2 = .ok (.iconst 3, 1) := by decide +kernel
theorem dX10_all_3 : decode cX10_all 3 = .ok (.invokestatic 62, 3) := by decide +kernel
theorem dX10_all_6 : decode cX10_all 6 = .ok (.ifCond .ne 10, 3) := by decide +kernel
theorem dX10_all_9 : decode cX10_all 9 = .ok (.aload_n 0, 1) := by decide +kernel
theorem dX10_all_10 : decode cX10_all 10 = .ok (.ldc 72, 2) := by decide +kernel
theorem dX10_all_12 : decode cX10_all 12 = .ok (.invokevirtual 73, 3) := by decide +kernel
theorem dX10_all_15 : decode cX10_all 15 = .ok (.ireturn, 1) := by decide +kernel
theorem dX10_all_16 : decode cX10_all 16 = .ok (.iconst 0, 1) := by decide +kernel
theorem dX10_all_17 : decode cX10_all 17 = .ok (.istore_n 2, 1) := by decide +kernel
theorem dX10_all_18 : decode cX10_all 18 = .ok (.iconst 0, 1) := by decide +kernel
theorem dX10_all_19 : decode cX10_all 19 = .ok (.istore_n 3, 1) := by decide +kernel
theorem dX10_all_20 : decode cX10_all 20 = .ok (.iconst 0, 1) := by decide +kernel
theorem dX10_all_21 : decode cX10_all 21 = .ok (.istore 4, 2) := by decide +kernel
theorem dX10_all_23 : decode cX10_all 23 = .ok (.iload 4, 2) := by decide +kernel
theorem dX10_all_25 : decode cX10_all 25 = .ok (.iconst 4, 1) := by decide +kernel
theorem dX10_all_26 : decode cX10_all 26 = .ok (.if_icmp .ge 33, 3) := by decide +kernel
theorem dX10_all_29 : decode cX10_all 29 = .ok (.aload_n 0, 1) := by decide +kernel
theorem dX10_all_30 : decode cX10_all 30 = .ok (.iload 4, 2) := by decide +kernel
theorem dX10_all_32 : decode cX10_all 32 = .ok (.invokevirtual 206, 3) := by decide +kernel
theorem dX10_all_35 : decode cX10_all 35 = .ok (.astore 5, 2) := by decide +kernel
theorem dX10_all_37 : decode cX10_all 37 = .ok (.iload_n 2, 1) := by decide +kernel
theorem dX10_all_38 : decode cX10_all 38 = .ok (.aload 5, 2) := by decide +kernel
theorem dX10_all_40 : decode cX10_all 40 = .ok (.getfield 214, 3) := by decide +kernel
theorem dX10_all_43 : decode cX10_all 43 = .ok (.iadd, 1) := by decide +kernel
theorem dX10_all_44 : decode cX10_all 44 = .ok (.istore_n 2, 1) := by decide +kernel
theorem dX10_all_45 : decode cX10_all 45 = .ok (.iload_n 3, 1) := by decide +kernel
theorem dX10_all_46 : decode cX10_all 46 = .ok (.aload 5, 2) := by decide +kernel
theorem dX10_all_48 : decode cX10_all 48 = .ok (.getfield 217, 3) := by decide +kernel
theorem dX10_all_51 : decode cX10_all 51 = .ok (.iadd, 1) := by decide +kernel
theorem dX10_all_52 : decode cX10_all 52 = .ok (.istore_n 3, 1) := by decide +kernel
theorem dX10_all_53 : decode cX10_all 53 = .ok (.iinc 4 1, 3) := by decide +kernel
theorem dX10_all_56 : decode cX10_all 56 = .ok (.goto (-33), 3) := by decide +kernel
theorem dX10_all_59 : decode cX10_all 59 = .ok (.iload_n 1, 1) := by decide +kernel
theorem dX10_all_60 : decode cX10_all 60 = .ok (.iconst 2, 1) := by decide +kernel
theorem dX10_all_61 : decode cX10_all 61 = .ok (.if_icmp .lt 18, 3) := by decide +kernel
theorem dX10_all_64 : decode cX10_all 64 = .ok (.aload_n 0, 1) := by decide +kernel
theorem dX10_all_65 : decode cX10_all 65 = .ok (.iload_n 1, 1) := by decide +kernel
theorem dX10_all_66 : decode cX10_all 66 = .ok (.iconst 3, 1) := by decide +kernel
theorem dX10_all_67 : decode cX10_all 67 = .ok (.if_icmp .ne 7, 3) := by decide +kernel
theorem dX10_all_70 : decode cX10_all 70 = .ok (.iconst 1, 1) := by decide +kernel
theorem dX10_all_71 : decode cX10_all 71 = .ok (.goto 4, 3) := by decide +kernel
theorem dX10_all_74 : decode cX10_all 74 = .ok (.iconst 0, 1) := by decide +kernel
theorem dX10_all_75 : decode cX10_all 75 = .ok (.invokevirtual 260, 3) := by decide +kernel
theorem dX10_all_78 : decode cX10_all 78 = .ok (.ireturn, 1) := by decide +kernel
theorem dX10_all_79 : decode cX10_all 79 = .ok (.iload_n 1, 1) := by decide +kernel
theorem dX10_all_80 : decode cX10_all 80 = .ok (.ifCond .ne 7, 3) := by decide +kernel
theorem dX10_all_83 : decode cX10_all 83 = .ok (.iload_n 2, 1) := by decide +kernel
theorem dX10_all_84 : decode cX10_all 84 = .ok (.goto 4, 3) := by decide +kernel
theorem dX10_all_87 : decode cX10_all 87 = .ok (.iload_n 3, 1) := by decide +kernel
theorem dX10_all_88 : decode cX10_all 88 = .ok (.ireturn, 1) := by decide +kernel
def S_X10_all_23 (fn : Mem → Int → Int → Int → Int → Option (Int × Mem)) (p : Program) (l : Launch) (e : Env) (R : Room) (s : State) (m : MethodId) (args : Array Value) (below : List Frame) (meth : Method) (c : Code) (G : GT) (τ : Mem) (res : Int) : Prop := ∀ (σ : Mem) (H : Heap) (locs : List Loc) (ls : Array Slot) (l1 : Int) (l2 : Int) (l3 : Int) (l4 : Int), PW G σ H → va_S (AA G) s.heap H locs → fn σ l1 l2 l3 l4 = some (res, τ) → lv_has ls 6 [(0, .ref (gh G + 0)), (1, .int (i32 l1)), (2, .int (i32 l2)), (3, .int (i32 l3)), (4, .int (i32 l4))] → W p l e R s m args below meth c H locs 0 0 (MQ below (QM G (some (.int (i32 res))) τ) args s 0 0 (AA G)) (F0 m 23 ls [])
def X10_all_B75 (σ : Mem) (k1 : Int) : Option (Int × Mem) :=
  bd (X10_turnsAtOnce σ k1) fun r1 =>
  some (r1, σ)
def S_X10_all_75 (fn : Mem → Int → Option (Int × Mem)) (p : Program) (l : Launch) (e : Env) (R : Room) (s : State) (m : MethodId) (args : Array Value) (below : List Frame) (meth : Method) (c : Code) (G : GT) (τ : Mem) (res : Int) : Prop := ∀ (σ : Mem) (H : Heap) (locs : List Loc) (ls : Array Slot) (k1 : Int), PW G σ H → va_S (AA G) s.heap H locs → fn σ k1 = some (res, τ) → lv_has ls 6 [] → W p l e R s m args below meth c H locs 0 0 (MQ below (QM G (some (.int (i32 res))) τ) args s 0 0 (AA G)) (F0 m 75 ls [.int (i32 k1), .ref (gh G + 0)])
def X10_all_B23 (rec23 : Mem → Int → Int → Int → Int → Option (Int × Mem)) (σ : Mem) (l1 : Int) (l2 : Int) (l3 : Int) (l4 : Int) : Option (Int × Mem) :=
  if w32 4 ≤ w32 l4 then
    if w32 l1 < w32 2 then
      if w32 l1 ≠ 0 then
        some (l3, σ)
      else
      some (l2, σ)
    else
    if w32 l1 ≠ w32 3 then
      X10_all_B75 σ 0
    else
    X10_all_B75 σ 1
  else
  bd2 (X10_layingOf σ l4) fun r1 s2 =>
  kg 2 r1 <|
  lt (l2 + (s2 r1 2)) fun l2_3 =>
  lt (l3 + (s2 r1 4)) fun l3_4 =>
  lt (l4 + 1) fun l4_5 =>
  rec23 s2 l1 l2_3 l3_4 l4_5
def X10_all_L23 : Nat → Mem → Int → Int → Int → Int → Option (Int × Mem)
  | 0 => fun _ _ _ _ _ => none
  | n + 1 => X10_all_B23 (X10_all_L23 n)
def X10_all (σ : Mem) (l1 : Int) : Option (Int × Mem) :=
  bd (X10_within σ l1 0 3) fun r1 =>
  if w32 r1 ≠ 0 then
    X10_all_L23 5000 σ l1 0 0 0
  else
  bd2 (X10_tell σ (-1000001)) fun r2 s3 =>
  some (r2, s3)
def S_X10_all_0 (fn : Mem → Int → Option (Int × Mem)) (p : Program) (l : Launch) (e : Env) (R : Room) (s : State) (m : MethodId) (args : Array Value) (below : List Frame) (meth : Method) (c : Code) (G : GT) (τ : Mem) (res : Int) : Prop := ∀ (σ : Mem) (H : Heap) (locs : List Loc) (ls : Array Slot) (l1 : Int), PW G σ H → va_S (AA G) s.heap H locs → fn σ l1 = some (res, τ) → lv_has ls 6 [(0, .ref (gh G + 0)), (1, .int (i32 l1))] → W p l e R s m args below meth c H locs 0 0 (MQ below (QM G (some (.int (i32 res))) τ) args s 0 0 (AA G)) (F0 m 0 ls [])
set_option maxHeartbeats 4000000 in
theorem a_X10_all_75 {p : Program} {l : Launch} {e : Env} {R : Room} {s : State} {m : MethodId} {args : Array Value} {below : List Frame} {meth : Method} {c : Code} {G : GT} {τ : Mem} {res : Int} (X : CX p R s m args meth c cX10_all 6 RX10 (some FieldType.int) 7 209 G) : S_X10_all_75 (X10_all_B75) p l e R s m args below meth c G τ res := by
  intro σ H locs ls k1 hP hS hf hl
  unfold X10_all_B75 at hf
  obtain ⟨r1, hr1, hf⟩ := bd_inv hf
  refine k_X10_turnsAtOnce X hP hS hl.1  hr1 (tb t_918 rfl) (by decide) (Nat.le_of_ble_eq_true rfl) dX10_all_75 (fun H locs hP hS => ?_)
  obtain ⟨rfl, rfl⟩ := so2_inv hf
  exact r_iret X hP hS dX10_all_78
set_option maxHeartbeats 4000000 in
theorem a_X10_all_23 {p : Program} {l : Launch} {e : Env} {R : Room} {s : State} {m : MethodId} {args : Array Value} {below : List Frame} {meth : Method} {c : Code} {G : GT} {τ : Mem} {res : Int} {rec23 : Mem → Int → Int → Int → Int → Option (Int × Mem)} (X : CX p R s m args meth c cX10_all 6 RX10 (some FieldType.int) 7 209 G) (h23 : S_X10_all_23 rec23 p l e R s m args below meth c G τ res) : S_X10_all_23 (X10_all_B23 rec23) p l e R s m args below meth c G τ res := by
  intro σ H locs ls l1 l2 l3 l4 hP hS hf hl
  unfold X10_all_B23 at hf
  refine lv_iload X.1 X.2.1 dX10_all_23 (lv_at hl 4 rfl) ?_
  refine r_iconst X 4 dX10_all_25 ?_
  refine r_icmp_ge (tgt := 59) X dX10_all_26 (by decide) (fun q => ?_) (fun q => ?_)
  · replace hf := it_inv q hf
    refine lv_iload_n X.1 X.2.1 dX10_all_59 rfl (lv_at hl 1 rfl) ?_
    refine r_iconst X 2 dX10_all_60 ?_
    refine r_icmp_lt (tgt := 79) X dX10_all_61 (by decide) (fun q => ?_) (fun q => ?_)
    · replace hf := it_inv q hf
      refine lv_iload_n X.1 X.2.1 dX10_all_79 rfl (lv_at hl 1 rfl) ?_
      refine r_if_ne (tgt := 87) X dX10_all_80 (by decide) (fun q => ?_) (fun q => ?_)
      · replace hf := it_inv q hf
        refine lv_iload_n X.1 X.2.1 dX10_all_87 rfl (lv_at hl 3 rfl) ?_
        obtain ⟨rfl, rfl⟩ := so2_inv hf
        exact r_iret X hP hS dX10_all_88
      · replace hf := ie_inv q hf
        refine lv_iload_n X.1 X.2.1 dX10_all_83 rfl (lv_at hl 2 rfl) ?_
        refine lv_goto (tgt := 88) X.1 X.2.1 dX10_all_84 (by decide) ?_
        obtain ⟨rfl, rfl⟩ := so2_inv hf
        exact r_iret X hP hS dX10_all_88
    · replace hf := ie_inv q hf
      refine lv_aload_n X.1 X.2.1 dX10_all_64 rfl (lv_at hl 0 rfl) ?_
      refine lv_iload_n X.1 X.2.1 dX10_all_65 rfl (lv_at hl 1 rfl) ?_
      refine r_iconst X 3 dX10_all_66 ?_
      refine r_icmp_ne (tgt := 74) X dX10_all_67 (by decide) (fun q => ?_) (fun q => ?_)
      · replace hf := it_inv q hf
        refine r_iconst X 0 dX10_all_74 ?_
        exact a_X10_all_75 X σ H locs ls 0 hP hS hf (lv_sub hl [] rfl)
      · replace hf := ie_inv q hf
        refine r_iconst X 1 dX10_all_70 ?_
        refine lv_goto (tgt := 75) X.1 X.2.1 dX10_all_71 (by decide) ?_
        exact a_X10_all_75 X σ H locs ls 1 hP hS hf (lv_sub hl [] rfl)
  · replace hf := ie_inv q hf
    refine lv_aload_n X.1 X.2.1 dX10_all_29 rfl (lv_at hl 0 rfl) ?_
    refine lv_iload X.1 X.2.1 dX10_all_30 (lv_at hl 4 rfl) ?_
    obtain ⟨r1, s2, hr1, hf⟩ := bd2_inv hf
    refine k_X10_layingOf X hP hS hl.1  hr1 (tb t_752 rfl) (by decide) (Nat.le_of_ble_eq_true rfl) dX10_all_32 (fun H locs hP hS => ?_)
    obtain ⟨hk_r1, hf⟩ := kg_inv hf
    refine lv_astore (lv' := [(5, .ref (gh G + r1)), (0, .ref (gh G + 0)), (1, .int (i32 l1)), (2, .int (i32 l2)), (3, .int (i32 l3)), (4, .int (i32 l4))]) X.1 X.2.1 dX10_all_35 hl (by decide) rfl (fun ls hl => ?_)
    refine lv_iload_n X.1 X.2.1 dX10_all_37 rfl (lv_at hl 3 rfl) ?_
    refine lv_aload X.1 X.2.1 dX10_all_38 (lv_at hl 0 rfl) ?_
    refine g_2_2 X hP hk_r1 (tb t_344 rfl) dX10_all_40 ?_
    refine r_iadd X dX10_all_43 ?_
    obtain ⟨l2_3, el2_3, hf⟩ := lt_inv hf
    refine r_eqi el2_3 ?_
    refine lv_istore_n (lv' := [(2, .int (i32 l2_3)), (5, .ref (gh G + r1)), (0, .ref (gh G + 0)), (1, .int (i32 l1)), (3, .int (i32 l3)), (4, .int (i32 l4))]) X.1 X.2.1 dX10_all_44 rfl hl (by decide) rfl (fun ls hl => ?_)
    refine lv_iload_n X.1 X.2.1 dX10_all_45 rfl (lv_at hl 4 rfl) ?_
    refine lv_aload X.1 X.2.1 dX10_all_46 (lv_at hl 1 rfl) ?_
    refine g_2_4 X hP hk_r1 (tb t_348 rfl) dX10_all_48 ?_
    refine r_iadd X dX10_all_51 ?_
    obtain ⟨l3_4, el3_4, hf⟩ := lt_inv hf
    refine r_eqi el3_4 ?_
    refine lv_istore_n (lv' := [(3, .int (i32 l3_4)), (2, .int (i32 l2_3)), (5, .ref (gh G + r1)), (0, .ref (gh G + 0)), (1, .int (i32 l1)), (4, .int (i32 l4))]) X.1 X.2.1 dX10_all_52 rfl hl (by decide) rfl (fun ls hl => ?_)
    obtain ⟨l4_5, el4_5, hf⟩ := lt_inv hf
    refine lv_iinc (v := i32 l4_5) (lv' := [(4, .int (i32 l4_5)), (3, .int (i32 l3_4)), (2, .int (i32 l2_3)), (5, .ref (gh G + r1)), (0, .ref (gh G + 0)), (1, .int (i32 l1))]) X.1 X.2.1 dX10_all_53 hl (k := 5) rfl (by rw [← el4_5]; exact i32_add _ _) (by decide) rfl (fun ls hl => ?_)
    refine lv_goto (tgt := 23) X.1 X.2.1 dX10_all_56 (by decide) ?_
    exact h23 s2 H locs ls l1 l2_3 l3_4 l4_5 hP hS hf (lv_sub hl [4, 5, 2, 1, 0] rfl)
theorem al_X10_all_23 {p : Program} {l : Launch} {e : Env} {R : Room} {s : State} {m : MethodId} {args : Array Value} {below : List Frame} {meth : Method} {c : Code} {G : GT} {τ : Mem} {res : Int} (X : CX p R s m args meth c cX10_all 6 RX10 (some FieldType.int) 7 209 G) : ∀ n, S_X10_all_23 (X10_all_L23 n) p l e R s m args below meth c G τ res := by
  intro n
  induction n with
  | zero =>
    intro σ H locs ls l1 l2 l3 l4 hP hS hf hl
    cases hf
  | succ n ih => exact a_X10_all_23 X ih
set_option maxHeartbeats 4000000 in
theorem a_X10_all_0 {p : Program} {l : Launch} {e : Env} {R : Room} {s : State} {m : MethodId} {args : Array Value} {below : List Frame} {meth : Method} {c : Code} {G : GT} {τ : Mem} {res : Int} (X : CX p R s m args meth c cX10_all 6 RX10 (some FieldType.int) 7 209 G) : S_X10_all_0 (X10_all) p l e R s m args below meth c G τ res := by
  intro σ H locs ls l1 hP hS hf hl
  unfold X10_all at hf
  refine lv_iload_n X.1 X.2.1 dX10_all_0 rfl (lv_at hl 1 rfl) ?_
  refine r_iconst X 0 dX10_all_1 ?_
  refine r_iconst X 3 dX10_all_2 ?_
  obtain ⟨r1, hr1, hf⟩ := bd_inv hf
  refine k_X10_within X hP hS hl.1  hr1 (tb t_423 rfl) (by decide) (Nat.le_of_ble_eq_true rfl) dX10_all_3 (fun H locs hP hS => ?_)
  refine r_if_ne (tgt := 16) X dX10_all_6 (by decide) (fun q => ?_) (fun q => ?_)
  · replace hf := it_inv q hf
    refine r_iconst X 0 dX10_all_16 ?_
    refine lv_istore_n (lv' := [(2, .int (i32 0)), (0, .ref (gh G + 0)), (1, .int (i32 l1))]) X.1 X.2.1 dX10_all_17 rfl hl (by decide) rfl (fun ls hl => ?_)
    refine r_iconst X 0 dX10_all_18 ?_
    refine lv_istore_n (lv' := [(3, .int (i32 0)), (2, .int (i32 0)), (0, .ref (gh G + 0)), (1, .int (i32 l1))]) X.1 X.2.1 dX10_all_19 rfl hl (by decide) rfl (fun ls hl => ?_)
    refine r_iconst X 0 dX10_all_20 ?_
    refine lv_istore (lv' := [(4, .int (i32 0)), (3, .int (i32 0)), (2, .int (i32 0)), (0, .ref (gh G + 0)), (1, .int (i32 l1))]) X.1 X.2.1 dX10_all_21 hl (by decide) rfl (fun ls hl => ?_)
    exact al_X10_all_23 X 5000 σ H locs ls l1 0 0 0 hP hS hf (lv_sub hl [3, 4, 2, 1, 0] rfl)
  · replace hf := ie_inv q hf
    refine lv_aload_n X.1 X.2.1 dX10_all_9 rfl (lv_at hl 0 rfl) ?_
    refine r_ldc X (-1000001) (tb t_430 rfl) (by decide) dX10_all_10 ?_
    obtain ⟨r2, s3, hr2, hf⟩ := bd2_inv hf
    refine k_X10_tell X hP hS hl.1  hr2 (tb t_431 rfl) (by decide) (Nat.le_of_ble_eq_true rfl) dX10_all_12 (fun H locs hP hS => ?_)
    obtain ⟨rfl, rfl⟩ := so2_inv hf
    exact r_iret X hP hS dX10_all_15
set_option maxHeartbeats 4000000 in
theorem c_X10_all {l : Launch} {G : GT} {σ τ : Mem} {res : Int} {l1 : Int} (hf : X10_all σ l1 = some (res, τ)) : CT l yX10_all cX10_all 6 (some FieldType.int) 7 209 G [.ref (gh G + 0), .int (i32 l1)] σ τ (some (.int (i32 res))) := by
  refine CT.mk (own := RX10) (by decide) rfl (Nat.le_of_ble_eq_true rfl) ?_
  intro p e s m below meth c ls X hP hS hl
  have hl : lv_has ls 6 [(0, .ref (gh G + 0)), (1, .int (i32 l1))] := hl
  exact a_X10_all_0 X σ s.heap [] ls l1 hP hS hf hl
theorem k_X10_all {p : Program} {l : Launch} {e : Env} {R : Room} {s : State} {m : MethodId} {args : Array Value} {below : List Frame} {meth : Method} {c : Code} {H : Heap} {locs : List Loc} {Q : State → Prop} {cc : ByteArray} {nL : Nat} {own : String} {ret : Option FieldType} {fF fL : Nat} {G : GT} {pc idx : Nat} {ls : Array Slot} {rest : List Value} {σ τ : Mem} {res : Int} {l1 : Int} (X : CX p R s m args meth c cc nL own ret fF fL G) (hP : PW G σ H) (hS : va_S (AA G) s.heap H locs) (hls : ls.size = nL) (hf : X10_all σ l1 = some (res, τ)) (h1 : Cond.methodLink own idx yX10_all ∈ TB) (hR : 7 + 1 ≤ fF ∧ 8 + (6 + 11) + 209 ≤ fL) (hW : (rest.map fun v => v.category).sum ≤ 8) (hd : decode cc pc = .ok (.invokevirtual idx, 3)) (kk : ∀ (H1 : Heap) (locs1 : List Loc), PW G τ H1 → va_S (AA G) s.heap H1 locs1 → W p l e R s m args below meth c H1 locs1 0 0 Q (F0 m (pc + 3) ls (.int (i32 res) :: rest))) : W p l e R s m args below meth c H locs 0 0 Q (F0 m pc ls (.int (i32 l1) :: .ref (gh G + 0) :: rest)) := r_callV (n := 1) X hP hS hls (c_X10_all hf) h1 (tb t_915 rfl) (tb t_916 rfl) (tb t_75 rfl) (tb t_917 rfl) (by decide +kernel) hR (r_recv X hP (kd_lt ks_10 (by decide)) (cE_10 ks_10) rfl) rfl rfl hW hd kk
/-! X10_as -/
theorem dX10_as_0 : decode cX10_as 0 = .ok (.iload_n 1, 1) := by decide +kernel
theorem dX10_as_1 : decode cX10_as 1 = .ok (.iconst 0, 1) := by decide +kernel
theorem dX10_as_2 : decode cX10_as 2 = .ok (.bipush 9, 2) := by decide +kernel
theorem dX10_as_4 : decode cX10_as 4 = .ok (.invokestatic 62, 3) := by decide +kernel
theorem dX10_as_7 : decode cX10_as 7 = .ok (.ifCond .eq 13, 3) := by decide +kernel
theorem dX10_as_10 : decode cX10_as 10 = .ok (.iload_n 2, 1) := by decide +kernel
theorem dX10_as_11 : decode cX10_as 11 = .ok (.iconst 0, 1) := by decide +kernel
theorem dX10_as_12 : decode cX10_as 12 = .ok (.bipush 6, 2) := by decide +kernel
theorem dX10_as_14 : decode cX10_as 14 = .ok (.invokestatic 62, 3) := by decide +kernel
theorem dX10_as_17 : decode cX10_as 17 = .ok (.ifCond .ne 10, 3) := by decide +kernel
theorem dX10_as_20 : decode cX10_as 20 = .ok (.aload_n 0, 1) := by decide +kernel
theorem dX10_as_21 : decode cX10_as 21 = .ok (.ldc 72, 2) := by decide +kernel
theorem dX10_as_23 : decode cX10_as 23 = .ok (.invokevirtual 73, 3) := by decide +kernel
theorem dX10_as_26 : decode cX10_as 26 = .ok (.ireturn, 1) := by decide +kernel
theorem dX10_as_27 : decode cX10_as 27 = .ok (.aload_n 0, 1) := by decide +kernel
theorem dX10_as_28 : decode cX10_as 28 = .ok (.getfield 10, 3) := by decide +kernel
theorem dX10_as_31 : decode cX10_as 31 = .ok (.getfield 152, 3) := by decide +kernel
theorem dX10_as_34 : decode cX10_as 34 = .ok (.getfield 293, 3) := by decide +kernel
theorem dX10_as_37 : decode cX10_as 37 = .ok (.iload_n 1, 1) := by decide +kernel
theorem dX10_as_38 : decode cX10_as 38 = .ok (.iaload, 1) := by decide +kernel
theorem dX10_as_39 : decode cX10_as 39 = .ok (.istore_n 3, 1) := by decide +kernel
theorem dX10_as_40 : decode cX10_as 40 = .ok (.aload_n 0, 1) := by decide +kernel
theorem dX10_as_41 : decode cX10_as 41 = .ok (.getfield 10, 3) := by decide +kernel
theorem dX10_as_44 : decode cX10_as 44 = .ok (.getfield 152, 3) := by decide +kernel
theorem dX10_as_47 : decode cX10_as 47 = .ok (.iload_n 3, 1) := by decide +kernel
theorem dX10_as_48 : decode cX10_as 48 = .ok (.invokevirtual 268, 3) := by decide +kernel
theorem dX10_as_51 : decode cX10_as 51 = .ok (.ifCond .ne 11, 3) := by decide +kernel
theorem dX10_as_54 : decode cX10_as 54 = .ok (.aload_n 0, 1) := by decide +kernel
theorem dX10_as_55 : decode cX10_as 55 = .ok (.ldc_w 296, 3) := by decide +kernel
theorem dX10_as_58 : decode cX10_as 58 = .ok (.invokevirtual 73, 3) := by decide +kernel
theorem dX10_as_61 : decode cX10_as 61 = .ok (.ireturn, 1) := by decide +kernel
theorem dX10_as_62 : decode cX10_as 62 = .ok (.aload_n 0, 1) := by decide +kernel
theorem dX10_as_63 : decode cX10_as 63 = .ok (.getfield 10, 3) := by decide +kernel
theorem dX10_as_66 : decode cX10_as 66 = .ok (.getfield 152, 3) := by decide +kernel
theorem dX10_as_69 : decode cX10_as 69 = .ok (.getfield 271, 3) := by decide +kernel
theorem dX10_as_72 : decode cX10_as 72 = .ok (.iload_n 3, 1) := by decide +kernel
theorem dX10_as_73 : decode cX10_as 73 = .ok (.iaload, 1) := by decide +kernel
theorem dX10_as_74 : decode cX10_as 74 = .ok (.iload_n 2, 1) := by decide +kernel
theorem dX10_as_75 : decode cX10_as 75 = .ok (.invokestatic 297, 3) := by decide +kernel
theorem dX10_as_78 : decode cX10_as 78 = .ok (.ifCond .eq 7, 3) := by decide +kernel
theorem dX10_as_81 : decode cX10_as 81 = .ok (.iload_n 3, 1) := by decide +kernel
theorem dX10_as_82 : decode cX10_as 82 = .ok (.goto 9, 3) := by decide +kernel
theorem dX10_as_85 : decode cX10_as 85 = .ok (.aload_n 0, 1) := by decide +kernel
theorem dX10_as_86 : decode cX10_as 86 = .ok (.ldc 191, 2) := by decide +kernel
theorem dX10_as_88 : decode cX10_as 88 = .ok (.invokevirtual 73, 3) := by decide +kernel
theorem dX10_as_91 : decode cX10_as 91 = .ok (.ireturn, 1) := by decide +kernel
def X10_as_B20 (σ : Mem) : Option (Int × Mem) :=
  bd2 (X10_tell σ (-1000001)) fun r1 s2 =>
  some (r1, s2)
def S_X10_as_20 (fn : Mem → Option (Int × Mem)) (p : Program) (l : Launch) (e : Env) (R : Room) (s : State) (m : MethodId) (args : Array Value) (below : List Frame) (meth : Method) (c : Code) (G : GT) (τ : Mem) (res : Int) : Prop := ∀ (σ : Mem) (H : Heap) (locs : List Loc) (ls : Array Slot), PW G σ H → va_S (AA G) s.heap H locs → fn σ = some (res, τ) → lv_has ls 4 [(0, .ref (gh G + 0))] → W p l e R s m args below meth c H locs 0 0 (MQ below (QM G (some (.int (i32 res))) τ) args s 0 0 (AA G)) (F0 m 20 ls [])
def X10_as (σ : Mem) (l1 : Int) (l2 : Int) : Option (Int × Mem) :=
  bd (X10_within σ l1 0 9) fun r1 =>
  if w32 r1 = 0 then
    X10_as_B20 σ
  else
  bd (X10_within σ l2 0 6) fun r2 =>
  if w32 r2 ≠ 0 then
    ag 10 l1 fun j3 =>
    lt (σ 8 j3) fun l3_4 =>
    bd (X0_has σ 4 l3_4) fun r5 =>
    if w32 r5 ≠ 0 then
      ag 30 l3_4 fun j6 =>
      bd (X0_isUnder σ (σ 5 j6) l2) fun r7 =>
      if w32 r7 = 0 then
        bd2 (X10_tell σ (-1000003)) fun r8 s9 =>
        some (r8, s9)
      else
      some (l3_4, σ)
    else
    bd2 (X10_tell σ (-1000006)) fun r10 s11 =>
    some (r10, s11)
  else
  X10_as_B20 σ
def S_X10_as_0 (fn : Mem → Int → Int → Option (Int × Mem)) (p : Program) (l : Launch) (e : Env) (R : Room) (s : State) (m : MethodId) (args : Array Value) (below : List Frame) (meth : Method) (c : Code) (G : GT) (τ : Mem) (res : Int) : Prop := ∀ (σ : Mem) (H : Heap) (locs : List Loc) (ls : Array Slot) (l1 : Int) (l2 : Int), PW G σ H → va_S (AA G) s.heap H locs → fn σ l1 l2 = some (res, τ) → lv_has ls 4 [(0, .ref (gh G + 0)), (1, .int (i32 l1)), (2, .int (i32 l2))] → W p l e R s m args below meth c H locs 0 0 (MQ below (QM G (some (.int (i32 res))) τ) args s 0 0 (AA G)) (F0 m 0 ls [])
set_option maxHeartbeats 4000000 in
theorem a_X10_as_20 {p : Program} {l : Launch} {e : Env} {R : Room} {s : State} {m : MethodId} {args : Array Value} {below : List Frame} {meth : Method} {c : Code} {G : GT} {τ : Mem} {res : Int} (X : CX p R s m args meth c cX10_as 4 RX10 (some FieldType.int) 3 104 G) : S_X10_as_20 (X10_as_B20) p l e R s m args below meth c G τ res := by
  intro σ H locs ls hP hS hf hl
  unfold X10_as_B20 at hf
  refine lv_aload_n X.1 X.2.1 dX10_as_20 rfl (lv_at hl 0 rfl) ?_
  refine r_ldc X (-1000001) (tb t_430 rfl) (by decide) dX10_as_21 ?_
  obtain ⟨r1, s2, hr1, hf⟩ := bd2_inv hf
  refine k_X10_tell X hP hS hl.1  hr1 (tb t_431 rfl) (by decide) (Nat.le_of_ble_eq_true rfl) dX10_as_23 (fun H locs hP hS => ?_)
  obtain ⟨rfl, rfl⟩ := so2_inv hf
  exact r_iret X hP hS dX10_as_26
set_option maxHeartbeats 4000000 in
theorem a_X10_as_0 {p : Program} {l : Launch} {e : Env} {R : Room} {s : State} {m : MethodId} {args : Array Value} {below : List Frame} {meth : Method} {c : Code} {G : GT} {τ : Mem} {res : Int} (X : CX p R s m args meth c cX10_as 4 RX10 (some FieldType.int) 3 104 G) : S_X10_as_0 (X10_as) p l e R s m args below meth c G τ res := by
  intro σ H locs ls l1 l2 hP hS hf hl
  unfold X10_as at hf
  refine lv_iload_n X.1 X.2.1 dX10_as_0 rfl (lv_at hl 1 rfl) ?_
  refine r_iconst X 0 dX10_as_1 ?_
  refine r_bipush X 9 (by decide) dX10_as_2 ?_
  obtain ⟨r1, hr1, hf⟩ := bd_inv hf
  refine k_X10_within X hP hS hl.1  hr1 (tb t_423 rfl) (by decide) (Nat.le_of_ble_eq_true rfl) dX10_as_4 (fun H locs hP hS => ?_)
  refine r_if_eq (tgt := 20) X dX10_as_7 (by decide) (fun q => ?_) (fun q => ?_)
  · replace hf := it_inv q hf
    exact a_X10_as_20 X σ H locs ls  hP hS hf (lv_sub hl [0] rfl)
  · replace hf := ie_inv q hf
    refine lv_iload_n X.1 X.2.1 dX10_as_10 rfl (lv_at hl 2 rfl) ?_
    refine r_iconst X 0 dX10_as_11 ?_
    refine r_bipush X 6 (by decide) dX10_as_12 ?_
    obtain ⟨r2, hr2, hf⟩ := bd_inv hf
    refine k_X10_within X hP hS hl.1  hr2 (tb t_423 rfl) (by decide) (Nat.le_of_ble_eq_true rfl) dX10_as_14 (fun H locs hP hS => ?_)
    refine r_if_ne (tgt := 27) X dX10_as_17 (by decide) (fun q => ?_) (fun q => ?_)
    · replace hf := it_inv q hf
      refine lv_aload_n X.1 X.2.1 dX10_as_27 rfl (lv_at hl 0 rfl) ?_
      refine g_10_0 (r := 1) X hP ks_10 rfl (tb t_388 rfl) dX10_as_28 ?_
      refine g_7_2 (r := 4) X hP (ch_10_0 ks_10).1 rfl (tb t_174 rfl) dX10_as_31 ?_
      refine g_0_4 (r := 8) X hP (ch_7_2 (ch_10_0 ks_10).1).1 rfl (tb t_133 rfl) dX10_as_34 ?_
      refine lv_iload_n X.1 X.2.1 dX10_as_37 rfl (lv_at hl 1 rfl) ?_
      obtain ⟨j3, hij3, hjj3, hlj3, hf⟩ := ag_inv hf
      refine r_iald X hP (ch_0_4 (ch_7_2 (ch_10_0 ks_10).1).1).1 (ch_0_4 (ch_7_2 (ch_10_0 ks_10).1).1).2 hij3 hjj3 dX10_as_38 ?_
      obtain ⟨l3_4, el3_4, hf⟩ := lt_inv hf
      refine r_eqi el3_4 ?_
      refine lv_istore_n (lv' := [(3, .int (i32 l3_4)), (0, .ref (gh G + 0)), (1, .int (i32 l1)), (2, .int (i32 l2))]) X.1 X.2.1 dX10_as_39 rfl hl (by decide) rfl (fun ls hl => ?_)
      refine lv_aload_n X.1 X.2.1 dX10_as_40 rfl (lv_at hl 1 rfl) ?_
      refine g_10_0 (r := 1) X hP ks_10 rfl (tb t_388 rfl) dX10_as_41 ?_
      refine g_7_2 (r := 4) X hP (ch_10_0 ks_10).1 rfl (tb t_174 rfl) dX10_as_44 ?_
      refine lv_iload_n X.1 X.2.1 dX10_as_47 rfl (lv_at hl 0 rfl) ?_
      obtain ⟨r5, hr5, hf⟩ := bd_inv hf
      refine k_X0_has X hP hS hl.1 (ch_7_2 (ch_10_0 ks_10).1).1 hr5 (tb t_935 rfl) (by decide) (Nat.le_of_ble_eq_true rfl) dX10_as_48 (fun H locs hP hS => ?_)
      refine r_if_ne (tgt := 62) X dX10_as_51 (by decide) (fun q => ?_) (fun q => ?_)
      · replace hf := it_inv q hf
        refine lv_aload_n X.1 X.2.1 dX10_as_62 rfl (lv_at hl 1 rfl) ?_
        refine g_10_0 (r := 1) X hP ks_10 rfl (tb t_388 rfl) dX10_as_63 ?_
        refine g_7_2 (r := 4) X hP (ch_10_0 ks_10).1 rfl (tb t_174 rfl) dX10_as_66 ?_
        refine g_0_0 (r := 5) X hP (ch_7_2 (ch_10_0 ks_10).1).1 rfl (tb t_122 rfl) dX10_as_69 ?_
        refine lv_iload_n X.1 X.2.1 dX10_as_72 rfl (lv_at hl 0 rfl) ?_
        obtain ⟨j6, hij6, hjj6, hlj6, hf⟩ := ag_inv hf
        refine r_iald X hP (ch_0_0 (ch_7_2 (ch_10_0 ks_10).1).1).1 (ch_0_0 (ch_7_2 (ch_10_0 ks_10).1).1).2 hij6 hjj6 dX10_as_73 ?_
        refine lv_iload_n X.1 X.2.1 dX10_as_74 rfl (lv_at hl 3 rfl) ?_
        obtain ⟨r7, hr7, hf⟩ := bd_inv hf
        refine k_X0_isUnder X hP hS hl.1  hr7 (tb t_988 rfl) (by decide) (Nat.le_of_ble_eq_true rfl) dX10_as_75 (fun H locs hP hS => ?_)
        refine r_if_eq (tgt := 85) X dX10_as_78 (by decide) (fun q => ?_) (fun q => ?_)
        · replace hf := it_inv q hf
          refine lv_aload_n X.1 X.2.1 dX10_as_85 rfl (lv_at hl 1 rfl) ?_
          refine r_ldc X (-1000003) (tb t_719 rfl) (by decide) dX10_as_86 ?_
          obtain ⟨r8, s9, hr8, hf⟩ := bd2_inv hf
          refine k_X10_tell X hP hS hl.1  hr8 (tb t_431 rfl) (by decide) (Nat.le_of_ble_eq_true rfl) dX10_as_88 (fun H locs hP hS => ?_)
          obtain ⟨rfl, rfl⟩ := so2_inv hf
          exact r_iret X hP hS dX10_as_91
        · replace hf := ie_inv q hf
          refine lv_iload_n X.1 X.2.1 dX10_as_81 rfl (lv_at hl 0 rfl) ?_
          refine lv_goto (tgt := 91) X.1 X.2.1 dX10_as_82 (by decide) ?_
          obtain ⟨rfl, rfl⟩ := so2_inv hf
          exact r_iret X hP hS dX10_as_91
      · replace hf := ie_inv q hf
        refine lv_aload_n X.1 X.2.1 dX10_as_54 rfl (lv_at hl 1 rfl) ?_
        refine r_ldcw X (-1000006) (tb t_987 rfl) (by decide) dX10_as_55 ?_
        obtain ⟨r10, s11, hr10, hf⟩ := bd2_inv hf
        refine k_X10_tell X hP hS hl.1  hr10 (tb t_431 rfl) (by decide) (Nat.le_of_ble_eq_true rfl) dX10_as_58 (fun H locs hP hS => ?_)
        obtain ⟨rfl, rfl⟩ := so2_inv hf
        exact r_iret X hP hS dX10_as_61
    · replace hf := ie_inv q hf
      exact a_X10_as_20 X σ H locs ls  hP hS hf (lv_sub hl [0] rfl)
set_option maxHeartbeats 4000000 in
theorem c_X10_as {l : Launch} {G : GT} {σ τ : Mem} {res : Int} {l1 : Int} {l2 : Int} (hf : X10_as σ l1 l2 = some (res, τ)) : CT l yX10_as cX10_as 4 (some FieldType.int) 3 104 G [.ref (gh G + 0), .int (i32 l1), .int (i32 l2)] σ τ (some (.int (i32 res))) := by
  refine CT.mk (own := RX10) (by decide) rfl (Nat.le_of_ble_eq_true rfl) ?_
  intro p e s m below meth c ls X hP hS hl
  have hl : lv_has ls 4 [(0, .ref (gh G + 0)), (1, .int (i32 l1)), (2, .int (i32 l2))] := hl
  exact a_X10_as_0 X σ s.heap [] ls l1 l2 hP hS hf hl
theorem k_X10_as {p : Program} {l : Launch} {e : Env} {R : Room} {s : State} {m : MethodId} {args : Array Value} {below : List Frame} {meth : Method} {c : Code} {H : Heap} {locs : List Loc} {Q : State → Prop} {cc : ByteArray} {nL : Nat} {own : String} {ret : Option FieldType} {fF fL : Nat} {G : GT} {pc idx : Nat} {ls : Array Slot} {rest : List Value} {σ τ : Mem} {res : Int} {l1 : Int} {l2 : Int} (X : CX p R s m args meth c cc nL own ret fF fL G) (hP : PW G σ H) (hS : va_S (AA G) s.heap H locs) (hls : ls.size = nL) (hf : X10_as σ l1 l2 = some (res, τ)) (h1 : Cond.methodLink own idx yX10_as ∈ TB) (hR : 3 + 1 ≤ fF ∧ 8 + (4 + 11) + 104 ≤ fL) (hW : (rest.map fun v => v.category).sum ≤ 8) (hd : decode cc pc = .ok (.invokevirtual idx, 3)) (kk : ∀ (H1 : Heap) (locs1 : List Loc), PW G τ H1 → va_S (AA G) s.heap H1 locs1 → W p l e R s m args below meth c H1 locs1 0 0 Q (F0 m (pc + 3) ls (.int (i32 res) :: rest))) : W p l e R s m args below meth c H locs 0 0 Q (F0 m pc ls (.int (i32 l2) :: .int (i32 l1) :: .ref (gh G + 0) :: rest)) := r_callV (n := 2) X hP hS hls (c_X10_as hf) h1 (tb t_984 rfl) (tb t_985 rfl) (tb t_75 rfl) (tb t_986 rfl) (by decide +kernel) hR (r_recv X hP (kd_lt ks_10 (by decide)) (cE_10 ks_10) rfl) rfl rfl hW hd kk
/-! X10_isBar -/
theorem dX10_isBar_0 : decode cX10_isBar 0 = .ok (.iload_n 1, 1) := by decide +kernel
theorem dX10_isBar_1 : decode cX10_isBar 1 = .ok (.invokestatic 58, 3) := by decide +kernel
theorem dX10_isBar_4 : decode cX10_isBar 4 = .ok (.ifCond .eq 23, 3) := by decide +kernel
theorem dX10_isBar_7 : decode cX10_isBar 7 = .ok (.aload_n 0, 1) := by decide +kernel
theorem dX10_isBar_8 : decode cX10_isBar 8 = .ok (.getfield 10, 3) := by decide +kernel
theorem dX10_isBar_11 : decode cX10_isBar 11 = .ok (.getfield 77, 3) := by decide +kernel
theorem dX10_isBar_14 : decode cX10_isBar 14 = .ok (.iload_n 1, 1) := by decide +kernel
theorem dX10_isBar_15 : decode cX10_isBar 15 = .ok (.aaload, 1) := by decide +kernel
theorem dX10_isBar_16 : decode cX10_isBar 16 = .ok (.iload_n 2, 1) := by decide +kernel
theorem dX10_isBar_17 : decode cX10_isBar 17 = .ok (.invokevirtual 328, 3) := by decide +kernel
theorem dX10_isBar_20 : decode cX10_isBar 20 = .ok (.ifCond .eq 7, 3) := by decide +kernel
theorem dX10_isBar_23 : decode cX10_isBar 23 = .ok (.iconst 1, 1) := by decide +kernel
theorem dX10_isBar_24 : decode cX10_isBar 24 = .ok (.goto 4, 3) := by decide +kernel
theorem dX10_isBar_27 : decode cX10_isBar 27 = .ok (.iconst 0, 1) := by decide +kernel
theorem dX10_isBar_28 : decode cX10_isBar 28 = .ok (.ireturn, 1) := by decide +kernel
def X10_isBar (σ : Mem) (l1 : Int) (l2 : Int) : Option (Int) :=
  bd (X10_isPart σ l1) fun r1 =>
  if w32 r1 = 0 then
    some 0
  else
  ag 4 l1 fun j2 =>
  bd (X5_has σ (9 + 3 * j2) l2) fun r3 =>
  if w32 r3 = 0 then
    some 0
  else
  some 1
def S_X10_isBar_0 (fn : Int → Int → Option (Int)) (p : Program) (l : Launch) (e : Env) (R : Room) (s : State) (m : MethodId) (args : Array Value) (below : List Frame) (meth : Method) (c : Code) (G : GT) (σ : Mem) (res : Int) : Prop := ∀ (H : Heap) (locs : List Loc) (ls : Array Slot) (l1 : Int) (l2 : Int), PW G σ H → va_S (AA G) s.heap H locs → fn l1 l2 = some res → lv_has ls 3 [(0, .ref (gh G + 0)), (1, .int (i32 l1)), (2, .int (i32 l2))] → W p l e R s m args below meth c H locs 0 0 (MQ below (QM G (some (.int (i32 res))) σ) args s 0 0 (AA G)) (F0 m 0 ls [])
set_option maxHeartbeats 4000000 in
theorem a_X10_isBar_0 {p : Program} {l : Launch} {e : Env} {R : Room} {s : State} {m : MethodId} {args : Array Value} {below : List Frame} {meth : Method} {c : Code} {G : GT} {σ : Mem} {res : Int} (X : CX p R s m args meth c cX10_isBar 3 RX10 (some FieldType.boolean) 3 102 G) : S_X10_isBar_0 (X10_isBar σ) p l e R s m args below meth c G σ res := by
  intro H locs ls l1 l2 hP hS hf hl
  unfold X10_isBar at hf
  refine lv_iload_n X.1 X.2.1 dX10_isBar_0 rfl (lv_at hl 1 rfl) ?_
  obtain ⟨r1, hr1, hf⟩ := bd_inv hf
  refine k_X10_isPart X hP hS hl.1  hr1 (tb t_420 rfl) (by decide) (Nat.le_of_ble_eq_true rfl) dX10_isBar_1 (fun H locs hP hS => ?_)
  refine r_if_eq (tgt := 27) X dX10_isBar_4 (by decide) (fun q => ?_) (fun q => ?_)
  · replace hf := it_inv q hf
    refine r_iconst X 0 dX10_isBar_27 ?_
    cases so_inv hf
    exact r_zret X hP hS (Or.inl rfl) dX10_isBar_28
  · replace hf := ie_inv q hf
    refine lv_aload_n X.1 X.2.1 dX10_isBar_7 rfl (lv_at hl 0 rfl) ?_
    refine g_10_0 (r := 1) X hP ks_10 rfl (tb t_388 rfl) dX10_isBar_8 ?_
    refine g_7_0 (r := 2) X hP (ch_10_0 ks_10).1 rfl (tb t_170 rfl) dX10_isBar_11 ?_
    refine lv_iload_n X.1 X.2.1 dX10_isBar_14 rfl (lv_at hl 1 rfl) ?_
    obtain ⟨j2, hij2, hjj2, hlj2, hf⟩ := ag_inv hf
    refine r_aald18 (r := 9 + 3 * j2) X hP (ch_7_0 (ch_10_0 ks_10).1).1 (ch_7_0 (ch_10_0 ks_10).1).2 hij2 hjj2 rfl dX10_isBar_15 ?_
    refine lv_iload_n X.1 X.2.1 dX10_isBar_16 rfl (lv_at hl 2 rfl) ?_
    obtain ⟨r3, hr3, hf⟩ := bd_inv hf
    refine k_X5_has X hP hS hl.1 ((ch_18 (ch_7_0 (ch_10_0 ks_10).1).1).2 j2 hlj2) hr3 (tb t_636 rfl) (by decide) (Nat.le_of_ble_eq_true rfl) dX10_isBar_17 (fun H locs hP hS => ?_)
    refine r_if_eq (tgt := 27) X dX10_isBar_20 (by decide) (fun q => ?_) (fun q => ?_)
    · replace hf := it_inv q hf
      refine r_iconst X 0 dX10_isBar_27 ?_
      cases so_inv hf
      exact r_zret X hP hS (Or.inl rfl) dX10_isBar_28
    · replace hf := ie_inv q hf
      refine r_iconst X 1 dX10_isBar_23 ?_
      refine lv_goto (tgt := 28) X.1 X.2.1 dX10_isBar_24 (by decide) ?_
      cases so_inv hf
      exact r_zret X hP hS (Or.inr rfl) dX10_isBar_28
set_option maxHeartbeats 4000000 in
theorem c_X10_isBar {l : Launch} {G : GT} {σ : Mem} {res : Int} {l1 : Int} {l2 : Int} (hf : X10_isBar σ l1 l2 = some res) : CT l yX10_isBar cX10_isBar 3 (some FieldType.boolean) 3 102 G [.ref (gh G + 0), .int (i32 l1), .int (i32 l2)] σ σ (some (.int (i32 res))) := by
  refine CT.mk (own := RX10) (by decide) rfl (Nat.le_of_ble_eq_true rfl) ?_
  intro p e s m below meth c ls X hP hS hl
  have hl : lv_has ls 3 [(0, .ref (gh G + 0)), (1, .int (i32 l1)), (2, .int (i32 l2))] := hl
  exact a_X10_isBar_0 X  s.heap [] ls l1 l2 hP hS hf hl
theorem k_X10_isBar {p : Program} {l : Launch} {e : Env} {R : Room} {s : State} {m : MethodId} {args : Array Value} {below : List Frame} {meth : Method} {c : Code} {H : Heap} {locs : List Loc} {Q : State → Prop} {cc : ByteArray} {nL : Nat} {own : String} {ret : Option FieldType} {fF fL : Nat} {G : GT} {pc idx : Nat} {ls : Array Slot} {rest : List Value} {σ : Mem} {res : Int} {l1 : Int} {l2 : Int} (X : CX p R s m args meth c cc nL own ret fF fL G) (hP : PW G σ H) (hS : va_S (AA G) s.heap H locs) (hls : ls.size = nL) (hf : X10_isBar σ l1 l2 = some res) (h1 : Cond.methodLink own idx yX10_isBar ∈ TB) (hR : 3 + 1 ≤ fF ∧ 8 + (3 + 11) + 102 ≤ fL) (hW : (rest.map fun v => v.category).sum ≤ 8) (hd : decode cc pc = .ok (.invokevirtual idx, 3)) (kk : ∀ (H1 : Heap) (locs1 : List Loc), PW G σ H1 → va_S (AA G) s.heap H1 locs1 → W p l e R s m args below meth c H1 locs1 0 0 Q (F0 m (pc + 3) ls (.int (i32 res) :: rest))) : W p l e R s m args below meth c H locs 0 0 Q (F0 m pc ls (.int (i32 l2) :: .int (i32 l1) :: .ref (gh G + 0) :: rest)) := r_callV (n := 2) X hP hS hls (c_X10_isBar hf) h1 (tb t_634 rfl) (tb t_20 rfl) (tb t_75 rfl) (tb t_635 rfl) (by decide +kernel) hR (r_recv X hP (kd_lt ks_10 (by decide)) (cE_10 ks_10) rfl) rfl rfl hW hd kk
/-! X10_bar -/
theorem dX10_bar_0 : decode cX10_bar 0 = .ok (.aload_n 0, 1) := by decide +kernel
theorem dX10_bar_1 : decode cX10_bar 1 = .ok (.iload_n 1, 1) := by decide +kernel
theorem dX10_bar_2 : decode cX10_bar 2 = .ok (.iload_n 2, 1) := by decide +kernel
theorem dX10_bar_3 : decode cX10_bar 3 = .ok (.invokevirtual 141, 3) := by decide +kernel
theorem dX10_bar_6 : decode cX10_bar 6 = .ok (.ifCond .eq 12, 3) := by decide +kernel
theorem dX10_bar_9 : decode cX10_bar 9 = .ok (.iload_n 3, 1) := by decide +kernel
theorem dX10_bar_10 : decode cX10_bar 10 = .ok (.iconst 0, 1) := by decide +kernel
theorem dX10_bar_11 : decode cX10_bar 11 = .ok (.iconst 3, 1) := by decide +kernel
theorem dX10_bar_12 : decode cX10_bar 12 = .ok (.invokestatic 62, 3) := by decide +kernel
theorem dX10_bar_15 : decode cX10_bar 15 = .ok (.ifCond .ne 10, 3) := by decide +kernel
theorem dX10_bar_18 : decode cX10_bar 18 = .ok (.aload_n 0, 1) := by decide +kernel
theorem dX10_bar_19 : decode cX10_bar 19 = .ok (.ldc 72, 2) := by decide +kernel
theorem dX10_bar_21 : decode cX10_bar 21 = .ok (.invokevirtual 73, 3) := by decide +kernel
theorem dX10_bar_24 : decode cX10_bar 24 = .ok (.ireturn, 1) := by decide +kernel
theorem dX10_bar_25 : decode cX10_bar 25 = .ok (.aload_n 0, 1) := by decide +kernel
theorem dX10_bar_26 : decode cX10_bar 26 = .ok (.getfield 10, 3) := by decide +kernel
theorem dX10_bar_29 : decode cX10_bar 29 = .ok (.getfield 77, 3) := by decide +kernel
theorem dX10_bar_32 : decode cX10_bar 32 = .ok (.iload_n 1, 1) := by decide +kernel
theorem dX10_bar_33 : decode cX10_bar 33 = .ok (.aaload, 1) := by decide +kernel
theorem dX10_bar_34 : decode cX10_bar 34 = .ok (.iload_n 2, 1) := by decide +kernel
theorem dX10_bar_35 : decode cX10_bar 35 = .ok (.iload_n 3, 1) := by decide +kernel
theorem dX10_bar_36 : decode cX10_bar 36 = .ok (.invokevirtual 145, 3) := by decide +kernel
theorem dX10_bar_39 : decode cX10_bar 39 = .ok (.ireturn, 1) := by decide +kernel
def X10_bar_B18 (σ : Mem) : Option (Int × Mem) :=
  bd2 (X10_tell σ (-1000001)) fun r1 s2 =>
  some (r1, s2)
def S_X10_bar_18 (fn : Mem → Option (Int × Mem)) (p : Program) (l : Launch) (e : Env) (R : Room) (s : State) (m : MethodId) (args : Array Value) (below : List Frame) (meth : Method) (c : Code) (G : GT) (τ : Mem) (res : Int) : Prop := ∀ (σ : Mem) (H : Heap) (locs : List Loc) (ls : Array Slot), PW G σ H → va_S (AA G) s.heap H locs → fn σ = some (res, τ) → lv_has ls 4 [(0, .ref (gh G + 0))] → W p l e R s m args below meth c H locs 0 0 (MQ below (QM G (some (.int (i32 res))) τ) args s 0 0 (AA G)) (F0 m 18 ls [])
def X10_bar (σ : Mem) (l1 : Int) (l2 : Int) (l3 : Int) : Option (Int × Mem) :=
  bd (X10_isBar σ l1 l2) fun r1 =>
  if w32 r1 = 0 then
    X10_bar_B18 σ
  else
  bd (X10_within σ l3 0 3) fun r2 =>
  if w32 r2 ≠ 0 then
    ag 4 l1 fun j3 =>
    bd (X5_fact σ (9 + 3 * j3) l2 l3) fun r4 =>
    some (r4, σ)
  else
  X10_bar_B18 σ
def S_X10_bar_0 (fn : Mem → Int → Int → Int → Option (Int × Mem)) (p : Program) (l : Launch) (e : Env) (R : Room) (s : State) (m : MethodId) (args : Array Value) (below : List Frame) (meth : Method) (c : Code) (G : GT) (τ : Mem) (res : Int) : Prop := ∀ (σ : Mem) (H : Heap) (locs : List Loc) (ls : Array Slot) (l1 : Int) (l2 : Int) (l3 : Int), PW G σ H → va_S (AA G) s.heap H locs → fn σ l1 l2 l3 = some (res, τ) → lv_has ls 4 [(0, .ref (gh G + 0)), (1, .int (i32 l1)), (2, .int (i32 l2)), (3, .int (i32 l3))] → W p l e R s m args below meth c H locs 0 0 (MQ below (QM G (some (.int (i32 res))) τ) args s 0 0 (AA G)) (F0 m 0 ls [])
set_option maxHeartbeats 4000000 in
theorem a_X10_bar_18 {p : Program} {l : Launch} {e : Env} {R : Room} {s : State} {m : MethodId} {args : Array Value} {below : List Frame} {meth : Method} {c : Code} {G : GT} {τ : Mem} {res : Int} (X : CX p R s m args meth c cX10_bar 4 RX10 (some FieldType.int) 4 124 G) : S_X10_bar_18 (X10_bar_B18) p l e R s m args below meth c G τ res := by
  intro σ H locs ls hP hS hf hl
  unfold X10_bar_B18 at hf
  refine lv_aload_n X.1 X.2.1 dX10_bar_18 rfl (lv_at hl 0 rfl) ?_
  refine r_ldc X (-1000001) (tb t_430 rfl) (by decide) dX10_bar_19 ?_
  obtain ⟨r1, s2, hr1, hf⟩ := bd2_inv hf
  refine k_X10_tell X hP hS hl.1  hr1 (tb t_431 rfl) (by decide) (Nat.le_of_ble_eq_true rfl) dX10_bar_21 (fun H locs hP hS => ?_)
  obtain ⟨rfl, rfl⟩ := so2_inv hf
  exact r_iret X hP hS dX10_bar_24
set_option maxHeartbeats 4000000 in
theorem a_X10_bar_0 {p : Program} {l : Launch} {e : Env} {R : Room} {s : State} {m : MethodId} {args : Array Value} {below : List Frame} {meth : Method} {c : Code} {G : GT} {τ : Mem} {res : Int} (X : CX p R s m args meth c cX10_bar 4 RX10 (some FieldType.int) 4 124 G) : S_X10_bar_0 (X10_bar) p l e R s m args below meth c G τ res := by
  intro σ H locs ls l1 l2 l3 hP hS hf hl
  unfold X10_bar at hf
  refine lv_aload_n X.1 X.2.1 dX10_bar_0 rfl (lv_at hl 0 rfl) ?_
  refine lv_iload_n X.1 X.2.1 dX10_bar_1 rfl (lv_at hl 1 rfl) ?_
  refine lv_iload_n X.1 X.2.1 dX10_bar_2 rfl (lv_at hl 2 rfl) ?_
  obtain ⟨r1, hr1, hf⟩ := bd_inv hf
  refine k_X10_isBar X hP hS hl.1  hr1 (tb t_632 rfl) (by decide) (Nat.le_of_ble_eq_true rfl) dX10_bar_3 (fun H locs hP hS => ?_)
  refine r_if_eq (tgt := 18) X dX10_bar_6 (by decide) (fun q => ?_) (fun q => ?_)
  · replace hf := it_inv q hf
    exact a_X10_bar_18 X σ H locs ls  hP hS hf (lv_sub hl [0] rfl)
  · replace hf := ie_inv q hf
    refine lv_iload_n X.1 X.2.1 dX10_bar_9 rfl (lv_at hl 3 rfl) ?_
    refine r_iconst X 0 dX10_bar_10 ?_
    refine r_iconst X 3 dX10_bar_11 ?_
    obtain ⟨r2, hr2, hf⟩ := bd_inv hf
    refine k_X10_within X hP hS hl.1  hr2 (tb t_423 rfl) (by decide) (Nat.le_of_ble_eq_true rfl) dX10_bar_12 (fun H locs hP hS => ?_)
    refine r_if_ne (tgt := 25) X dX10_bar_15 (by decide) (fun q => ?_) (fun q => ?_)
    · replace hf := it_inv q hf
      refine lv_aload_n X.1 X.2.1 dX10_bar_25 rfl (lv_at hl 0 rfl) ?_
      refine g_10_0 (r := 1) X hP ks_10 rfl (tb t_388 rfl) dX10_bar_26 ?_
      refine g_7_0 (r := 2) X hP (ch_10_0 ks_10).1 rfl (tb t_170 rfl) dX10_bar_29 ?_
      refine lv_iload_n X.1 X.2.1 dX10_bar_32 rfl (lv_at hl 1 rfl) ?_
      obtain ⟨j3, hij3, hjj3, hlj3, hf⟩ := ag_inv hf
      refine r_aald18 (r := 9 + 3 * j3) X hP (ch_7_0 (ch_10_0 ks_10).1).1 (ch_7_0 (ch_10_0 ks_10).1).2 hij3 hjj3 rfl dX10_bar_33 ?_
      refine lv_iload_n X.1 X.2.1 dX10_bar_34 rfl (lv_at hl 2 rfl) ?_
      refine lv_iload_n X.1 X.2.1 dX10_bar_35 rfl (lv_at hl 3 rfl) ?_
      obtain ⟨r4, hr4, hf⟩ := bd_inv hf
      refine k_X5_fact X hP hS hl.1 ((ch_18 (ch_7_0 (ch_10_0 ks_10).1).1).2 j3 hlj3) hr4 (tb t_640 rfl) (by decide) (Nat.le_of_ble_eq_true rfl) dX10_bar_36 (fun H locs hP hS => ?_)
      obtain ⟨rfl, rfl⟩ := so2_inv hf
      exact r_iret X hP hS dX10_bar_39
    · replace hf := ie_inv q hf
      exact a_X10_bar_18 X σ H locs ls  hP hS hf (lv_sub hl [0] rfl)
set_option maxHeartbeats 4000000 in
theorem c_X10_bar {l : Launch} {G : GT} {σ τ : Mem} {res : Int} {l1 : Int} {l2 : Int} {l3 : Int} (hf : X10_bar σ l1 l2 l3 = some (res, τ)) : CT l yX10_bar cX10_bar 4 (some FieldType.int) 4 124 G [.ref (gh G + 0), .int (i32 l1), .int (i32 l2), .int (i32 l3)] σ τ (some (.int (i32 res))) := by
  refine CT.mk (own := RX10) (by decide) rfl (Nat.le_of_ble_eq_true rfl) ?_
  intro p e s m below meth c ls X hP hS hl
  have hl : lv_has ls 4 [(0, .ref (gh G + 0)), (1, .int (i32 l1)), (2, .int (i32 l2)), (3, .int (i32 l3))] := hl
  exact a_X10_bar_0 X σ s.heap [] ls l1 l2 l3 hP hS hf hl
theorem k_X10_bar {p : Program} {l : Launch} {e : Env} {R : Room} {s : State} {m : MethodId} {args : Array Value} {below : List Frame} {meth : Method} {c : Code} {H : Heap} {locs : List Loc} {Q : State → Prop} {cc : ByteArray} {nL : Nat} {own : String} {ret : Option FieldType} {fF fL : Nat} {G : GT} {pc idx : Nat} {ls : Array Slot} {rest : List Value} {σ τ : Mem} {res : Int} {l1 : Int} {l2 : Int} {l3 : Int} (X : CX p R s m args meth c cc nL own ret fF fL G) (hP : PW G σ H) (hS : va_S (AA G) s.heap H locs) (hls : ls.size = nL) (hf : X10_bar σ l1 l2 l3 = some (res, τ)) (h1 : Cond.methodLink own idx yX10_bar ∈ TB) (hR : 4 + 1 ≤ fF ∧ 8 + (4 + 11) + 124 ≤ fL) (hW : (rest.map fun v => v.category).sum ≤ 8) (hd : decode cc pc = .ok (.invokevirtual idx, 3)) (kk : ∀ (H1 : Heap) (locs1 : List Loc), PW G τ H1 → va_S (AA G) s.heap H1 locs1 → W p l e R s m args below meth c H1 locs1 0 0 Q (F0 m (pc + 3) ls (.int (i32 res) :: rest))) : W p l e R s m args below meth c H locs 0 0 Q (F0 m pc ls (.int (i32 l3) :: .int (i32 l2) :: .int (i32 l1) :: .ref (gh G + 0) :: rest)) := r_callV (n := 3) X hP hS hls (c_X10_bar hf) h1 (tb t_629 rfl) (tb t_630 rfl) (tb t_75 rfl) (tb t_631 rfl) (by decide +kernel) hR (r_recv X hP (kd_lt ks_10 (by decide)) (cE_10 ks_10) rfl) rfl rfl hW hd kk
/-! X2_isNone -/
theorem dX2_isNone_0 : decode cX2_isNone 0 = .ok (.aload_n 0, 1) := by decide +kernel
theorem dX2_isNone_1 : decode cX2_isNone 1 = .ok (.getfield 33, 3) := by decide +kernel
theorem dX2_isNone_4 : decode cX2_isNone 4 = .ok (.ifCond .ne 7, 3) := by decide +kernel
theorem dX2_isNone_7 : decode cX2_isNone 7 = .ok (.iconst 1, 1) := by decide +kernel
theorem dX2_isNone_8 : decode cX2_isNone 8 = .ok (.goto 4, 3) := by decide +kernel
theorem dX2_isNone_11 : decode cX2_isNone 11 = .ok (.iconst 0, 1) := by decide +kernel
theorem dX2_isNone_12 : decode cX2_isNone 12 = .ok (.ireturn, 1) := by decide +kernel
def X2_isNone (σ : Mem) (l0 : Nat) : Option (Int) :=
  if w32 (σ l0 0) ≠ 0 then
    some 0
  else
  some 1
def S_X2_isNone_0 (fn : Nat → Option (Int)) (p : Program) (l : Launch) (e : Env) (R : Room) (s : State) (m : MethodId) (args : Array Value) (below : List Frame) (meth : Method) (c : Code) (G : GT) (σ : Mem) (res : Int) : Prop := ∀ (H : Heap) (locs : List Loc) (ls : Array Slot) (l0 : Nat), kd l0 = 2 → PW G σ H → va_S (AA G) s.heap H locs → fn l0 = some res → lv_has ls 1 [(0, .ref (gh G + l0))] → W p l e R s m args below meth c H locs 0 0 (MQ below (QM G (some (.int (i32 res))) σ) args s 0 0 (AA G)) (F0 m 0 ls [])
set_option maxHeartbeats 4000000 in
theorem a_X2_isNone_0 {p : Program} {l : Launch} {e : Env} {R : Room} {s : State} {m : MethodId} {args : Array Value} {below : List Frame} {meth : Method} {c : Code} {G : GT} {σ : Mem} {res : Int} (X : CX p R s m args meth c cX2_isNone 1 RX2 (some FieldType.boolean) 1 60 G) : S_X2_isNone_0 (X2_isNone σ) p l e R s m args below meth c G σ res := by
  intro H locs ls l0 hk_l0 hP hS hf hl
  unfold X2_isNone at hf
  refine lv_aload_n X.1 X.2.1 dX2_isNone_0 rfl (lv_at hl 0 rfl) ?_
  refine g_2_0 X hP hk_l0 (tb t_339 rfl) dX2_isNone_1 ?_
  refine r_if_ne (tgt := 11) X dX2_isNone_4 (by decide) (fun q => ?_) (fun q => ?_)
  · replace hf := it_inv q hf
    refine r_iconst X 0 dX2_isNone_11 ?_
    cases so_inv hf
    exact r_zret X hP hS (Or.inl rfl) dX2_isNone_12
  · replace hf := ie_inv q hf
    refine r_iconst X 1 dX2_isNone_7 ?_
    refine lv_goto (tgt := 12) X.1 X.2.1 dX2_isNone_8 (by decide) ?_
    cases so_inv hf
    exact r_zret X hP hS (Or.inr rfl) dX2_isNone_12
set_option maxHeartbeats 4000000 in
theorem c_X2_isNone {l : Launch} {G : GT} {σ : Mem} {res : Int} {l0 : Nat} (hk_l0 : kd l0 = 2) (hf : X2_isNone σ l0 = some res) : CT l yX2_isNone cX2_isNone 1 (some FieldType.boolean) 1 60 G [.ref (gh G + l0)] σ σ (some (.int (i32 res))) := by
  refine CT.mk (own := RX2) (by decide) rfl (Nat.le_of_ble_eq_true rfl) ?_
  intro p e s m below meth c ls X hP hS hl
  have hl : lv_has ls 1 [(0, .ref (gh G + l0))] := hl
  exact a_X2_isNone_0 X  s.heap [] ls l0 hk_l0 hP hS hf hl
theorem k_X2_isNone {p : Program} {l : Launch} {e : Env} {R : Room} {s : State} {m : MethodId} {args : Array Value} {below : List Frame} {meth : Method} {c : Code} {H : Heap} {locs : List Loc} {Q : State → Prop} {cc : ByteArray} {nL : Nat} {own : String} {ret : Option FieldType} {fF fL : Nat} {G : GT} {pc idx : Nat} {ls : Array Slot} {rest : List Value} {σ : Mem} {res : Int} {l0 : Nat} (X : CX p R s m args meth c cc nL own ret fF fL G) (hP : PW G σ H) (hS : va_S (AA G) s.heap H locs) (hls : ls.size = nL) (hk_l0 : kd l0 = 2) (hf : X2_isNone σ l0 = some res) (h1 : Cond.methodLink own idx yX2_isNone ∈ TB) (hR : 1 + 1 ≤ fF ∧ 8 + (1 + 11) + 60 ≤ fL) (hW : (rest.map fun v => v.category).sum ≤ 8) (hd : decode cc pc = .ok (.invokevirtual idx, 3)) (kk : ∀ (H1 : Heap) (locs1 : List Loc), PW G σ H1 → va_S (AA G) s.heap H1 locs1 → W p l e R s m args below meth c H1 locs1 0 0 Q (F0 m (pc + 3) ls (.int (i32 res) :: rest))) : W p l e R s m args below meth c H locs 0 0 Q (F0 m pc ls (.ref (gh G + l0) :: rest)) := r_callV (n := 0) X hP hS hls (c_X2_isNone hk_l0 hf) h1 (tb t_858 rfl) (tb t_859 rfl) (tb t_86 rfl) (tb t_860 rfl) (by decide +kernel) hR (r_recv X hP (kd_lt hk_l0 (by decide)) (cE_2 hk_l0) rfl) rfl rfl hW hd kk
/-! X10_best -/
theorem dX10_best_0 : decode cX10_best 0 = .ok (.iload_n 1, 1) := by decide +kernel
theorem dX10_best_1 : decode cX10_best 1 = .ok (.invokestatic 58, 3) := by decide +kernel
theorem dX10_best_4 : decode cX10_best 4 = .ok (.ifCond .eq 12, 3) := by decide +kernel
theorem dX10_best_7 : decode cX10_best 7 = .ok (.iload_n 2, 1) := by decide +kernel
theorem dX10_best_8 : decode cX10_best 8 = .ok (.iconst 0, 1) := by decide +kernel
theorem dX10_best_9 : decode cX10_best 9 = .ok (.iconst 4, 1) := by decide +kernel
theorem dX10_best_10 : decode cX10_best 10 = .ok (.invokestatic 62, 3) := by decide +kernel
theorem dX10_best_13 : decode cX10_best 13 = .ok (.ifCond .ne 10, 3) := by decide +kernel
theorem dX10_best_16 : decode cX10_best 16 = .ok (.aload_n 0, 1) := by decide +kernel
theorem dX10_best_17 : decode cX10_best 17 = .ok (.ldc 72, 2) := by decide +kernel
theorem dX10_best_19 : decode cX10_best 19 = .ok (.invokevirtual 73, 3) := by decide +kernel
theorem dX10_best_22 : decode cX10_best 22 = .ok (.ireturn, 1) := by decide +kernel
theorem dX10_best_23 : decode cX10_best 23 = .ok (.aload_n 0, 1) := by decide +kernel
theorem dX10_best_24 : decode cX10_best 24 = .ok (.iload_n 1, 1) := by decide +kernel
theorem dX10_best_25 : decode cX10_best 25 = .ok (.invokevirtual 206, 3) := by decide +kernel
theorem dX10_best_28 : decode cX10_best 28 = .ok (.astore_n 3, 1) := by decide +kernel
theorem dX10_best_29 : decode cX10_best 29 = .ok (.aload_n 3, 1) := by decide +kernel
theorem dX10_best_30 : decode cX10_best 30 = .ok (.invokevirtual 210, 3) := by decide +kernel
theorem dX10_best_33 : decode cX10_best 33 = .ok (.ifCond .eq 10, 3) := by decide +kernel
theorem dX10_best_36 : decode cX10_best 36 = .ok (.aload_n 0, 1) := by decide +kernel
theorem dX10_best_37 : decode cX10_best 37 = .ok (.ldc 205, 2) := by decide +kernel
theorem dX10_best_39 : decode cX10_best 39 = .ok (.invokevirtual 73, 3) := by decide +kernel
theorem dX10_best_42 : decode cX10_best 42 = .ok (.ireturn, 1) := by decide +kernel
theorem dX10_best_43 : decode cX10_best 43 = .ok (.iload_n 2, 1) := by decide +kernel
theorem dX10_best_44 : decode cX10_best 44 = .ok (.tableswitch 52 0 3 #[32, 37, 42, 47], 32) := by decide +kernel
theorem dX10_best_76 : decode cX10_best 76 = .ok (.aload_n 3, 1) := by decide +kernel
theorem dX10_best_77 : decode cX10_best 77 = .ok (.getfield 214, 3) := by decide +kernel
theorem dX10_best_80 : decode cX10_best 80 = .ok (.ireturn, 1) := by decide +kernel
theorem dX10_best_81 : decode cX10_best 81 = .ok (.aload_n 3, 1) := by decide +kernel
theorem dX10_best_82 : decode cX10_best 82 = .ok (.getfield 217, 3) := by decide +kernel
theorem dX10_best_85 : decode cX10_best 85 = .ok (.ireturn, 1) := by decide +kernel
theorem dX10_best_86 : decode cX10_best 86 = .ok (.aload_n 3, 1) := by decide +kernel
theorem dX10_best_87 : decode cX10_best 87 = .ok (.getfield 220, 3) := by decide +kernel
theorem dX10_best_90 : decode cX10_best 90 = .ok (.ireturn, 1) := by decide +kernel
theorem dX10_best_91 : decode cX10_best 91 = .ok (.aload_n 3, 1) := by decide +kernel
theorem dX10_best_92 : decode cX10_best 92 = .ok (.getfield 223, 3) := by decide +kernel
theorem dX10_best_95 : decode cX10_best 95 = .ok (.ireturn, 1) := by decide +kernel
theorem dX10_best_96 : decode cX10_best 96 = .ok (.aload_n 3, 1) := by decide +kernel
theorem dX10_best_97 : decode cX10_best 97 = .ok (.getfield 225, 3) := by decide +kernel
theorem dX10_best_100 : decode cX10_best 100 = .ok (.ireturn, 1) := by decide +kernel
def X10_best_B16 (σ : Mem) : Option (Int × Mem) :=
  bd2 (X10_tell σ (-1000001)) fun r1 s2 =>
  some (r1, s2)
def S_X10_best_16 (fn : Mem → Option (Int × Mem)) (p : Program) (l : Launch) (e : Env) (R : Room) (s : State) (m : MethodId) (args : Array Value) (below : List Frame) (meth : Method) (c : Code) (G : GT) (τ : Mem) (res : Int) : Prop := ∀ (σ : Mem) (H : Heap) (locs : List Loc) (ls : Array Slot), PW G σ H → va_S (AA G) s.heap H locs → fn σ = some (res, τ) → lv_has ls 4 [(0, .ref (gh G + 0))] → W p l e R s m args below meth c H locs 0 0 (MQ below (QM G (some (.int (i32 res))) τ) args s 0 0 (AA G)) (F0 m 16 ls [])
def X10_best (σ : Mem) (l1 : Int) (l2 : Int) : Option (Int × Mem) :=
  bd (X10_isPart σ l1) fun r1 =>
  if w32 r1 = 0 then
    X10_best_B16 σ
  else
  bd (X10_within σ l2 0 4) fun r2 =>
  if w32 r2 ≠ 0 then
    bd2 (X10_layingOf σ l1) fun r3 s4 =>
    kg 2 r3 <|
    bd (X2_isNone s4 r3) fun r5 =>
    if w32 r5 = 0 then
      if w32 l2 = 0 then
        some (s4 r3 2, s4)
      else
      if w32 l2 = 1 then
        some (s4 r3 4, s4)
      else
      if w32 l2 = 2 then
        some (s4 r3 0, s4)
      else
      if w32 l2 = 3 then
        some (s4 r3 1, s4)
      else
      some (s4 r3 3, s4)
    else
    bd2 (X10_tell s4 (-1000004)) fun r6 s7 =>
    some (r6, s7)
  else
  X10_best_B16 σ
def S_X10_best_0 (fn : Mem → Int → Int → Option (Int × Mem)) (p : Program) (l : Launch) (e : Env) (R : Room) (s : State) (m : MethodId) (args : Array Value) (below : List Frame) (meth : Method) (c : Code) (G : GT) (τ : Mem) (res : Int) : Prop := ∀ (σ : Mem) (H : Heap) (locs : List Loc) (ls : Array Slot) (l1 : Int) (l2 : Int), PW G σ H → va_S (AA G) s.heap H locs → fn σ l1 l2 = some (res, τ) → lv_has ls 4 [(0, .ref (gh G + 0)), (1, .int (i32 l1)), (2, .int (i32 l2))] → W p l e R s m args below meth c H locs 0 0 (MQ below (QM G (some (.int (i32 res))) τ) args s 0 0 (AA G)) (F0 m 0 ls [])
set_option maxHeartbeats 4000000 in
theorem a_X10_best_16 {p : Program} {l : Launch} {e : Env} {R : Room} {s : State} {m : MethodId} {args : Array Value} {below : List Frame} {meth : Method} {c : Code} {G : GT} {τ : Mem} {res : Int} (X : CX p R s m args meth c cX10_best 4 RX10 (some FieldType.int) 7 209 G) : S_X10_best_16 (X10_best_B16) p l e R s m args below meth c G τ res := by
  intro σ H locs ls hP hS hf hl
  unfold X10_best_B16 at hf
  refine lv_aload_n X.1 X.2.1 dX10_best_16 rfl (lv_at hl 0 rfl) ?_
  refine r_ldc X (-1000001) (tb t_430 rfl) (by decide) dX10_best_17 ?_
  obtain ⟨r1, s2, hr1, hf⟩ := bd2_inv hf
  refine k_X10_tell X hP hS hl.1  hr1 (tb t_431 rfl) (by decide) (Nat.le_of_ble_eq_true rfl) dX10_best_19 (fun H locs hP hS => ?_)
  obtain ⟨rfl, rfl⟩ := so2_inv hf
  exact r_iret X hP hS dX10_best_22
set_option maxHeartbeats 4000000 in
theorem a_X10_best_0 {p : Program} {l : Launch} {e : Env} {R : Room} {s : State} {m : MethodId} {args : Array Value} {below : List Frame} {meth : Method} {c : Code} {G : GT} {τ : Mem} {res : Int} (X : CX p R s m args meth c cX10_best 4 RX10 (some FieldType.int) 7 209 G) : S_X10_best_0 (X10_best) p l e R s m args below meth c G τ res := by
  intro σ H locs ls l1 l2 hP hS hf hl
  unfold X10_best at hf
  refine lv_iload_n X.1 X.2.1 dX10_best_0 rfl (lv_at hl 1 rfl) ?_
  obtain ⟨r1, hr1, hf⟩ := bd_inv hf
  refine k_X10_isPart X hP hS hl.1  hr1 (tb t_420 rfl) (by decide) (Nat.le_of_ble_eq_true rfl) dX10_best_1 (fun H locs hP hS => ?_)
  refine r_if_eq (tgt := 16) X dX10_best_4 (by decide) (fun q => ?_) (fun q => ?_)
  · replace hf := it_inv q hf
    exact a_X10_best_16 X σ H locs ls  hP hS hf (lv_sub hl [0] rfl)
  · replace hf := ie_inv q hf
    refine lv_iload_n X.1 X.2.1 dX10_best_7 rfl (lv_at hl 2 rfl) ?_
    refine r_iconst X 0 dX10_best_8 ?_
    refine r_iconst X 4 dX10_best_9 ?_
    obtain ⟨r2, hr2, hf⟩ := bd_inv hf
    refine k_X10_within X hP hS hl.1  hr2 (tb t_423 rfl) (by decide) (Nat.le_of_ble_eq_true rfl) dX10_best_10 (fun H locs hP hS => ?_)
    refine r_if_ne (tgt := 23) X dX10_best_13 (by decide) (fun q => ?_) (fun q => ?_)
    · replace hf := it_inv q hf
      refine lv_aload_n X.1 X.2.1 dX10_best_23 rfl (lv_at hl 0 rfl) ?_
      refine lv_iload_n X.1 X.2.1 dX10_best_24 rfl (lv_at hl 1 rfl) ?_
      obtain ⟨r3, s4, hr3, hf⟩ := bd2_inv hf
      refine k_X10_layingOf X hP hS hl.1  hr3 (tb t_752 rfl) (by decide) (Nat.le_of_ble_eq_true rfl) dX10_best_25 (fun H locs hP hS => ?_)
      obtain ⟨hk_r3, hf⟩ := kg_inv hf
      refine lv_astore_n (lv' := [(3, .ref (gh G + r3)), (0, .ref (gh G + 0)), (1, .int (i32 l1)), (2, .int (i32 l2))]) X.1 X.2.1 dX10_best_28 rfl hl (by decide) rfl (fun ls hl => ?_)
      refine lv_aload_n X.1 X.2.1 dX10_best_29 rfl (lv_at hl 0 rfl) ?_
      obtain ⟨r5, hr5, hf⟩ := bd_inv hf
      refine k_X2_isNone X hP hS hl.1 hk_r3 hr5 (tb t_857 rfl) (by decide) (Nat.le_of_ble_eq_true rfl) dX10_best_30 (fun H locs hP hS => ?_)
      refine r_if_eq (tgt := 43) X dX10_best_33 (by decide) (fun q => ?_) (fun q => ?_)
      · replace hf := it_inv q hf
        refine lv_iload_n X.1 X.2.1 dX10_best_43 rfl (lv_at hl 3 rfl) ?_
        by_cases q0 : w32 l2 = 0
        · replace hf := it_inv q0 hf
          refine r_tsI (tgt := 76) (off := 32) X 0 dX10_best_44 q0 (by decide) (by decide) ?_
          refine lv_aload_n X.1 X.2.1 dX10_best_76 rfl (lv_at hl 0 rfl) ?_
          refine g_2_2 X hP hk_r3 (tb t_344 rfl) dX10_best_77 ?_
          obtain ⟨rfl, rfl⟩ := so2_inv hf
          exact r_iret X hP hS dX10_best_80
        replace hf := ie_inv q0 hf
        by_cases q1 : w32 l2 = 1
        · replace hf := it_inv q1 hf
          refine r_tsI (tgt := 81) (off := 37) X 1 dX10_best_44 q1 (by decide) (by decide) ?_
          refine lv_aload_n X.1 X.2.1 dX10_best_81 rfl (lv_at hl 0 rfl) ?_
          refine g_2_4 X hP hk_r3 (tb t_348 rfl) dX10_best_82 ?_
          obtain ⟨rfl, rfl⟩ := so2_inv hf
          exact r_iret X hP hS dX10_best_85
        replace hf := ie_inv q1 hf
        by_cases q2 : w32 l2 = 2
        · replace hf := it_inv q2 hf
          refine r_tsI (tgt := 86) (off := 42) X 2 dX10_best_44 q2 (by decide) (by decide) ?_
          refine lv_aload_n X.1 X.2.1 dX10_best_86 rfl (lv_at hl 0 rfl) ?_
          refine g_2_0 X hP hk_r3 (tb t_340 rfl) dX10_best_87 ?_
          obtain ⟨rfl, rfl⟩ := so2_inv hf
          exact r_iret X hP hS dX10_best_90
        replace hf := ie_inv q2 hf
        by_cases q3 : w32 l2 = 3
        · replace hf := it_inv q3 hf
          refine r_tsI (tgt := 91) (off := 47) X 3 dX10_best_44 q3 (by decide) (by decide) ?_
          refine lv_aload_n X.1 X.2.1 dX10_best_91 rfl (lv_at hl 0 rfl) ?_
          refine g_2_1 X hP hk_r3 (tb t_342 rfl) dX10_best_92 ?_
          obtain ⟨rfl, rfl⟩ := so2_inv hf
          exact r_iret X hP hS dX10_best_95
        replace hf := ie_inv q3 hf
        refine r_tsO (tgt := 96) X dX10_best_44 (by omega) (by decide) ?_
        refine lv_aload_n X.1 X.2.1 dX10_best_96 rfl (lv_at hl 0 rfl) ?_
        refine g_2_3 X hP hk_r3 (tb t_346 rfl) dX10_best_97 ?_
        obtain ⟨rfl, rfl⟩ := so2_inv hf
        exact r_iret X hP hS dX10_best_100
      · replace hf := ie_inv q hf
        refine lv_aload_n X.1 X.2.1 dX10_best_36 rfl (lv_at hl 1 rfl) ?_
        refine r_ldc X (-1000004) (tb t_747 rfl) (by decide) dX10_best_37 ?_
        obtain ⟨r6, s7, hr6, hf⟩ := bd2_inv hf
        refine k_X10_tell X hP hS hl.1  hr6 (tb t_431 rfl) (by decide) (Nat.le_of_ble_eq_true rfl) dX10_best_39 (fun H locs hP hS => ?_)
        obtain ⟨rfl, rfl⟩ := so2_inv hf
        exact r_iret X hP hS dX10_best_42
    · replace hf := ie_inv q hf
      exact a_X10_best_16 X σ H locs ls  hP hS hf (lv_sub hl [0] rfl)
set_option maxHeartbeats 4000000 in
theorem c_X10_best {l : Launch} {G : GT} {σ τ : Mem} {res : Int} {l1 : Int} {l2 : Int} (hf : X10_best σ l1 l2 = some (res, τ)) : CT l yX10_best cX10_best 4 (some FieldType.int) 7 209 G [.ref (gh G + 0), .int (i32 l1), .int (i32 l2)] σ τ (some (.int (i32 res))) := by
  refine CT.mk (own := RX10) (by decide) rfl (Nat.le_of_ble_eq_true rfl) ?_
  intro p e s m below meth c ls X hP hS hl
  have hl : lv_has ls 4 [(0, .ref (gh G + 0)), (1, .int (i32 l1)), (2, .int (i32 l2))] := hl
  exact a_X10_best_0 X σ s.heap [] ls l1 l2 hP hS hf hl
theorem k_X10_best {p : Program} {l : Launch} {e : Env} {R : Room} {s : State} {m : MethodId} {args : Array Value} {below : List Frame} {meth : Method} {c : Code} {H : Heap} {locs : List Loc} {Q : State → Prop} {cc : ByteArray} {nL : Nat} {own : String} {ret : Option FieldType} {fF fL : Nat} {G : GT} {pc idx : Nat} {ls : Array Slot} {rest : List Value} {σ τ : Mem} {res : Int} {l1 : Int} {l2 : Int} (X : CX p R s m args meth c cc nL own ret fF fL G) (hP : PW G σ H) (hS : va_S (AA G) s.heap H locs) (hls : ls.size = nL) (hf : X10_best σ l1 l2 = some (res, τ)) (h1 : Cond.methodLink own idx yX10_best ∈ TB) (hR : 7 + 1 ≤ fF ∧ 8 + (4 + 11) + 209 ≤ fL) (hW : (rest.map fun v => v.category).sum ≤ 8) (hd : decode cc pc = .ok (.invokevirtual idx, 3)) (kk : ∀ (H1 : Heap) (locs1 : List Loc), PW G τ H1 → va_S (AA G) s.heap H1 locs1 → W p l e R s m args below meth c H1 locs1 0 0 Q (F0 m (pc + 3) ls (.int (i32 res) :: rest))) : W p l e R s m args below meth c H locs 0 0 Q (F0 m pc ls (.int (i32 l2) :: .int (i32 l1) :: .ref (gh G + 0) :: rest)) := r_callV (n := 2) X hP hS hls (c_X10_best hf) h1 (tb t_749 rfl) (tb t_750 rfl) (tb t_75 rfl) (tb t_751 rfl) (by decide +kernel) hR (r_recv X hP (kd_lt ks_10 (by decide)) (cE_10 ks_10) rfl) rfl rfl hW hd kk
/-! X7_mayBreak -/
theorem dX7_mayBreak_0 : decode cX7_mayBreak 0 = .ok (.aload_n 0, 1) := by decide +kernel
theorem dX7_mayBreak_1 : decode cX7_mayBreak 1 = .ok (.getfield 11, 3) := by decide +kernel
theorem dX7_mayBreak_4 : decode cX7_mayBreak 4 = .ok (.iload_n 2, 1) := by decide +kernel
theorem dX7_mayBreak_5 : decode cX7_mayBreak 5 = .ok (.aaload, 1) := by decide +kernel
theorem dX7_mayBreak_6 : decode cX7_mayBreak 6 = .ok (.astore 4, 2) := by decide +kernel
theorem dX7_mayBreak_8 : decode cX7_mayBreak 8 = .ok (.aload 4, 2) := by decide +kernel
theorem dX7_mayBreak_10 : decode cX7_mayBreak 10 = .ok (.iload_n 3, 1) := by decide +kernel
theorem dX7_mayBreak_11 : decode cX7_mayBreak 11 = .ok (.invokevirtual 60, 3) := by decide +kernel
theorem dX7_mayBreak_14 : decode cX7_mayBreak 14 = .ok (.ifCond .ne 5, 3) := by decide +kernel
theorem dX7_mayBreak_17 : decode cX7_mayBreak 17 = .ok (.iconst 0, 1) := by decide +kernel
theorem dX7_mayBreak_18 : decode cX7_mayBreak 18 = .ok (.ireturn, 1) := by decide +kernel
theorem dX7_mayBreak_19 : decode cX7_mayBreak 19 = .ok (.aload_n 0, 1) := by decide +kernel
theorem dX7_mayBreak_20 : decode cX7_mayBreak 20 = .ok (.getfield 17, 3) := by decide +kernel
theorem dX7_mayBreak_23 : decode cX7_mayBreak 23 = .ok (.iconst 2, 1) := by decide +kernel
theorem dX7_mayBreak_24 : decode cX7_mayBreak 24 = .ok (.iaload, 1) := by decide +kernel
theorem dX7_mayBreak_25 : decode cX7_mayBreak 25 = .ok (.istore 5, 2) := by decide +kernel
theorem dX7_mayBreak_27 : decode cX7_mayBreak 27 = .ok (.iload_n 1, 1) := by decide +kernel
theorem dX7_mayBreak_28 : decode cX7_mayBreak 28 = .ok (.tableswitch 103 3 6 #[32, 103, 50, 79], 32) := by decide +kernel
theorem dX7_mayBreak_60 : decode cX7_mayBreak 60 = .ok (.aload 4, 2) := by decide +kernel
theorem dX7_mayBreak_62 : decode cX7_mayBreak 62 = .ok (.iload_n 3, 1) := by decide +kernel
theorem dX7_mayBreak_63 : decode cX7_mayBreak 63 = .ok (.iconst 0, 1) := by decide +kernel
theorem dX7_mayBreak_64 : decode cX7_mayBreak 64 = .ok (.invokevirtual 56, 3) := by decide +kernel
theorem dX7_mayBreak_67 : decode cX7_mayBreak 67 = .ok (.iload 5, 2) := by decide +kernel
theorem dX7_mayBreak_69 : decode cX7_mayBreak 69 = .ok (.if_icmp .lt 7, 3) := by decide +kernel
theorem dX7_mayBreak_72 : decode cX7_mayBreak 72 = .ok (.iconst 1, 1) := by decide +kernel
theorem dX7_mayBreak_73 : decode cX7_mayBreak 73 = .ok (.goto 4, 3) := by decide +kernel
theorem dX7_mayBreak_76 : decode cX7_mayBreak 76 = .ok (.iconst 0, 1) := by decide +kernel
theorem dX7_mayBreak_77 : decode cX7_mayBreak 77 = .ok (.ireturn, 1) := by decide +kernel
theorem dX7_mayBreak_78 : decode cX7_mayBreak 78 = .ok (.aload 4, 2) := by decide +kernel
theorem dX7_mayBreak_80 : decode cX7_mayBreak 80 = .ok (.iload_n 3, 1) := by decide +kernel
theorem dX7_mayBreak_81 : decode cX7_mayBreak 81 = .ok (.iconst 0, 1) := by decide +kernel
theorem dX7_mayBreak_82 : decode cX7_mayBreak 82 = .ok (.invokevirtual 56, 3) := by decide +kernel
theorem dX7_mayBreak_85 : decode cX7_mayBreak 85 = .ok (.iload 5, 2) := by decide +kernel
theorem dX7_mayBreak_87 : decode cX7_mayBreak 87 = .ok (.if_icmp .ge 14, 3) := by decide +kernel
theorem dX7_mayBreak_90 : decode cX7_mayBreak 90 = .ok (.aload_n 0, 1) := by decide +kernel
theorem dX7_mayBreak_91 : decode cX7_mayBreak 91 = .ok (.iload_n 2, 1) := by decide +kernel
theorem dX7_mayBreak_92 : decode cX7_mayBreak 92 = .ok (.iload_n 3, 1) := by decide +kernel
theorem dX7_mayBreak_93 : decode cX7_mayBreak 93 = .ok (.invokevirtual 63, 3) := by decide +kernel
theorem dX7_mayBreak_96 : decode cX7_mayBreak 96 = .ok (.iload 5, 2) := by decide +kernel
theorem dX7_mayBreak_98 : decode cX7_mayBreak 98 = .ok (.if_icmp .lt 7, 3) := by decide +kernel
theorem dX7_mayBreak_101 : decode cX7_mayBreak 101 = .ok (.iconst 1, 1) := by decide +kernel
theorem dX7_mayBreak_102 : decode cX7_mayBreak 102 = .ok (.goto 4, 3) := by decide +kernel
theorem dX7_mayBreak_105 : decode cX7_mayBreak 105 = .ok (.iconst 0, 1) := by decide +kernel
theorem dX7_mayBreak_106 : decode cX7_mayBreak 106 = .ok (.ireturn, 1) := by decide +kernel
theorem dX7_mayBreak_107 : decode cX7_mayBreak 107 = .ok (.aload 4, 2) := by decide +kernel
theorem dX7_mayBreak_109 : decode cX7_mayBreak 109 = .ok (.iload_n 3, 1) := by decide +kernel
theorem dX7_mayBreak_110 : decode cX7_mayBreak 110 = .ok (.aload 4, 2) := by decide +kernel
theorem dX7_mayBreak_112 : decode cX7_mayBreak 112 = .ok (.getfield 46, 3) := by decide +kernel
theorem dX7_mayBreak_115 : decode cX7_mayBreak 115 = .ok (.iconst 1, 1) := by decide +kernel
theorem dX7_mayBreak_116 : decode cX7_mayBreak 116 = .ok (.iaload, 1) := by decide +kernel
theorem dX7_mayBreak_117 : decode cX7_mayBreak 117 = .ok (.invokevirtual 56, 3) := by decide +kernel
theorem dX7_mayBreak_120 : decode cX7_mayBreak 120 = .ok (.iload 5, 2) := by decide +kernel
theorem dX7_mayBreak_122 : decode cX7_mayBreak 122 = .ok (.if_icmp .lt 7, 3) := by decide +kernel
theorem dX7_mayBreak_125 : decode cX7_mayBreak 125 = .ok (.iconst 1, 1) := by decide +kernel
theorem dX7_mayBreak_126 : decode cX7_mayBreak 126 = .ok (.goto 4, 3) := by decide +kernel
theorem dX7_mayBreak_129 : decode cX7_mayBreak 129 = .ok (.iconst 0, 1) := by decide +kernel
theorem dX7_mayBreak_130 : decode cX7_mayBreak 130 = .ok (.ireturn, 1) := by decide +kernel
theorem dX7_mayBreak_131 : decode cX7_mayBreak 131 = .ok (.iconst 1, 1) := by decide +kernel
theorem dX7_mayBreak_132 : decode cX7_mayBreak 132 = .ok (.ireturn, 1) := by decide +kernel
def X7_mayBreak (σ : Mem) (l0 : Nat) (l1 : Int) (l2 : Int) (l3 : Int) : Option (Int) :=
  ag 4 l2 fun j1 =>
  bd (X5_mayEndLine σ (l0 + 1 + 7 + 3 * j1) l3) fun r2 =>
  if w32 r2 ≠ 0 then
    ag 5 2 fun j3 =>
    lt (σ (l0 + 2) j3) fun l5_4 =>
    if w32 l1 = 3 then
      bd (X5_freeBehind σ (l0 + 1 + 7 + 3 * j1) l3 0) fun r5 =>
      if w32 r5 < w32 l5_4 then
        some 0
      else
      some 1
    else
    if w32 l1 = 4 then
      some 1
    else
    if w32 l1 = 5 then
      bd (X5_freeBehind σ (l0 + 1 + 7 + 3 * j1) l3 0) fun r6 =>
      if w32 l5_4 ≤ w32 r6 then
        some 1
      else
      bd (X7_neighbourFree σ l0 l2 l3) fun r7 =>
      if w32 r7 < w32 l5_4 then
        some 0
      else
      some 1
    else
    if w32 l1 = 6 then
      ag 4 1 fun j8 =>
      bd (X5_freeBehind σ (l0 + 1 + 7 + 3 * j1) l3 (σ (l0 + 1 + 7 + 3 * j1 + 1) j8)) fun r9 =>
      if w32 r9 < w32 l5_4 then
        some 0
      else
      some 1
    else
    some 1
  else
  some 0
def S_X7_mayBreak_0 (fn : Nat → Int → Int → Int → Option (Int)) (p : Program) (l : Launch) (e : Env) (R : Room) (s : State) (m : MethodId) (args : Array Value) (below : List Frame) (meth : Method) (c : Code) (G : GT) (σ : Mem) (res : Int) : Prop := ∀ (H : Heap) (locs : List Loc) (ls : Array Slot) (l0 : Nat) (l1 : Int) (l2 : Int) (l3 : Int), kd l0 = 7 → PW G σ H → va_S (AA G) s.heap H locs → fn l0 l1 l2 l3 = some res → lv_has ls 6 [(0, .ref (gh G + l0)), (1, .int (i32 l1)), (2, .int (i32 l2)), (3, .int (i32 l3))] → W p l e R s m args below meth c H locs 0 0 (MQ below (QM G (some (.int (i32 res))) σ) args s 0 0 (AA G)) (F0 m 0 ls [])
set_option maxHeartbeats 4000000 in
theorem a_X7_mayBreak_0 {p : Program} {l : Launch} {e : Env} {R : Room} {s : State} {m : MethodId} {args : Array Value} {below : List Frame} {meth : Method} {c : Code} {G : GT} {σ : Mem} {res : Int} (X : CX p R s m args meth c cX7_mayBreak 6 RX7 (some FieldType.boolean) 5 155 G) : S_X7_mayBreak_0 (X7_mayBreak σ) p l e R s m args below meth c G σ res := by
  intro H locs ls l0 l1 l2 l3 hk_l0 hP hS hf hl
  unfold X7_mayBreak at hf
  refine lv_aload_n X.1 X.2.1 dX7_mayBreak_0 rfl (lv_at hl 0 rfl) ?_
  refine g_7_0 (r := l0 + 1) X hP hk_l0 rfl (tb t_168 rfl) dX7_mayBreak_1 ?_
  refine lv_iload_n X.1 X.2.1 dX7_mayBreak_4 rfl (lv_at hl 2 rfl) ?_
  obtain ⟨j1, hij1, hjj1, hlj1, hf⟩ := ag_inv hf
  refine r_aald18 (r := l0 + 1 + 7 + 3 * j1) X hP (ch_7_0 hk_l0).1 (ch_7_0 hk_l0).2 hij1 hjj1 rfl dX7_mayBreak_5 ?_
  refine lv_astore (lv' := [(4, .ref (gh G + (l0 + 1 + 7 + 3 * j1))), (0, .ref (gh G + l0)), (1, .int (i32 l1)), (2, .int (i32 l2)), (3, .int (i32 l3))]) X.1 X.2.1 dX7_mayBreak_6 hl (by decide) rfl (fun ls hl => ?_)
  refine lv_aload X.1 X.2.1 dX7_mayBreak_8 (lv_at hl 0 rfl) ?_
  refine lv_iload_n X.1 X.2.1 dX7_mayBreak_10 rfl (lv_at hl 4 rfl) ?_
  obtain ⟨r2, hr2, hf⟩ := bd_inv hf
  refine k_X5_mayEndLine X hP hS hl.1 ((ch_18 (ch_7_0 hk_l0).1).2 j1 hlj1) hr2 (tb t_943 rfl) (by decide) (Nat.le_of_ble_eq_true rfl) dX7_mayBreak_11 (fun H locs hP hS => ?_)
  refine r_if_ne (tgt := 19) X dX7_mayBreak_14 (by decide) (fun q => ?_) (fun q => ?_)
  · replace hf := it_inv q hf
    refine lv_aload_n X.1 X.2.1 dX7_mayBreak_19 rfl (lv_at hl 1 rfl) ?_
    refine g_7_1 (r := l0 + 2) X hP hk_l0 rfl (tb t_171 rfl) dX7_mayBreak_20 ?_
    refine r_iconst X 2 dX7_mayBreak_23 ?_
    obtain ⟨j3, hij3, hjj3, hlj3, hf⟩ := ag_inv hf
    refine r_iald X hP (ch_7_1 hk_l0).1 (ch_7_1 hk_l0).2 hij3 hjj3 dX7_mayBreak_24 ?_
    obtain ⟨l5_4, el5_4, hf⟩ := lt_inv hf
    refine r_eqi el5_4 ?_
    refine lv_istore (lv' := [(5, .int (i32 l5_4)), (4, .ref (gh G + (l0 + 1 + 7 + 3 * j1))), (0, .ref (gh G + l0)), (1, .int (i32 l1)), (2, .int (i32 l2)), (3, .int (i32 l3))]) X.1 X.2.1 dX7_mayBreak_25 hl (by decide) rfl (fun ls hl => ?_)
    refine lv_iload_n X.1 X.2.1 dX7_mayBreak_27 rfl (lv_at hl 3 rfl) ?_
    by_cases q0 : w32 l1 = 3
    · replace hf := it_inv q0 hf
      refine r_tsI (tgt := 60) (off := 32) X 3 dX7_mayBreak_28 q0 (by decide) (by decide) ?_
      refine lv_aload X.1 X.2.1 dX7_mayBreak_60 (lv_at hl 1 rfl) ?_
      refine lv_iload_n X.1 X.2.1 dX7_mayBreak_62 rfl (lv_at hl 5 rfl) ?_
      refine r_iconst X 0 dX7_mayBreak_63 ?_
      obtain ⟨r5, hr5, hf⟩ := bd_inv hf
      refine k_X5_freeBehind X hP hS hl.1 ((ch_18 (ch_7_0 hk_l0).1).2 j1 hlj1) hr5 (tb t_786 rfl) (by decide) (Nat.le_of_ble_eq_true rfl) dX7_mayBreak_64 (fun H locs hP hS => ?_)
      refine lv_iload X.1 X.2.1 dX7_mayBreak_67 (lv_at hl 0 rfl) ?_
      refine r_icmp_lt (tgt := 76) X dX7_mayBreak_69 (by decide) (fun q => ?_) (fun q => ?_)
      · replace hf := it_inv q hf
        refine r_iconst X 0 dX7_mayBreak_76 ?_
        cases so_inv hf
        exact r_zret X hP hS (Or.inl rfl) dX7_mayBreak_77
      · replace hf := ie_inv q hf
        refine r_iconst X 1 dX7_mayBreak_72 ?_
        refine lv_goto (tgt := 77) X.1 X.2.1 dX7_mayBreak_73 (by decide) ?_
        cases so_inv hf
        exact r_zret X hP hS (Or.inr rfl) dX7_mayBreak_77
    replace hf := ie_inv q0 hf
    by_cases q1 : w32 l1 = 4
    · replace hf := it_inv q1 hf
      refine r_tsI (tgt := 131) (off := 103) X 4 dX7_mayBreak_28 q1 (by decide) (by decide) ?_
      refine r_iconst X 1 dX7_mayBreak_131 ?_
      cases so_inv hf
      exact r_zret X hP hS (Or.inr rfl) dX7_mayBreak_132
    replace hf := ie_inv q1 hf
    by_cases q2 : w32 l1 = 5
    · replace hf := it_inv q2 hf
      refine r_tsI (tgt := 78) (off := 50) X 5 dX7_mayBreak_28 q2 (by decide) (by decide) ?_
      refine lv_aload X.1 X.2.1 dX7_mayBreak_78 (lv_at hl 1 rfl) ?_
      refine lv_iload_n X.1 X.2.1 dX7_mayBreak_80 rfl (lv_at hl 5 rfl) ?_
      refine r_iconst X 0 dX7_mayBreak_81 ?_
      obtain ⟨r6, hr6, hf⟩ := bd_inv hf
      refine k_X5_freeBehind X hP hS hl.1 ((ch_18 (ch_7_0 hk_l0).1).2 j1 hlj1) hr6 (tb t_786 rfl) (by decide) (Nat.le_of_ble_eq_true rfl) dX7_mayBreak_82 (fun H locs hP hS => ?_)
      refine lv_iload X.1 X.2.1 dX7_mayBreak_85 (lv_at hl 0 rfl) ?_
      refine r_icmp_ge (tgt := 101) X dX7_mayBreak_87 (by decide) (fun q => ?_) (fun q => ?_)
      · replace hf := it_inv q hf
        refine r_iconst X 1 dX7_mayBreak_101 ?_
        refine lv_goto (tgt := 106) X.1 X.2.1 dX7_mayBreak_102 (by decide) ?_
        cases so_inv hf
        exact r_zret X hP hS (Or.inr rfl) dX7_mayBreak_106
      · replace hf := ie_inv q hf
        refine lv_aload_n X.1 X.2.1 dX7_mayBreak_90 rfl (lv_at hl 2 rfl) ?_
        refine lv_iload_n X.1 X.2.1 dX7_mayBreak_91 rfl (lv_at hl 4 rfl) ?_
        refine lv_iload_n X.1 X.2.1 dX7_mayBreak_92 rfl (lv_at hl 5 rfl) ?_
        obtain ⟨r7, hr7, hf⟩ := bd_inv hf
        refine k_X7_neighbourFree X hP hS hl.1 hk_l0 hr7 (tb t_944 rfl) (by decide) (Nat.le_of_ble_eq_true rfl) dX7_mayBreak_93 (fun H locs hP hS => ?_)
        refine lv_iload X.1 X.2.1 dX7_mayBreak_96 (lv_at hl 0 rfl) ?_
        refine r_icmp_lt (tgt := 105) X dX7_mayBreak_98 (by decide) (fun q => ?_) (fun q => ?_)
        · replace hf := it_inv q hf
          refine r_iconst X 0 dX7_mayBreak_105 ?_
          cases so_inv hf
          exact r_zret X hP hS (Or.inl rfl) dX7_mayBreak_106
        · replace hf := ie_inv q hf
          refine r_iconst X 1 dX7_mayBreak_101 ?_
          refine lv_goto (tgt := 106) X.1 X.2.1 dX7_mayBreak_102 (by decide) ?_
          cases so_inv hf
          exact r_zret X hP hS (Or.inr rfl) dX7_mayBreak_106
    replace hf := ie_inv q2 hf
    by_cases q3 : w32 l1 = 6
    · replace hf := it_inv q3 hf
      refine r_tsI (tgt := 107) (off := 79) X 6 dX7_mayBreak_28 q3 (by decide) (by decide) ?_
      refine lv_aload X.1 X.2.1 dX7_mayBreak_107 (lv_at hl 1 rfl) ?_
      refine lv_iload_n X.1 X.2.1 dX7_mayBreak_109 rfl (lv_at hl 5 rfl) ?_
      refine lv_aload X.1 X.2.1 dX7_mayBreak_110 (lv_at hl 1 rfl) ?_
      refine g_5_0 (r := l0 + 1 + 7 + 3 * j1 + 1) X hP ((ch_18 (ch_7_0 hk_l0).1).2 j1 hlj1) rfl (tb t_153 rfl) dX7_mayBreak_112 ?_
      refine r_iconst X 1 dX7_mayBreak_115 ?_
      obtain ⟨j8, hij8, hjj8, hlj8, hf⟩ := ag_inv hf
      refine r_iald X hP (ch_5_0 ((ch_18 (ch_7_0 hk_l0).1).2 j1 hlj1)).1 (ch_5_0 ((ch_18 (ch_7_0 hk_l0).1).2 j1 hlj1)).2 hij8 hjj8 dX7_mayBreak_116 ?_
      obtain ⟨r9, hr9, hf⟩ := bd_inv hf
      refine k_X5_freeBehind X hP hS hl.1 ((ch_18 (ch_7_0 hk_l0).1).2 j1 hlj1) hr9 (tb t_786 rfl) (by decide) (Nat.le_of_ble_eq_true rfl) dX7_mayBreak_117 (fun H locs hP hS => ?_)
      refine lv_iload X.1 X.2.1 dX7_mayBreak_120 (lv_at hl 0 rfl) ?_
      refine r_icmp_lt (tgt := 129) X dX7_mayBreak_122 (by decide) (fun q => ?_) (fun q => ?_)
      · replace hf := it_inv q hf
        refine r_iconst X 0 dX7_mayBreak_129 ?_
        cases so_inv hf
        exact r_zret X hP hS (Or.inl rfl) dX7_mayBreak_130
      · replace hf := ie_inv q hf
        refine r_iconst X 1 dX7_mayBreak_125 ?_
        refine lv_goto (tgt := 130) X.1 X.2.1 dX7_mayBreak_126 (by decide) ?_
        cases so_inv hf
        exact r_zret X hP hS (Or.inr rfl) dX7_mayBreak_130
    replace hf := ie_inv q3 hf
    refine r_tsO (tgt := 131) X dX7_mayBreak_28 (by omega) (by decide) ?_
    refine r_iconst X 1 dX7_mayBreak_131 ?_
    cases so_inv hf
    exact r_zret X hP hS (Or.inr rfl) dX7_mayBreak_132
  · replace hf := ie_inv q hf
    refine r_iconst X 0 dX7_mayBreak_17 ?_
    cases so_inv hf
    exact r_zret X hP hS (Or.inl rfl) dX7_mayBreak_18
set_option maxHeartbeats 4000000 in
theorem c_X7_mayBreak {l : Launch} {G : GT} {σ : Mem} {res : Int} {l0 : Nat} {l1 : Int} {l2 : Int} {l3 : Int} (hk_l0 : kd l0 = 7) (hf : X7_mayBreak σ l0 l1 l2 l3 = some res) : CT l yX7_mayBreak cX7_mayBreak 6 (some FieldType.boolean) 5 155 G [.ref (gh G + l0), .int (i32 l1), .int (i32 l2), .int (i32 l3)] σ σ (some (.int (i32 res))) := by
  refine CT.mk (own := RX7) (by decide) rfl (Nat.le_of_ble_eq_true rfl) ?_
  intro p e s m below meth c ls X hP hS hl
  have hl : lv_has ls 6 [(0, .ref (gh G + l0)), (1, .int (i32 l1)), (2, .int (i32 l2)), (3, .int (i32 l3))] := hl
  exact a_X7_mayBreak_0 X  s.heap [] ls l0 l1 l2 l3 hk_l0 hP hS hf hl
theorem k_X7_mayBreak {p : Program} {l : Launch} {e : Env} {R : Room} {s : State} {m : MethodId} {args : Array Value} {below : List Frame} {meth : Method} {c : Code} {H : Heap} {locs : List Loc} {Q : State → Prop} {cc : ByteArray} {nL : Nat} {own : String} {ret : Option FieldType} {fF fL : Nat} {G : GT} {pc idx : Nat} {ls : Array Slot} {rest : List Value} {σ : Mem} {res : Int} {l0 : Nat} {l1 : Int} {l2 : Int} {l3 : Int} (X : CX p R s m args meth c cc nL own ret fF fL G) (hP : PW G σ H) (hS : va_S (AA G) s.heap H locs) (hls : ls.size = nL) (hk_l0 : kd l0 = 7) (hf : X7_mayBreak σ l0 l1 l2 l3 = some res) (h1 : Cond.methodLink own idx yX7_mayBreak ∈ TB) (hR : 5 + 1 ≤ fF ∧ 8 + (6 + 11) + 155 ≤ fL) (hW : (rest.map fun v => v.category).sum ≤ 8) (hd : decode cc pc = .ok (.invokevirtual idx, 3)) (kk : ∀ (H1 : Heap) (locs1 : List Loc), PW G σ H1 → va_S (AA G) s.heap H1 locs1 → W p l e R s m args below meth c H1 locs1 0 0 Q (F0 m (pc + 3) ls (.int (i32 res) :: rest))) : W p l e R s m args below meth c H locs 0 0 Q (F0 m pc ls (.int (i32 l3) :: .int (i32 l2) :: .int (i32 l1) :: .ref (gh G + l0) :: rest)) := r_callV (n := 3) X hP hS hls (c_X7_mayBreak hk_l0 hf) h1 (tb t_940 rfl) (tb t_941 rfl) (tb t_76 rfl) (tb t_942 rfl) (by decide +kernel) hR (r_recv X hP (kd_lt hk_l0 (by decide)) (cE_7 hk_l0) rfl) rfl rfl hW hd kk
/-! X7_priceOf -/
theorem dX7_priceOf_0 : decode cX7_priceOf 0 = .ok (.aload_n 0, 1) := by decide +kernel
theorem dX7_priceOf_1 : decode cX7_priceOf 1 = .ok (.getfield 11, 3) := by decide +kernel
theorem dX7_priceOf_4 : decode cX7_priceOf 4 = .ok (.iload_n 2, 1) := by decide +kernel
theorem dX7_priceOf_5 : decode cX7_priceOf 5 = .ok (.aaload, 1) := by decide +kernel
theorem dX7_priceOf_6 : decode cX7_priceOf 6 = .ok (.astore 4, 2) := by decide +kernel
theorem dX7_priceOf_8 : decode cX7_priceOf 8 = .ok (.bipush 11, 2) := by decide +kernel
theorem dX7_priceOf_10 : decode cX7_priceOf 10 = .ok (.istore 5, 2) := by decide +kernel
theorem dX7_priceOf_12 : decode cX7_priceOf 12 = .ok (.iload 5, 2) := by decide +kernel
theorem dX7_priceOf_14 : decode cX7_priceOf 14 = .ok (.iconst 0, 1) := by decide +kernel
theorem dX7_priceOf_15 : decode cX7_priceOf 15 = .ok (.sipush 300, 3) := by decide +kernel
theorem dX7_priceOf_18 : decode cX7_priceOf 18 = .ok (.aload 4, 2) := by decide +kernel
theorem dX7_priceOf_20 : decode cX7_priceOf 20 = .ok (.iload_n 3, 1) := by decide +kernel
theorem dX7_priceOf_21 : decode cX7_priceOf 21 = .ok (.iconst 0, 1) := by decide +kernel
theorem dX7_priceOf_22 : decode cX7_priceOf 22 = .ok (.invokevirtual 56, 3) := by decide +kernel
theorem dX7_priceOf_25 : decode cX7_priceOf 25 = .ok (.isub, 1) := by decide +kernel
theorem dX7_priceOf_26 : decode cX7_priceOf 26 = .ok (.invokestatic 66, 3) := by decide +kernel
theorem dX7_priceOf_29 : decode cX7_priceOf 29 = .ok (.bipush 10, 2) := by decide +kernel
theorem dX7_priceOf_31 : decode cX7_priceOf 31 = .ok (.idiv, 1) := by decide +kernel
theorem dX7_priceOf_32 : decode cX7_priceOf 32 = .ok (.iadd, 1) := by decide +kernel
theorem dX7_priceOf_33 : decode cX7_priceOf 33 = .ok (.istore 6, 2) := by decide +kernel
theorem dX7_priceOf_35 : decode cX7_priceOf 35 = .ok (.iload_n 1, 1) := by decide +kernel
theorem dX7_priceOf_36 : decode cX7_priceOf 36 = .ok (.tableswitch 69 1 6 #[40, 42, 45, 48, 53, 58], 40) := by decide +kernel
theorem dX7_priceOf_76 : decode cX7_priceOf 76 = .ok (.iconst 3, 1) := by decide +kernel
theorem dX7_priceOf_77 : decode cX7_priceOf 77 = .ok (.ireturn, 1) := by decide +kernel
theorem dX7_priceOf_78 : decode cX7_priceOf 78 = .ok (.iload 5, 2) := by decide +kernel
theorem dX7_priceOf_80 : decode cX7_priceOf 80 = .ok (.ireturn, 1) := by decide +kernel
theorem dX7_priceOf_81 : decode cX7_priceOf 81 = .ok (.iload 6, 2) := by decide +kernel
theorem dX7_priceOf_83 : decode cX7_priceOf 83 = .ok (.ireturn, 1) := by decide +kernel
theorem dX7_priceOf_84 : decode cX7_priceOf 84 = .ok (.iconst 2, 1) := by decide +kernel
theorem dX7_priceOf_85 : decode cX7_priceOf 85 = .ok (.iload 5, 2) := by decide +kernel
theorem dX7_priceOf_87 : decode cX7_priceOf 87 = .ok (.imul, 1) := by decide +kernel
theorem dX7_priceOf_88 : decode cX7_priceOf 88 = .ok (.ireturn, 1) := by decide +kernel
theorem dX7_priceOf_89 : decode cX7_priceOf 89 = .ok (.iload 6, 2) := by decide +kernel
theorem dX7_priceOf_91 : decode cX7_priceOf 91 = .ok (.iconst 2, 1) := by decide +kernel
theorem dX7_priceOf_92 : decode cX7_priceOf 92 = .ok (.idiv, 1) := by decide +kernel
theorem dX7_priceOf_93 : decode cX7_priceOf 93 = .ok (.ireturn, 1) := by decide +kernel
theorem dX7_priceOf_94 : decode cX7_priceOf 94 = .ok (.iload 6, 2) := by decide +kernel
theorem dX7_priceOf_96 : decode cX7_priceOf 96 = .ok (.aload 4, 2) := by decide +kernel
theorem dX7_priceOf_98 : decode cX7_priceOf 98 = .ok (.getfield 46, 3) := by decide +kernel
theorem dX7_priceOf_101 : decode cX7_priceOf 101 = .ok (.iconst 1, 1) := by decide +kernel
theorem dX7_priceOf_102 : decode cX7_priceOf 102 = .ok (.iaload, 1) := by decide +kernel
theorem dX7_priceOf_103 : decode cX7_priceOf 103 = .ok (.iadd, 1) := by decide +kernel
theorem dX7_priceOf_104 : decode cX7_priceOf 104 = .ok (.ireturn, 1) := by decide +kernel
theorem dX7_priceOf_105 : decode cX7_priceOf 105 = .ok (.iconst 1, 1) := by decide +kernel
theorem dX7_priceOf_106 : decode cX7_priceOf 106 = .ok (.ireturn, 1) := by decide +kernel
def X7_priceOf (σ : Mem) (l0 : Nat) (l1 : Int) (l2 : Int) (l3 : Int) : Option (Int) :=
  ag 4 l2 fun j1 =>
  bd (X5_freeBehind σ (l0 + 1 + 7 + 3 * j1) l3 0) fun r2 =>
  dg 10 <|
  lt (11 + (idv (imx 0 (300 - r2)) 10)) fun l6_4 =>
  if w32 l1 = 1 then
    some 3
  else
  if w32 l1 = 2 then
    some 11
  else
  if w32 l1 = 3 then
    some l6_4
  else
  if w32 l1 = 4 then
    some (2 * 11)
  else
  if w32 l1 = 5 then
    dg 2 <|
    some (idv l6_4 2)
  else
  if w32 l1 = 6 then
    ag 4 1 fun j6 =>
    some (l6_4 + (σ (l0 + 1 + 7 + 3 * j1 + 1) j6))
  else
  some 1
def S_X7_priceOf_0 (fn : Nat → Int → Int → Int → Option (Int)) (p : Program) (l : Launch) (e : Env) (R : Room) (s : State) (m : MethodId) (args : Array Value) (below : List Frame) (meth : Method) (c : Code) (G : GT) (σ : Mem) (res : Int) : Prop := ∀ (H : Heap) (locs : List Loc) (ls : Array Slot) (l0 : Nat) (l1 : Int) (l2 : Int) (l3 : Int), kd l0 = 7 → PW G σ H → va_S (AA G) s.heap H locs → fn l0 l1 l2 l3 = some res → lv_has ls 7 [(0, .ref (gh G + l0)), (1, .int (i32 l1)), (2, .int (i32 l2)), (3, .int (i32 l3))] → W p l e R s m args below meth c H locs 0 0 (MQ below (QM G (some (.int (i32 res))) σ) args s 0 0 (AA G)) (F0 m 0 ls [])
set_option maxHeartbeats 4000000 in
theorem a_X7_priceOf_0 {p : Program} {l : Launch} {e : Env} {R : Room} {s : State} {m : MethodId} {args : Array Value} {below : List Frame} {meth : Method} {c : Code} {G : GT} {σ : Mem} {res : Int} (X : CX p R s m args meth c cX7_priceOf 7 RX7 (some FieldType.int) 4 132 G) : S_X7_priceOf_0 (X7_priceOf σ) p l e R s m args below meth c G σ res := by
  intro H locs ls l0 l1 l2 l3 hk_l0 hP hS hf hl
  unfold X7_priceOf at hf
  refine lv_aload_n X.1 X.2.1 dX7_priceOf_0 rfl (lv_at hl 0 rfl) ?_
  refine g_7_0 (r := l0 + 1) X hP hk_l0 rfl (tb t_168 rfl) dX7_priceOf_1 ?_
  refine lv_iload_n X.1 X.2.1 dX7_priceOf_4 rfl (lv_at hl 2 rfl) ?_
  obtain ⟨j1, hij1, hjj1, hlj1, hf⟩ := ag_inv hf
  refine r_aald18 (r := l0 + 1 + 7 + 3 * j1) X hP (ch_7_0 hk_l0).1 (ch_7_0 hk_l0).2 hij1 hjj1 rfl dX7_priceOf_5 ?_
  refine lv_astore (lv' := [(4, .ref (gh G + (l0 + 1 + 7 + 3 * j1))), (0, .ref (gh G + l0)), (1, .int (i32 l1)), (2, .int (i32 l2)), (3, .int (i32 l3))]) X.1 X.2.1 dX7_priceOf_6 hl (by decide) rfl (fun ls hl => ?_)
  refine r_bipush X 11 (by decide) dX7_priceOf_8 ?_
  refine lv_istore (lv' := [(5, .int (i32 11)), (4, .ref (gh G + (l0 + 1 + 7 + 3 * j1))), (0, .ref (gh G + l0)), (1, .int (i32 l1)), (2, .int (i32 l2)), (3, .int (i32 l3))]) X.1 X.2.1 dX7_priceOf_10 hl (by decide) rfl (fun ls hl => ?_)
  refine lv_iload X.1 X.2.1 dX7_priceOf_12 (lv_at hl 0 rfl) ?_
  refine r_iconst X 0 dX7_priceOf_14 ?_
  refine r_sipush X 300 (by decide) dX7_priceOf_15 ?_
  refine lv_aload X.1 X.2.1 dX7_priceOf_18 (lv_at hl 1 rfl) ?_
  refine lv_iload_n X.1 X.2.1 dX7_priceOf_20 rfl (lv_at hl 5 rfl) ?_
  refine r_iconst X 0 dX7_priceOf_21 ?_
  obtain ⟨r2, hr2, hf⟩ := bd_inv hf
  refine k_X5_freeBehind X hP hS hl.1 ((ch_18 (ch_7_0 hk_l0).1).2 j1 hlj1) hr2 (tb t_786 rfl) (by decide) (Nat.le_of_ble_eq_true rfl) dX7_priceOf_22 (fun H locs hP hS => ?_)
  refine r_isub X dX7_priceOf_25 ?_
  refine r_mmax X hl.1 (tb t_949 rfl) (tb t_680 rfl) (tb t_92 rfl) (tb t_681 rfl) (by decide) (Nat.le_of_ble_eq_true rfl) dX7_priceOf_26 ?_
  refine r_bipush X 10 (by decide) dX7_priceOf_29 ?_
  obtain ⟨hz3, hf⟩ := dg_inv hf
  refine r_idiv X hz3 dX7_priceOf_31 ?_
  refine r_iadd X dX7_priceOf_32 ?_
  obtain ⟨l6_4, el6_4, hf⟩ := lt_inv hf
  refine r_eqi el6_4 ?_
  refine lv_istore (lv' := [(6, .int (i32 l6_4)), (5, .int (i32 11)), (4, .ref (gh G + (l0 + 1 + 7 + 3 * j1))), (0, .ref (gh G + l0)), (1, .int (i32 l1)), (2, .int (i32 l2)), (3, .int (i32 l3))]) X.1 X.2.1 dX7_priceOf_33 hl (by decide) rfl (fun ls hl => ?_)
  refine lv_iload_n X.1 X.2.1 dX7_priceOf_35 rfl (lv_at hl 4 rfl) ?_
  by_cases q0 : w32 l1 = 1
  · replace hf := it_inv q0 hf
    refine r_tsI (tgt := 76) (off := 40) X 1 dX7_priceOf_36 q0 (by decide) (by decide) ?_
    refine r_iconst X 3 dX7_priceOf_76 ?_
    cases so_inv hf
    exact r_iret X hP hS dX7_priceOf_77
  replace hf := ie_inv q0 hf
  by_cases q1 : w32 l1 = 2
  · replace hf := it_inv q1 hf
    refine r_tsI (tgt := 78) (off := 42) X 2 dX7_priceOf_36 q1 (by decide) (by decide) ?_
    refine lv_iload X.1 X.2.1 dX7_priceOf_78 (lv_at hl 1 rfl) ?_
    cases so_inv hf
    exact r_iret X hP hS dX7_priceOf_80
  replace hf := ie_inv q1 hf
  by_cases q2 : w32 l1 = 3
  · replace hf := it_inv q2 hf
    refine r_tsI (tgt := 81) (off := 45) X 3 dX7_priceOf_36 q2 (by decide) (by decide) ?_
    refine lv_iload X.1 X.2.1 dX7_priceOf_81 (lv_at hl 0 rfl) ?_
    cases so_inv hf
    exact r_iret X hP hS dX7_priceOf_83
  replace hf := ie_inv q2 hf
  by_cases q3 : w32 l1 = 4
  · replace hf := it_inv q3 hf
    refine r_tsI (tgt := 84) (off := 48) X 4 dX7_priceOf_36 q3 (by decide) (by decide) ?_
    refine r_iconst X 2 dX7_priceOf_84 ?_
    refine lv_iload X.1 X.2.1 dX7_priceOf_85 (lv_at hl 1 rfl) ?_
    refine r_imul X dX7_priceOf_87 ?_
    cases so_inv hf
    exact r_iret X hP hS dX7_priceOf_88
  replace hf := ie_inv q3 hf
  by_cases q4 : w32 l1 = 5
  · replace hf := it_inv q4 hf
    refine r_tsI (tgt := 89) (off := 53) X 5 dX7_priceOf_36 q4 (by decide) (by decide) ?_
    refine lv_iload X.1 X.2.1 dX7_priceOf_89 (lv_at hl 0 rfl) ?_
    refine r_iconst X 2 dX7_priceOf_91 ?_
    obtain ⟨hz5, hf⟩ := dg_inv hf
    refine r_idiv X hz5 dX7_priceOf_92 ?_
    cases so_inv hf
    exact r_iret X hP hS dX7_priceOf_93
  replace hf := ie_inv q4 hf
  by_cases q5 : w32 l1 = 6
  · replace hf := it_inv q5 hf
    refine r_tsI (tgt := 94) (off := 58) X 6 dX7_priceOf_36 q5 (by decide) (by decide) ?_
    refine lv_iload X.1 X.2.1 dX7_priceOf_94 (lv_at hl 0 rfl) ?_
    refine lv_aload X.1 X.2.1 dX7_priceOf_96 (lv_at hl 2 rfl) ?_
    refine g_5_0 (r := l0 + 1 + 7 + 3 * j1 + 1) X hP ((ch_18 (ch_7_0 hk_l0).1).2 j1 hlj1) rfl (tb t_153 rfl) dX7_priceOf_98 ?_
    refine r_iconst X 1 dX7_priceOf_101 ?_
    obtain ⟨j6, hij6, hjj6, hlj6, hf⟩ := ag_inv hf
    refine r_iald X hP (ch_5_0 ((ch_18 (ch_7_0 hk_l0).1).2 j1 hlj1)).1 (ch_5_0 ((ch_18 (ch_7_0 hk_l0).1).2 j1 hlj1)).2 hij6 hjj6 dX7_priceOf_102 ?_
    refine r_iadd X dX7_priceOf_103 ?_
    cases so_inv hf
    exact r_iret X hP hS dX7_priceOf_104
  replace hf := ie_inv q5 hf
  refine r_tsO (tgt := 105) X dX7_priceOf_36 (by omega) (by decide) ?_
  refine r_iconst X 1 dX7_priceOf_105 ?_
  cases so_inv hf
  exact r_iret X hP hS dX7_priceOf_106
set_option maxHeartbeats 4000000 in
theorem c_X7_priceOf {l : Launch} {G : GT} {σ : Mem} {res : Int} {l0 : Nat} {l1 : Int} {l2 : Int} {l3 : Int} (hk_l0 : kd l0 = 7) (hf : X7_priceOf σ l0 l1 l2 l3 = some res) : CT l yX7_priceOf cX7_priceOf 7 (some FieldType.int) 4 132 G [.ref (gh G + l0), .int (i32 l1), .int (i32 l2), .int (i32 l3)] σ σ (some (.int (i32 res))) := by
  refine CT.mk (own := RX7) (by decide) rfl (Nat.le_of_ble_eq_true rfl) ?_
  intro p e s m below meth c ls X hP hS hl
  have hl : lv_has ls 7 [(0, .ref (gh G + l0)), (1, .int (i32 l1)), (2, .int (i32 l2)), (3, .int (i32 l3))] := hl
  exact a_X7_priceOf_0 X  s.heap [] ls l0 l1 l2 l3 hk_l0 hP hS hf hl
theorem k_X7_priceOf {p : Program} {l : Launch} {e : Env} {R : Room} {s : State} {m : MethodId} {args : Array Value} {below : List Frame} {meth : Method} {c : Code} {H : Heap} {locs : List Loc} {Q : State → Prop} {cc : ByteArray} {nL : Nat} {own : String} {ret : Option FieldType} {fF fL : Nat} {G : GT} {pc idx : Nat} {ls : Array Slot} {rest : List Value} {σ : Mem} {res : Int} {l0 : Nat} {l1 : Int} {l2 : Int} {l3 : Int} (X : CX p R s m args meth c cc nL own ret fF fL G) (hP : PW G σ H) (hS : va_S (AA G) s.heap H locs) (hls : ls.size = nL) (hk_l0 : kd l0 = 7) (hf : X7_priceOf σ l0 l1 l2 l3 = some res) (h1 : Cond.methodLink own idx yX7_priceOf ∈ TB) (hR : 4 + 1 ≤ fF ∧ 8 + (7 + 11) + 132 ≤ fL) (hW : (rest.map fun v => v.category).sum ≤ 8) (hd : decode cc pc = .ok (.invokevirtual idx, 3)) (kk : ∀ (H1 : Heap) (locs1 : List Loc), PW G σ H1 → va_S (AA G) s.heap H1 locs1 → W p l e R s m args below meth c H1 locs1 0 0 Q (F0 m (pc + 3) ls (.int (i32 res) :: rest))) : W p l e R s m args below meth c H locs 0 0 Q (F0 m pc ls (.int (i32 l3) :: .int (i32 l2) :: .int (i32 l1) :: .ref (gh G + l0) :: rest)) := r_callV (n := 3) X hP hS hls (c_X7_priceOf hk_l0 hf) h1 (tb t_946 rfl) (tb t_947 rfl) (tb t_76 rfl) (tb t_948 rfl) (by decide +kernel) hR (r_recv X hP (kd_lt hk_l0 (by decide)) (cE_7 hk_l0) rfl) rfl rfl hW hd kk
/-! X10_breakOf -/
theorem dX10_breakOf_0 : decode cX10_breakOf 0 = .ok (.aload_n 0, 1) := by decide +kernel
theorem dX10_breakOf_1 : decode cX10_breakOf 1 = .ok (.getfield 10, 3) := by decide +kernel
theorem dX10_breakOf_4 : decode cX10_breakOf 4 = .ok (.getfield 152, 3) := by decide +kernel
theorem dX10_breakOf_7 : decode cX10_breakOf 7 = .ok (.astore_n 3, 1) := by decide +kernel
theorem dX10_breakOf_8 : decode cX10_breakOf 8 = .ok (.aload_n 3, 1) := by decide +kernel
theorem dX10_breakOf_9 : decode cX10_breakOf 9 = .ok (.iload_n 1, 1) := by decide +kernel
theorem dX10_breakOf_10 : decode cX10_breakOf 10 = .ok (.invokevirtual 268, 3) := by decide +kernel
theorem dX10_breakOf_13 : decode cX10_breakOf 13 = .ok (.ifCond .eq 12, 3) := by decide +kernel
theorem dX10_breakOf_16 : decode cX10_breakOf 16 = .ok (.iload_n 2, 1) := by decide +kernel
theorem dX10_breakOf_17 : decode cX10_breakOf 17 = .ok (.iconst 0, 1) := by decide +kernel
theorem dX10_breakOf_18 : decode cX10_breakOf 18 = .ok (.iconst 4, 1) := by decide +kernel
theorem dX10_breakOf_19 : decode cX10_breakOf 19 = .ok (.invokestatic 62, 3) := by decide +kernel
theorem dX10_breakOf_22 : decode cX10_breakOf 22 = .ok (.ifCond .ne 10, 3) := by decide +kernel
theorem dX10_breakOf_25 : decode cX10_breakOf 25 = .ok (.aload_n 0, 1) := by decide +kernel
theorem dX10_breakOf_26 : decode cX10_breakOf 26 = .ok (.ldc 72, 2) := by decide +kernel
theorem dX10_breakOf_28 : decode cX10_breakOf 28 = .ok (.invokevirtual 73, 3) := by decide +kernel
theorem dX10_breakOf_31 : decode cX10_breakOf 31 = .ok (.ireturn, 1) := by decide +kernel
theorem dX10_breakOf_32 : decode cX10_breakOf 32 = .ok (.iload_n 2, 1) := by decide +kernel
theorem dX10_breakOf_33 : decode cX10_breakOf 33 = .ok (.tableswitch 86 0 3 #[31, 38, 45, 52], 31) := by decide +kernel
theorem dX10_breakOf_64 : decode cX10_breakOf 64 = .ok (.aload_n 3, 1) := by decide +kernel
theorem dX10_breakOf_65 : decode cX10_breakOf 65 = .ok (.getfield 271, 3) := by decide +kernel
theorem dX10_breakOf_68 : decode cX10_breakOf 68 = .ok (.iload_n 1, 1) := by decide +kernel
theorem dX10_breakOf_69 : decode cX10_breakOf 69 = .ok (.iaload, 1) := by decide +kernel
theorem dX10_breakOf_70 : decode cX10_breakOf 70 = .ok (.ireturn, 1) := by decide +kernel
theorem dX10_breakOf_71 : decode cX10_breakOf 71 = .ok (.aload_n 3, 1) := by decide +kernel
theorem dX10_breakOf_72 : decode cX10_breakOf 72 = .ok (.getfield 274, 3) := by decide +kernel
theorem dX10_breakOf_75 : decode cX10_breakOf 75 = .ok (.iload_n 1, 1) := by decide +kernel
theorem dX10_breakOf_76 : decode cX10_breakOf 76 = .ok (.iaload, 1) := by decide +kernel
theorem dX10_breakOf_77 : decode cX10_breakOf 77 = .ok (.ireturn, 1) := by decide +kernel
theorem dX10_breakOf_78 : decode cX10_breakOf 78 = .ok (.aload_n 3, 1) := by decide +kernel
theorem dX10_breakOf_79 : decode cX10_breakOf 79 = .ok (.getfield 276, 3) := by decide +kernel
theorem dX10_breakOf_82 : decode cX10_breakOf 82 = .ok (.iload_n 1, 1) := by decide +kernel
theorem dX10_breakOf_83 : decode cX10_breakOf 83 = .ok (.iaload, 1) := by decide +kernel
theorem dX10_breakOf_84 : decode cX10_breakOf 84 = .ok (.ireturn, 1) := by decide +kernel
theorem dX10_breakOf_85 : decode cX10_breakOf 85 = .ok (.aload_n 0, 1) := by decide +kernel
theorem dX10_breakOf_86 : decode cX10_breakOf 86 = .ok (.getfield 10, 3) := by decide +kernel
theorem dX10_breakOf_89 : decode cX10_breakOf 89 = .ok (.aload_n 3, 1) := by decide +kernel
theorem dX10_breakOf_90 : decode cX10_breakOf 90 = .ok (.getfield 271, 3) := by decide +kernel
theorem dX10_breakOf_93 : decode cX10_breakOf 93 = .ok (.iload_n 1, 1) := by decide +kernel
theorem dX10_breakOf_94 : decode cX10_breakOf 94 = .ok (.iaload, 1) := by decide +kernel
theorem dX10_breakOf_95 : decode cX10_breakOf 95 = .ok (.aload_n 3, 1) := by decide +kernel
theorem dX10_breakOf_96 : decode cX10_breakOf 96 = .ok (.getfield 274, 3) := by decide +kernel
theorem dX10_breakOf_99 : decode cX10_breakOf 99 = .ok (.iload_n 1, 1) := by decide +kernel
theorem dX10_breakOf_100 : decode cX10_breakOf 100 = .ok (.iaload, 1) := by decide +kernel
theorem dX10_breakOf_101 : decode cX10_breakOf 101 = .ok (.aload_n 3, 1) := by decide +kernel
theorem dX10_breakOf_102 : decode cX10_breakOf 102 = .ok (.getfield 276, 3) := by decide +kernel
theorem dX10_breakOf_105 : decode cX10_breakOf 105 = .ok (.iload_n 1, 1) := by decide +kernel
theorem dX10_breakOf_106 : decode cX10_breakOf 106 = .ok (.iaload, 1) := by decide +kernel
theorem dX10_breakOf_107 : decode cX10_breakOf 107 = .ok (.invokevirtual 278, 3) := by decide +kernel
theorem dX10_breakOf_110 : decode cX10_breakOf 110 = .ok (.ifCond .eq 7, 3) := by decide +kernel
theorem dX10_breakOf_113 : decode cX10_breakOf 113 = .ok (.iconst 1, 1) := by decide +kernel
theorem dX10_breakOf_114 : decode cX10_breakOf 114 = .ok (.goto 4, 3) := by decide +kernel
theorem dX10_breakOf_117 : decode cX10_breakOf 117 = .ok (.iconst 0, 1) := by decide +kernel
theorem dX10_breakOf_118 : decode cX10_breakOf 118 = .ok (.ireturn, 1) := by decide +kernel
theorem dX10_breakOf_119 : decode cX10_breakOf 119 = .ok (.aload_n 0, 1) := by decide +kernel
theorem dX10_breakOf_120 : decode cX10_breakOf 120 = .ok (.getfield 10, 3) := by decide +kernel
theorem dX10_breakOf_123 : decode cX10_breakOf 123 = .ok (.aload_n 3, 1) := by decide +kernel
theorem dX10_breakOf_124 : decode cX10_breakOf 124 = .ok (.getfield 271, 3) := by decide +kernel
theorem dX10_breakOf_127 : decode cX10_breakOf 127 = .ok (.iload_n 1, 1) := by decide +kernel
theorem dX10_breakOf_128 : decode cX10_breakOf 128 = .ok (.iaload, 1) := by decide +kernel
theorem dX10_breakOf_129 : decode cX10_breakOf 129 = .ok (.aload_n 3, 1) := by decide +kernel
theorem dX10_breakOf_130 : decode cX10_breakOf 130 = .ok (.getfield 274, 3) := by decide +kernel
theorem dX10_breakOf_133 : decode cX10_breakOf 133 = .ok (.iload_n 1, 1) := by decide +kernel
theorem dX10_breakOf_134 : decode cX10_breakOf 134 = .ok (.iaload, 1) := by decide +kernel
theorem dX10_breakOf_135 : decode cX10_breakOf 135 = .ok (.aload_n 3, 1) := by decide +kernel
theorem dX10_breakOf_136 : decode cX10_breakOf 136 = .ok (.getfield 276, 3) := by decide +kernel
theorem dX10_breakOf_139 : decode cX10_breakOf 139 = .ok (.iload_n 1, 1) := by decide +kernel
theorem dX10_breakOf_140 : decode cX10_breakOf 140 = .ok (.iaload, 1) := by decide +kernel
theorem dX10_breakOf_141 : decode cX10_breakOf 141 = .ok (.invokevirtual 281, 3) := by decide +kernel
theorem dX10_breakOf_144 : decode cX10_breakOf 144 = .ok (.ireturn, 1) := by decide +kernel
def X10_breakOf_B25 (σ : Mem) : Option (Int × Mem) :=
  bd2 (X10_tell σ (-1000001)) fun r1 s2 =>
  some (r1, s2)
def S_X10_breakOf_25 (fn : Mem → Option (Int × Mem)) (p : Program) (l : Launch) (e : Env) (R : Room) (s : State) (m : MethodId) (args : Array Value) (below : List Frame) (meth : Method) (c : Code) (G : GT) (τ : Mem) (res : Int) : Prop := ∀ (σ : Mem) (H : Heap) (locs : List Loc) (ls : Array Slot), PW G σ H → va_S (AA G) s.heap H locs → fn σ = some (res, τ) → lv_has ls 4 [(0, .ref (gh G + 0))] → W p l e R s m args below meth c H locs 0 0 (MQ below (QM G (some (.int (i32 res))) τ) args s 0 0 (AA G)) (F0 m 25 ls [])
def X10_breakOf (σ : Mem) (l1 : Int) (l2 : Int) : Option (Int × Mem) :=
  bd (X0_has σ 4 l1) fun r1 =>
  if w32 r1 = 0 then
    X10_breakOf_B25 σ
  else
  bd (X10_within σ l2 0 4) fun r2 =>
  if w32 r2 ≠ 0 then
    if w32 l2 = 0 then
      ag 30 l1 fun j3 =>
      some (σ 5 j3, σ)
    else
    if w32 l2 = 1 then
      ag 30 l1 fun j4 =>
      some (σ 6 j4, σ)
    else
    if w32 l2 = 2 then
      ag 30 l1 fun j5 =>
      some (σ 7 j5, σ)
    else
    if w32 l2 = 3 then
      ag 30 l1 fun j6 =>
      ag 30 l1 fun j7 =>
      ag 30 l1 fun j8 =>
      bd (X7_mayBreak σ 1 (σ 5 j6) (σ 6 j7) (σ 7 j8)) fun r9 =>
      if w32 r9 = 0 then
        some (0, σ)
      else
      some (1, σ)
    else
    ag 30 l1 fun j10 =>
    ag 30 l1 fun j11 =>
    ag 30 l1 fun j12 =>
    bd (X7_priceOf σ 1 (σ 5 j10) (σ 6 j11) (σ 7 j12)) fun r13 =>
    some (r13, σ)
  else
  X10_breakOf_B25 σ
def S_X10_breakOf_0 (fn : Mem → Int → Int → Option (Int × Mem)) (p : Program) (l : Launch) (e : Env) (R : Room) (s : State) (m : MethodId) (args : Array Value) (below : List Frame) (meth : Method) (c : Code) (G : GT) (τ : Mem) (res : Int) : Prop := ∀ (σ : Mem) (H : Heap) (locs : List Loc) (ls : Array Slot) (l1 : Int) (l2 : Int), PW G σ H → va_S (AA G) s.heap H locs → fn σ l1 l2 = some (res, τ) → lv_has ls 4 [(0, .ref (gh G + 0)), (1, .int (i32 l1)), (2, .int (i32 l2))] → W p l e R s m args below meth c H locs 0 0 (MQ below (QM G (some (.int (i32 res))) τ) args s 0 0 (AA G)) (F0 m 0 ls [])
set_option maxHeartbeats 4000000 in
theorem a_X10_breakOf_25 {p : Program} {l : Launch} {e : Env} {R : Room} {s : State} {m : MethodId} {args : Array Value} {below : List Frame} {meth : Method} {c : Code} {G : GT} {τ : Mem} {res : Int} (X : CX p R s m args meth c cX10_breakOf 4 RX10 (some FieldType.int) 6 180 G) : S_X10_breakOf_25 (X10_breakOf_B25) p l e R s m args below meth c G τ res := by
  intro σ H locs ls hP hS hf hl
  unfold X10_breakOf_B25 at hf
  refine lv_aload_n X.1 X.2.1 dX10_breakOf_25 rfl (lv_at hl 0 rfl) ?_
  refine r_ldc X (-1000001) (tb t_430 rfl) (by decide) dX10_breakOf_26 ?_
  obtain ⟨r1, s2, hr1, hf⟩ := bd2_inv hf
  refine k_X10_tell X hP hS hl.1  hr1 (tb t_431 rfl) (by decide) (Nat.le_of_ble_eq_true rfl) dX10_breakOf_28 (fun H locs hP hS => ?_)
  obtain ⟨rfl, rfl⟩ := so2_inv hf
  exact r_iret X hP hS dX10_breakOf_31
set_option maxHeartbeats 4000000 in
theorem a_X10_breakOf_0 {p : Program} {l : Launch} {e : Env} {R : Room} {s : State} {m : MethodId} {args : Array Value} {below : List Frame} {meth : Method} {c : Code} {G : GT} {τ : Mem} {res : Int} (X : CX p R s m args meth c cX10_breakOf 4 RX10 (some FieldType.int) 6 180 G) : S_X10_breakOf_0 (X10_breakOf) p l e R s m args below meth c G τ res := by
  intro σ H locs ls l1 l2 hP hS hf hl
  unfold X10_breakOf at hf
  refine lv_aload_n X.1 X.2.1 dX10_breakOf_0 rfl (lv_at hl 0 rfl) ?_
  refine g_10_0 (r := 1) X hP ks_10 rfl (tb t_388 rfl) dX10_breakOf_1 ?_
  refine g_7_2 (r := 4) X hP (ch_10_0 ks_10).1 rfl (tb t_174 rfl) dX10_breakOf_4 ?_
  refine lv_astore_n (lv' := [(3, .ref (gh G + 4)), (0, .ref (gh G + 0)), (1, .int (i32 l1)), (2, .int (i32 l2))]) X.1 X.2.1 dX10_breakOf_7 rfl hl (by decide) rfl (fun ls hl => ?_)
  refine lv_aload_n X.1 X.2.1 dX10_breakOf_8 rfl (lv_at hl 0 rfl) ?_
  refine lv_iload_n X.1 X.2.1 dX10_breakOf_9 rfl (lv_at hl 2 rfl) ?_
  obtain ⟨r1, hr1, hf⟩ := bd_inv hf
  refine k_X0_has X hP hS hl.1 (ch_7_2 (ch_10_0 ks_10).1).1 hr1 (tb t_935 rfl) (by decide) (Nat.le_of_ble_eq_true rfl) dX10_breakOf_10 (fun H locs hP hS => ?_)
  refine r_if_eq (tgt := 25) X dX10_breakOf_13 (by decide) (fun q => ?_) (fun q => ?_)
  · replace hf := it_inv q hf
    exact a_X10_breakOf_25 X σ H locs ls  hP hS hf (lv_sub hl [1] rfl)
  · replace hf := ie_inv q hf
    refine lv_iload_n X.1 X.2.1 dX10_breakOf_16 rfl (lv_at hl 3 rfl) ?_
    refine r_iconst X 0 dX10_breakOf_17 ?_
    refine r_iconst X 4 dX10_breakOf_18 ?_
    obtain ⟨r2, hr2, hf⟩ := bd_inv hf
    refine k_X10_within X hP hS hl.1  hr2 (tb t_423 rfl) (by decide) (Nat.le_of_ble_eq_true rfl) dX10_breakOf_19 (fun H locs hP hS => ?_)
    refine r_if_ne (tgt := 32) X dX10_breakOf_22 (by decide) (fun q => ?_) (fun q => ?_)
    · replace hf := it_inv q hf
      refine lv_iload_n X.1 X.2.1 dX10_breakOf_32 rfl (lv_at hl 3 rfl) ?_
      by_cases q0 : w32 l2 = 0
      · replace hf := it_inv q0 hf
        refine r_tsI (tgt := 64) (off := 31) X 0 dX10_breakOf_33 q0 (by decide) (by decide) ?_
        refine lv_aload_n X.1 X.2.1 dX10_breakOf_64 rfl (lv_at hl 0 rfl) ?_
        refine g_0_0 (r := 5) X hP (ch_7_2 (ch_10_0 ks_10).1).1 rfl (tb t_122 rfl) dX10_breakOf_65 ?_
        refine lv_iload_n X.1 X.2.1 dX10_breakOf_68 rfl (lv_at hl 2 rfl) ?_
        obtain ⟨j3, hij3, hjj3, hlj3, hf⟩ := ag_inv hf
        refine r_iald X hP (ch_0_0 (ch_7_2 (ch_10_0 ks_10).1).1).1 (ch_0_0 (ch_7_2 (ch_10_0 ks_10).1).1).2 hij3 hjj3 dX10_breakOf_69 ?_
        obtain ⟨rfl, rfl⟩ := so2_inv hf
        exact r_iret X hP hS dX10_breakOf_70
      replace hf := ie_inv q0 hf
      by_cases q1 : w32 l2 = 1
      · replace hf := it_inv q1 hf
        refine r_tsI (tgt := 71) (off := 38) X 1 dX10_breakOf_33 q1 (by decide) (by decide) ?_
        refine lv_aload_n X.1 X.2.1 dX10_breakOf_71 rfl (lv_at hl 0 rfl) ?_
        refine g_0_1 (r := 6) X hP (ch_7_2 (ch_10_0 ks_10).1).1 rfl (tb t_125 rfl) dX10_breakOf_72 ?_
        refine lv_iload_n X.1 X.2.1 dX10_breakOf_75 rfl (lv_at hl 2 rfl) ?_
        obtain ⟨j4, hij4, hjj4, hlj4, hf⟩ := ag_inv hf
        refine r_iald X hP (ch_0_1 (ch_7_2 (ch_10_0 ks_10).1).1).1 (ch_0_1 (ch_7_2 (ch_10_0 ks_10).1).1).2 hij4 hjj4 dX10_breakOf_76 ?_
        obtain ⟨rfl, rfl⟩ := so2_inv hf
        exact r_iret X hP hS dX10_breakOf_77
      replace hf := ie_inv q1 hf
      by_cases q2 : w32 l2 = 2
      · replace hf := it_inv q2 hf
        refine r_tsI (tgt := 78) (off := 45) X 2 dX10_breakOf_33 q2 (by decide) (by decide) ?_
        refine lv_aload_n X.1 X.2.1 dX10_breakOf_78 rfl (lv_at hl 0 rfl) ?_
        refine g_0_2 (r := 7) X hP (ch_7_2 (ch_10_0 ks_10).1).1 rfl (tb t_128 rfl) dX10_breakOf_79 ?_
        refine lv_iload_n X.1 X.2.1 dX10_breakOf_82 rfl (lv_at hl 2 rfl) ?_
        obtain ⟨j5, hij5, hjj5, hlj5, hf⟩ := ag_inv hf
        refine r_iald X hP (ch_0_2 (ch_7_2 (ch_10_0 ks_10).1).1).1 (ch_0_2 (ch_7_2 (ch_10_0 ks_10).1).1).2 hij5 hjj5 dX10_breakOf_83 ?_
        obtain ⟨rfl, rfl⟩ := so2_inv hf
        exact r_iret X hP hS dX10_breakOf_84
      replace hf := ie_inv q2 hf
      by_cases q3 : w32 l2 = 3
      · replace hf := it_inv q3 hf
        refine r_tsI (tgt := 85) (off := 52) X 3 dX10_breakOf_33 q3 (by decide) (by decide) ?_
        refine lv_aload_n X.1 X.2.1 dX10_breakOf_85 rfl (lv_at hl 1 rfl) ?_
        refine g_10_0 (r := 1) X hP ks_10 rfl (tb t_388 rfl) dX10_breakOf_86 ?_
        refine lv_aload_n X.1 X.2.1 dX10_breakOf_89 rfl (lv_at hl 0 rfl) ?_
        refine g_0_0 (r := 5) X hP (ch_7_2 (ch_10_0 ks_10).1).1 rfl (tb t_122 rfl) dX10_breakOf_90 ?_
        refine lv_iload_n X.1 X.2.1 dX10_breakOf_93 rfl (lv_at hl 2 rfl) ?_
        obtain ⟨j6, hij6, hjj6, hlj6, hf⟩ := ag_inv hf
        refine r_iald X hP (ch_0_0 (ch_7_2 (ch_10_0 ks_10).1).1).1 (ch_0_0 (ch_7_2 (ch_10_0 ks_10).1).1).2 hij6 hjj6 dX10_breakOf_94 ?_
        refine lv_aload_n X.1 X.2.1 dX10_breakOf_95 rfl (lv_at hl 0 rfl) ?_
        refine g_0_1 (r := 6) X hP (ch_7_2 (ch_10_0 ks_10).1).1 rfl (tb t_125 rfl) dX10_breakOf_96 ?_
        refine lv_iload_n X.1 X.2.1 dX10_breakOf_99 rfl (lv_at hl 2 rfl) ?_
        obtain ⟨j7, hij7, hjj7, hlj7, hf⟩ := ag_inv hf
        refine r_iald X hP (ch_0_1 (ch_7_2 (ch_10_0 ks_10).1).1).1 (ch_0_1 (ch_7_2 (ch_10_0 ks_10).1).1).2 hij7 hjj7 dX10_breakOf_100 ?_
        refine lv_aload_n X.1 X.2.1 dX10_breakOf_101 rfl (lv_at hl 0 rfl) ?_
        refine g_0_2 (r := 7) X hP (ch_7_2 (ch_10_0 ks_10).1).1 rfl (tb t_128 rfl) dX10_breakOf_102 ?_
        refine lv_iload_n X.1 X.2.1 dX10_breakOf_105 rfl (lv_at hl 2 rfl) ?_
        obtain ⟨j8, hij8, hjj8, hlj8, hf⟩ := ag_inv hf
        refine r_iald X hP (ch_0_2 (ch_7_2 (ch_10_0 ks_10).1).1).1 (ch_0_2 (ch_7_2 (ch_10_0 ks_10).1).1).2 hij8 hjj8 dX10_breakOf_106 ?_
        obtain ⟨r9, hr9, hf⟩ := bd_inv hf
        refine k_X7_mayBreak X hP hS hl.1 (ch_10_0 ks_10).1 hr9 (tb t_939 rfl) (by decide) (Nat.le_of_ble_eq_true rfl) dX10_breakOf_107 (fun H locs hP hS => ?_)
        refine r_if_eq (tgt := 117) X dX10_breakOf_110 (by decide) (fun q => ?_) (fun q => ?_)
        · replace hf := it_inv q hf
          refine r_iconst X 0 dX10_breakOf_117 ?_
          obtain ⟨rfl, rfl⟩ := so2_inv hf
          exact r_iret X hP hS dX10_breakOf_118
        · replace hf := ie_inv q hf
          refine r_iconst X 1 dX10_breakOf_113 ?_
          refine lv_goto (tgt := 118) X.1 X.2.1 dX10_breakOf_114 (by decide) ?_
          obtain ⟨rfl, rfl⟩ := so2_inv hf
          exact r_iret X hP hS dX10_breakOf_118
      replace hf := ie_inv q3 hf
      refine r_tsO (tgt := 119) X dX10_breakOf_33 (by omega) (by decide) ?_
      refine lv_aload_n X.1 X.2.1 dX10_breakOf_119 rfl (lv_at hl 1 rfl) ?_
      refine g_10_0 (r := 1) X hP ks_10 rfl (tb t_388 rfl) dX10_breakOf_120 ?_
      refine lv_aload_n X.1 X.2.1 dX10_breakOf_123 rfl (lv_at hl 0 rfl) ?_
      refine g_0_0 (r := 5) X hP (ch_7_2 (ch_10_0 ks_10).1).1 rfl (tb t_122 rfl) dX10_breakOf_124 ?_
      refine lv_iload_n X.1 X.2.1 dX10_breakOf_127 rfl (lv_at hl 2 rfl) ?_
      obtain ⟨j10, hij10, hjj10, hlj10, hf⟩ := ag_inv hf
      refine r_iald X hP (ch_0_0 (ch_7_2 (ch_10_0 ks_10).1).1).1 (ch_0_0 (ch_7_2 (ch_10_0 ks_10).1).1).2 hij10 hjj10 dX10_breakOf_128 ?_
      refine lv_aload_n X.1 X.2.1 dX10_breakOf_129 rfl (lv_at hl 0 rfl) ?_
      refine g_0_1 (r := 6) X hP (ch_7_2 (ch_10_0 ks_10).1).1 rfl (tb t_125 rfl) dX10_breakOf_130 ?_
      refine lv_iload_n X.1 X.2.1 dX10_breakOf_133 rfl (lv_at hl 2 rfl) ?_
      obtain ⟨j11, hij11, hjj11, hlj11, hf⟩ := ag_inv hf
      refine r_iald X hP (ch_0_1 (ch_7_2 (ch_10_0 ks_10).1).1).1 (ch_0_1 (ch_7_2 (ch_10_0 ks_10).1).1).2 hij11 hjj11 dX10_breakOf_134 ?_
      refine lv_aload_n X.1 X.2.1 dX10_breakOf_135 rfl (lv_at hl 0 rfl) ?_
      refine g_0_2 (r := 7) X hP (ch_7_2 (ch_10_0 ks_10).1).1 rfl (tb t_128 rfl) dX10_breakOf_136 ?_
      refine lv_iload_n X.1 X.2.1 dX10_breakOf_139 rfl (lv_at hl 2 rfl) ?_
      obtain ⟨j12, hij12, hjj12, hlj12, hf⟩ := ag_inv hf
      refine r_iald X hP (ch_0_2 (ch_7_2 (ch_10_0 ks_10).1).1).1 (ch_0_2 (ch_7_2 (ch_10_0 ks_10).1).1).2 hij12 hjj12 dX10_breakOf_140 ?_
      obtain ⟨r13, hr13, hf⟩ := bd_inv hf
      refine k_X7_priceOf X hP hS hl.1 (ch_10_0 ks_10).1 hr13 (tb t_945 rfl) (by decide) (Nat.le_of_ble_eq_true rfl) dX10_breakOf_141 (fun H locs hP hS => ?_)
      obtain ⟨rfl, rfl⟩ := so2_inv hf
      exact r_iret X hP hS dX10_breakOf_144
    · replace hf := ie_inv q hf
      exact a_X10_breakOf_25 X σ H locs ls  hP hS hf (lv_sub hl [1] rfl)
set_option maxHeartbeats 4000000 in
theorem c_X10_breakOf {l : Launch} {G : GT} {σ τ : Mem} {res : Int} {l1 : Int} {l2 : Int} (hf : X10_breakOf σ l1 l2 = some (res, τ)) : CT l yX10_breakOf cX10_breakOf 4 (some FieldType.int) 6 180 G [.ref (gh G + 0), .int (i32 l1), .int (i32 l2)] σ τ (some (.int (i32 res))) := by
  refine CT.mk (own := RX10) (by decide) rfl (Nat.le_of_ble_eq_true rfl) ?_
  intro p e s m below meth c ls X hP hS hl
  have hl : lv_has ls 4 [(0, .ref (gh G + 0)), (1, .int (i32 l1)), (2, .int (i32 l2))] := hl
  exact a_X10_breakOf_0 X σ s.heap [] ls l1 l2 hP hS hf hl
theorem k_X10_breakOf {p : Program} {l : Launch} {e : Env} {R : Room} {s : State} {m : MethodId} {args : Array Value} {below : List Frame} {meth : Method} {c : Code} {H : Heap} {locs : List Loc} {Q : State → Prop} {cc : ByteArray} {nL : Nat} {own : String} {ret : Option FieldType} {fF fL : Nat} {G : GT} {pc idx : Nat} {ls : Array Slot} {rest : List Value} {σ τ : Mem} {res : Int} {l1 : Int} {l2 : Int} (X : CX p R s m args meth c cc nL own ret fF fL G) (hP : PW G σ H) (hS : va_S (AA G) s.heap H locs) (hls : ls.size = nL) (hf : X10_breakOf σ l1 l2 = some (res, τ)) (h1 : Cond.methodLink own idx yX10_breakOf ∈ TB) (hR : 6 + 1 ≤ fF ∧ 8 + (4 + 11) + 180 ≤ fL) (hW : (rest.map fun v => v.category).sum ≤ 8) (hd : decode cc pc = .ok (.invokevirtual idx, 3)) (kk : ∀ (H1 : Heap) (locs1 : List Loc), PW G τ H1 → va_S (AA G) s.heap H1 locs1 → W p l e R s m args below meth c H1 locs1 0 0 Q (F0 m (pc + 3) ls (.int (i32 res) :: rest))) : W p l e R s m args below meth c H locs 0 0 Q (F0 m pc ls (.int (i32 l2) :: .int (i32 l1) :: .ref (gh G + 0) :: rest)) := r_callV (n := 2) X hP hS hls (c_X10_breakOf hf) h1 (tb t_932 rfl) (tb t_933 rfl) (tb t_75 rfl) (tb t_934 rfl) (by decide +kernel) hR (r_recv X hP (kd_lt ks_10 (by decide)) (cE_10 ks_10) rfl) rfl rfl hW hd kk
/-! X5_put -/
theorem dX5_put_0 : decode cX5_put 0 = .ok (.aload_n 0, 1) := by decide +kernel
theorem dX5_put_1 : decode cX5_put 1 = .ok (.getfield 15, 3) := by decide +kernel
theorem dX5_put_4 : decode cX5_put 4 = .ok (.iload_n 1, 1) := by decide +kernel
theorem dX5_put_5 : decode cX5_put 5 = .ok (.iconst 4, 1) := by decide +kernel
theorem dX5_put_6 : decode cX5_put 6 = .ok (.imul, 1) := by decide +kernel
theorem dX5_put_7 : decode cX5_put 7 = .ok (.iload_n 2, 1) := by decide +kernel
theorem dX5_put_8 : decode cX5_put 8 = .ok (.iadd, 1) := by decide +kernel
theorem dX5_put_9 : decode cX5_put 9 = .ok (.iload_n 3, 1) := by decide +kernel
theorem dX5_put_10 : decode cX5_put 10 = .ok (.iastore, 1) := by decide +kernel
theorem dX5_put_11 : decode cX5_put 11 = .ok (.return_, 1) := by decide +kernel
def X5_put (σ : Mem) (l0 : Nat) (l1 : Int) (l2 : Int) (l3 : Int) : Option (Mem) :=
  ag 160 ((l1 * 4) + l2) fun j1 =>
  lt (st σ (l0 + 2) j1 l3) fun s2 =>
  some s2
def S_X5_put_0 (fn : Mem → Nat → Int → Int → Int → Option (Mem)) (p : Program) (l : Launch) (e : Env) (R : Room) (s : State) (m : MethodId) (args : Array Value) (below : List Frame) (meth : Method) (c : Code) (G : GT) (τ : Mem) : Prop := ∀ (σ : Mem) (H : Heap) (locs : List Loc) (ls : Array Slot) (l0 : Nat) (l1 : Int) (l2 : Int) (l3 : Int), kd l0 = 5 → PW G σ H → va_S (AA G) s.heap H locs → fn σ l0 l1 l2 l3 = some τ → lv_has ls 4 [(0, .ref (gh G + l0)), (1, .int (i32 l1)), (2, .int (i32 l2)), (3, .int (i32 l3))] → W p l e R s m args below meth c H locs 0 0 (MQ below (QM G none τ) args s 0 0 (AA G)) (F0 m 0 ls [])
set_option maxHeartbeats 4000000 in
theorem a_X5_put_0 {p : Program} {l : Launch} {e : Env} {R : Room} {s : State} {m : MethodId} {args : Array Value} {below : List Frame} {meth : Method} {c : Code} {G : GT} {τ : Mem} (X : CX p R s m args meth c cX5_put 4 RX5 none 1 60 G) : S_X5_put_0 (X5_put) p l e R s m args below meth c G τ := by
  intro σ H locs ls l0 l1 l2 l3 hk_l0 hP hS hf hl
  unfold X5_put at hf
  refine lv_aload_n X.1 X.2.1 dX5_put_0 rfl (lv_at hl 0 rfl) ?_
  refine g_5_1 (r := l0 + 2) X hP hk_l0 rfl (tb t_154 rfl) dX5_put_1 ?_
  refine lv_iload_n X.1 X.2.1 dX5_put_4 rfl (lv_at hl 1 rfl) ?_
  refine r_iconst X 4 dX5_put_5 ?_
  refine r_imul X dX5_put_6 ?_
  refine lv_iload_n X.1 X.2.1 dX5_put_7 rfl (lv_at hl 2 rfl) ?_
  refine r_iadd X dX5_put_8 ?_
  refine lv_iload_n X.1 X.2.1 dX5_put_9 rfl (lv_at hl 3 rfl) ?_
  obtain ⟨j1, hij1, hjj1, hlj1, hf⟩ := ag_inv hf
  refine r_iast X hP hS (ch_5_1 hk_l0).1 (ch_5_1 hk_l0).2 hij1 hjj1 dX5_put_10 (fun H locs hP hS => ?_)
  obtain ⟨s2, es2, hf⟩ := lt_inv hf
  rw [es2] at hP
  cases so_inv hf
  exact r_vret X hP hS dX5_put_11
set_option maxHeartbeats 4000000 in
theorem c_X5_put {l : Launch} {G : GT} {σ τ : Mem} {l0 : Nat} {l1 : Int} {l2 : Int} {l3 : Int} (hk_l0 : kd l0 = 5) (hf : X5_put σ l0 l1 l2 l3 = some τ) : CT l yX5_put cX5_put 4 none 1 60 G [.ref (gh G + l0), .int (i32 l1), .int (i32 l2), .int (i32 l3)] σ τ none := by
  refine CT.mk (own := RX5) (by decide) rfl (Nat.le_of_ble_eq_true rfl) ?_
  intro p e s m below meth c ls X hP hS hl
  have hl : lv_has ls 4 [(0, .ref (gh G + l0)), (1, .int (i32 l1)), (2, .int (i32 l2)), (3, .int (i32 l3))] := hl
  exact a_X5_put_0 X σ s.heap [] ls l0 l1 l2 l3 hk_l0 hP hS hf hl
theorem k_X5_put {p : Program} {l : Launch} {e : Env} {R : Room} {s : State} {m : MethodId} {args : Array Value} {below : List Frame} {meth : Method} {c : Code} {H : Heap} {locs : List Loc} {Q : State → Prop} {cc : ByteArray} {nL : Nat} {own : String} {ret : Option FieldType} {fF fL : Nat} {G : GT} {pc idx : Nat} {ls : Array Slot} {rest : List Value} {σ τ : Mem} {l0 : Nat} {l1 : Int} {l2 : Int} {l3 : Int} (X : CX p R s m args meth c cc nL own ret fF fL G) (hP : PW G σ H) (hS : va_S (AA G) s.heap H locs) (hls : ls.size = nL) (hk_l0 : kd l0 = 5) (hf : X5_put σ l0 l1 l2 l3 = some τ) (h1 : Cond.methodLink own idx yX5_put ∈ TB) (hR : 1 + 1 ≤ fF ∧ 8 + (4 + 11) + 60 ≤ fL) (hW : (rest.map fun v => v.category).sum ≤ 8) (hd : decode cc pc = .ok (.invokevirtual idx, 3)) (kk : ∀ (H1 : Heap) (locs1 : List Loc), PW G τ H1 → va_S (AA G) s.heap H1 locs1 → W p l e R s m args below meth c H1 locs1 0 0 Q (F0 m (pc + 3) ls (rest))) : W p l e R s m args below meth c H locs 0 0 Q (F0 m pc ls (.int (i32 l3) :: .int (i32 l2) :: .int (i32 l1) :: .ref (gh G + l0) :: rest)) := r_callV (n := 3) X hP hS hls (c_X5_put hk_l0 hf) h1 (tb t_649 rfl) (tb t_650 rfl) (tb t_79 rfl) (tb t_651 rfl) (by decide +kernel) hR (r_recv X hP (kd_lt hk_l0 (by decide)) (cE_5 hk_l0) rfl) rfl rfl hW hd kk
/-! X10_forgetLayings -/
theorem dX10_forgetLayings_0 : decode cX10_forgetLayings 0 = .ok (.iconst 0, 1) := by decide +kernel
theorem dX10_forgetLayings_1 : decode cX10_forgetLayings 1 = .ok (.istore_n 1, 1) := by decide +kernel
theorem dX10_forgetLayings_2 : decode cX10_forgetLayings 2 = .ok (.iload_n 1, 1) := by decide +kernel
theorem dX10_forgetLayings_3 : decode cX10_forgetLayings 3 = .ok (.iconst 4, 1) := by decide +kernel
theorem dX10_forgetLayings_4 : decode cX10_forgetLayings 4 = .ok (.if_icmp .ge 19, 3) := by decide +kernel
theorem dX10_forgetLayings_7 : decode cX10_forgetLayings 7 = .ok (.aload_n 0, 1) := by decide +kernel
theorem dX10_forgetLayings_8 : decode cX10_forgetLayings 8 = .ok (.getfield 40, 3) := by decide +kernel
theorem dX10_forgetLayings_11 : decode cX10_forgetLayings 11 = .ok (.iload_n 1, 1) := by decide +kernel
theorem dX10_forgetLayings_12 : decode cX10_forgetLayings 12 = .ok (.aaload, 1) := by decide +kernel
theorem dX10_forgetLayings_13 : decode cX10_forgetLayings 13 = .ok (.iconst 0, 1) := by decide +kernel
theorem dX10_forgetLayings_14 : decode cX10_forgetLayings 14 = .ok (.putfield 356, 3) := by decide +kernel
theorem dX10_forgetLayings_17 : decode cX10_forgetLayings 17 = .ok (.iinc 1 1, 3) := by decide +kernel
theorem dX10_forgetLayings_20 : decode cX10_forgetLayings 20 = .ok (.goto (-18), 3) := by decide +kernel
theorem dX10_forgetLayings_23 : decode cX10_forgetLayings 23 = .ok (.return_, 1) := by decide +kernel
def S_X10_forgetLayings_2 (fn : Mem → Int → Option (Mem)) (p : Program) (l : Launch) (e : Env) (R : Room) (s : State) (m : MethodId) (args : Array Value) (below : List Frame) (meth : Method) (c : Code) (G : GT) (τ : Mem) : Prop := ∀ (σ : Mem) (H : Heap) (locs : List Loc) (ls : Array Slot) (l1 : Int), PW G σ H → va_S (AA G) s.heap H locs → fn σ l1 = some τ → lv_has ls 2 [(0, .ref (gh G + 0)), (1, .int (i32 l1))] → W p l e R s m args below meth c H locs 0 0 (MQ below (QM G none τ) args s 0 0 (AA G)) (F0 m 2 ls [])
def X10_forgetLayings_B2 (rec2 : Mem → Int → Option (Mem)) (σ : Mem) (l1 : Int) : Option (Mem) :=
  if w32 4 ≤ w32 l1 then
    some σ
  else
  ag 4 l1 fun j1 =>
  lt (st σ (73 + 10 * j1) 5 0) fun s2 =>
  lt (l1 + 1) fun l1_3 =>
  rec2 s2 l1_3
def X10_forgetLayings_L2 : Nat → Mem → Int → Option (Mem)
  | 0 => fun _ _ => none
  | n + 1 => X10_forgetLayings_B2 (X10_forgetLayings_L2 n)
def X10_forgetLayings (σ : Mem) : Option (Mem) :=
  X10_forgetLayings_L2 5000 σ 0
def S_X10_forgetLayings_0 (fn : Mem → Option (Mem)) (p : Program) (l : Launch) (e : Env) (R : Room) (s : State) (m : MethodId) (args : Array Value) (below : List Frame) (meth : Method) (c : Code) (G : GT) (τ : Mem) : Prop := ∀ (σ : Mem) (H : Heap) (locs : List Loc) (ls : Array Slot), PW G σ H → va_S (AA G) s.heap H locs → fn σ = some τ → lv_has ls 2 [(0, .ref (gh G + 0))] → W p l e R s m args below meth c H locs 0 0 (MQ below (QM G none τ) args s 0 0 (AA G)) (F0 m 0 ls [])
set_option maxHeartbeats 4000000 in
theorem a_X10_forgetLayings_2 {p : Program} {l : Launch} {e : Env} {R : Room} {s : State} {m : MethodId} {args : Array Value} {below : List Frame} {meth : Method} {c : Code} {G : GT} {τ : Mem} {rec2 : Mem → Int → Option (Mem)} (X : CX p R s m args meth c cX10_forgetLayings 2 RX10 none 1 60 G) (h2 : S_X10_forgetLayings_2 rec2 p l e R s m args below meth c G τ) : S_X10_forgetLayings_2 (X10_forgetLayings_B2 rec2) p l e R s m args below meth c G τ := by
  intro σ H locs ls l1 hP hS hf hl
  unfold X10_forgetLayings_B2 at hf
  refine lv_iload_n X.1 X.2.1 dX10_forgetLayings_2 rfl (lv_at hl 1 rfl) ?_
  refine r_iconst X 4 dX10_forgetLayings_3 ?_
  refine r_icmp_ge (tgt := 23) X dX10_forgetLayings_4 (by decide) (fun q => ?_) (fun q => ?_)
  · replace hf := it_inv q hf
    cases so_inv hf
    exact r_vret X hP hS dX10_forgetLayings_23
  · replace hf := ie_inv q hf
    refine lv_aload_n X.1 X.2.1 dX10_forgetLayings_7 rfl (lv_at hl 0 rfl) ?_
    refine g_10_6 (r := 52) X hP ks_10 rfl (tb t_394 rfl) dX10_forgetLayings_8 ?_
    refine lv_iload_n X.1 X.2.1 dX10_forgetLayings_11 rfl (lv_at hl 1 rfl) ?_
    obtain ⟨j1, hij1, hjj1, hlj1, hf⟩ := ag_inv hf
    refine r_aald16 (r := 73 + 10 * j1) X hP (ch_10_6 ks_10).1 (ch_10_6 ks_10).2 hij1 hjj1 rfl dX10_forgetLayings_12 ?_
    refine r_iconst X 0 dX10_forgetLayings_13 ?_
    refine p_2_5 X hP hS (Or.inl rfl) ((ch_16 (ch_10_6 ks_10).1).2 j1 hlj1) (tb t_350 rfl) dX10_forgetLayings_14 (fun H locs hP hS => ?_)
    obtain ⟨s2, es2, hf⟩ := lt_inv hf
    rw [es2] at hP
    obtain ⟨l1_3, el1_3, hf⟩ := lt_inv hf
    refine lv_iinc (v := i32 l1_3) (lv' := [(1, .int (i32 l1_3)), (0, .ref (gh G + 0))]) X.1 X.2.1 dX10_forgetLayings_17 hl (k := 1) rfl (by rw [← el1_3]; exact i32_add _ _) (by decide) rfl (fun ls hl => ?_)
    refine lv_goto (tgt := 2) X.1 X.2.1 dX10_forgetLayings_20 (by decide) ?_
    exact h2 s2 H locs ls l1_3 hP hS hf (lv_sub hl [1, 0] rfl)
theorem al_X10_forgetLayings_2 {p : Program} {l : Launch} {e : Env} {R : Room} {s : State} {m : MethodId} {args : Array Value} {below : List Frame} {meth : Method} {c : Code} {G : GT} {τ : Mem} (X : CX p R s m args meth c cX10_forgetLayings 2 RX10 none 1 60 G) : ∀ n, S_X10_forgetLayings_2 (X10_forgetLayings_L2 n) p l e R s m args below meth c G τ := by
  intro n
  induction n with
  | zero =>
    intro σ H locs ls l1 hP hS hf hl
    cases hf
  | succ n ih => exact a_X10_forgetLayings_2 X ih
set_option maxHeartbeats 4000000 in
theorem a_X10_forgetLayings_0 {p : Program} {l : Launch} {e : Env} {R : Room} {s : State} {m : MethodId} {args : Array Value} {below : List Frame} {meth : Method} {c : Code} {G : GT} {τ : Mem} (X : CX p R s m args meth c cX10_forgetLayings 2 RX10 none 1 60 G) : S_X10_forgetLayings_0 (X10_forgetLayings) p l e R s m args below meth c G τ := by
  intro σ H locs ls hP hS hf hl
  unfold X10_forgetLayings at hf
  refine r_iconst X 0 dX10_forgetLayings_0 ?_
  refine lv_istore_n (lv' := [(1, .int (i32 0)), (0, .ref (gh G + 0))]) X.1 X.2.1 dX10_forgetLayings_1 rfl hl (by decide) rfl (fun ls hl => ?_)
  exact al_X10_forgetLayings_2 X 5000 σ H locs ls 0 hP hS hf (lv_sub hl [1, 0] rfl)
set_option maxHeartbeats 4000000 in
theorem c_X10_forgetLayings {l : Launch} {G : GT} {σ τ : Mem} (hf : X10_forgetLayings σ = some τ) : CT l yX10_forgetLayings cX10_forgetLayings 2 none 1 60 G [.ref (gh G + 0)] σ τ none := by
  refine CT.mk (own := RX10) (by decide) rfl (Nat.le_of_ble_eq_true rfl) ?_
  intro p e s m below meth c ls X hP hS hl
  have hl : lv_has ls 2 [(0, .ref (gh G + 0))] := hl
  exact a_X10_forgetLayings_0 X σ s.heap [] ls hP hS hf hl
theorem k_X10_forgetLayings {p : Program} {l : Launch} {e : Env} {R : Room} {s : State} {m : MethodId} {args : Array Value} {below : List Frame} {meth : Method} {c : Code} {H : Heap} {locs : List Loc} {Q : State → Prop} {cc : ByteArray} {nL : Nat} {own : String} {ret : Option FieldType} {fF fL : Nat} {G : GT} {pc idx : Nat} {ls : Array Slot} {rest : List Value} {σ τ : Mem} (X : CX p R s m args meth c cc nL own ret fF fL G) (hP : PW G σ H) (hS : va_S (AA G) s.heap H locs) (hls : ls.size = nL) (hf : X10_forgetLayings σ = some τ) (h1 : Cond.methodLink own idx yX10_forgetLayings ∈ TB) (hR : 1 + 1 ≤ fF ∧ 8 + (2 + 11) + 60 ≤ fL) (hW : (rest.map fun v => v.category).sum ≤ 8) (hd : decode cc pc = .ok (.invokevirtual idx, 3)) (kk : ∀ (H1 : Heap) (locs1 : List Loc), PW G τ H1 → va_S (AA G) s.heap H1 locs1 → W p l e R s m args below meth c H1 locs1 0 0 Q (F0 m (pc + 3) ls (rest))) : W p l e R s m args below meth c H locs 0 0 Q (F0 m pc ls (.ref (gh G + 0) :: rest)) := r_callV (n := 0) X hP hS hls (c_X10_forgetLayings hf) h1 (tb t_437 rfl) (tb t_1 rfl) (tb t_75 rfl) (tb t_438 rfl) (by decide +kernel) hR (r_recv X hP (kd_lt ks_10 (by decide)) (cE_10 ks_10) rfl) rfl rfl hW hd kk
/-! X10_forgetPart -/
theorem dX10_forgetPart_0 : decode cX10_forgetPart 0 = .ok (.aload_n 0, 1) := by decide +kernel
theorem dX10_forgetPart_1 : decode cX10_forgetPart 1 = .ok (.getfield 34, 3) := by decide +kernel
theorem dX10_forgetPart_4 : decode cX10_forgetPart 4 = .ok (.iload_n 1, 1) := by decide +kernel
theorem dX10_forgetPart_5 : decode cX10_forgetPart 5 = .ok (.aaload, 1) := by decide +kernel
theorem dX10_forgetPart_6 : decode cX10_forgetPart 6 = .ok (.iconst 0, 1) := by decide +kernel
theorem dX10_forgetPart_7 : decode cX10_forgetPart 7 = .ok (.putfield 350, 3) := by decide +kernel
theorem dX10_forgetPart_10 : decode cX10_forgetPart 10 = .ok (.aload_n 0, 1) := by decide +kernel
theorem dX10_forgetPart_11 : decode cX10_forgetPart 11 = .ok (.invokevirtual 86, 3) := by decide +kernel
theorem dX10_forgetPart_14 : decode cX10_forgetPart 14 = .ok (.return_, 1) := by decide +kernel
def X10_forgetPart (σ : Mem) (l1 : Int) : Option (Mem) :=
  ag 4 l1 fun j1 =>
  lt (st σ (71 + 10 * j1) 2 0) fun s2 =>
  bd (X10_forgetLayings s2) fun s4 =>
  some s4
def S_X10_forgetPart_0 (fn : Mem → Int → Option (Mem)) (p : Program) (l : Launch) (e : Env) (R : Room) (s : State) (m : MethodId) (args : Array Value) (below : List Frame) (meth : Method) (c : Code) (G : GT) (τ : Mem) : Prop := ∀ (σ : Mem) (H : Heap) (locs : List Loc) (ls : Array Slot) (l1 : Int), PW G σ H → va_S (AA G) s.heap H locs → fn σ l1 = some τ → lv_has ls 2 [(0, .ref (gh G + 0)), (1, .int (i32 l1))] → W p l e R s m args below meth c H locs 0 0 (MQ below (QM G none τ) args s 0 0 (AA G)) (F0 m 0 ls [])
set_option maxHeartbeats 4000000 in
theorem a_X10_forgetPart_0 {p : Program} {l : Launch} {e : Env} {R : Room} {s : State} {m : MethodId} {args : Array Value} {below : List Frame} {meth : Method} {c : Code} {G : GT} {τ : Mem} (X : CX p R s m args meth c cX10_forgetPart 2 RX10 none 2 81 G) : S_X10_forgetPart_0 (X10_forgetPart) p l e R s m args below meth c G τ := by
  intro σ H locs ls l1 hP hS hf hl
  unfold X10_forgetPart at hf
  refine lv_aload_n X.1 X.2.1 dX10_forgetPart_0 rfl (lv_at hl 0 rfl) ?_
  refine g_10_5 (r := 51) X hP ks_10 rfl (tb t_393 rfl) dX10_forgetPart_1 ?_
  refine lv_iload_n X.1 X.2.1 dX10_forgetPart_4 rfl (lv_at hl 1 rfl) ?_
  obtain ⟨j1, hij1, hjj1, hlj1, hf⟩ := ag_inv hf
  refine r_aald17 (r := 71 + 10 * j1) X hP (ch_10_5 ks_10).1 (ch_10_5 ks_10).2 hij1 hjj1 rfl dX10_forgetPart_5 ?_
  refine r_iconst X 0 dX10_forgetPart_6 ?_
  refine p_4_2 X hP hS (Or.inl rfl) ((ch_17 (ch_10_5 ks_10).1).2 j1 hlj1) (tb t_326 rfl) dX10_forgetPart_7 (fun H locs hP hS => ?_)
  obtain ⟨s2, es2, hf⟩ := lt_inv hf
  rw [es2] at hP
  refine lv_aload_n X.1 X.2.1 dX10_forgetPart_10 rfl (lv_at hl 0 rfl) ?_
  obtain ⟨s4, hr3, hf⟩ := bd_inv hf
  refine k_X10_forgetLayings X hP hS hl.1  hr3 (tb t_435 rfl) (by decide) (Nat.le_of_ble_eq_true rfl) dX10_forgetPart_11 (fun H locs hP hS => ?_)
  cases so_inv hf
  exact r_vret X hP hS dX10_forgetPart_14
set_option maxHeartbeats 4000000 in
theorem c_X10_forgetPart {l : Launch} {G : GT} {σ τ : Mem} {l1 : Int} (hf : X10_forgetPart σ l1 = some τ) : CT l yX10_forgetPart cX10_forgetPart 2 none 2 81 G [.ref (gh G + 0), .int (i32 l1)] σ τ none := by
  refine CT.mk (own := RX10) (by decide) rfl (Nat.le_of_ble_eq_true rfl) ?_
  intro p e s m below meth c ls X hP hS hl
  have hl : lv_has ls 2 [(0, .ref (gh G + 0)), (1, .int (i32 l1))] := hl
  exact a_X10_forgetPart_0 X σ s.heap [] ls l1 hP hS hf hl
theorem k_X10_forgetPart {p : Program} {l : Launch} {e : Env} {R : Room} {s : State} {m : MethodId} {args : Array Value} {below : List Frame} {meth : Method} {c : Code} {H : Heap} {locs : List Loc} {Q : State → Prop} {cc : ByteArray} {nL : Nat} {own : String} {ret : Option FieldType} {fF fL : Nat} {G : GT} {pc idx : Nat} {ls : Array Slot} {rest : List Value} {σ τ : Mem} {l1 : Int} (X : CX p R s m args meth c cc nL own ret fF fL G) (hP : PW G σ H) (hS : va_S (AA G) s.heap H locs) (hls : ls.size = nL) (hf : X10_forgetPart σ l1 = some τ) (h1 : Cond.methodLink own idx yX10_forgetPart ∈ TB) (hR : 2 + 1 ≤ fF ∧ 8 + (2 + 11) + 81 ≤ fL) (hW : (rest.map fun v => v.category).sum ≤ 8) (hd : decode cc pc = .ok (.invokevirtual idx, 3)) (kk : ∀ (H1 : Heap) (locs1 : List Loc), PW G τ H1 → va_S (AA G) s.heap H1 locs1 → W p l e R s m args below meth c H1 locs1 0 0 Q (F0 m (pc + 3) ls (rest))) : W p l e R s m args below meth c H locs 0 0 Q (F0 m pc ls (.int (i32 l1) :: .ref (gh G + 0) :: rest)) := r_callV (n := 1) X hP hS hls (c_X10_forgetPart hf) h1 (tb t_453 rfl) (tb t_3 rfl) (tb t_75 rfl) (tb t_454 rfl) (by decide +kernel) hR (r_recv X hP (kd_lt ks_10 (by decide)) (cE_10 ks_10) rfl) rfl rfl hW hd kk
/-! X10_change -/
theorem dX10_change_0 : decode cX10_change 0 = .ok (.aload_n 0, 1) := by decide +kernel
theorem dX10_change_1 : decode cX10_change 1 = .ok (.iload_n 1, 1) := by decide +kernel
theorem dX10_change_2 : decode cX10_change 2 = .ok (.iload_n 2, 1) := by decide +kernel
theorem dX10_change_3 : decode cX10_change 3 = .ok (.invokevirtual 141, 3) := by decide +kernel
theorem dX10_change_6 : decode cX10_change 6 = .ok (.ifCond .ne 10, 3) := by decide +kernel
theorem dX10_change_9 : decode cX10_change 9 = .ok (.aload_n 0, 1) := by decide +kernel
theorem dX10_change_10 : decode cX10_change 10 = .ok (.ldc 72, 2) := by decide +kernel
theorem dX10_change_12 : decode cX10_change 12 = .ok (.invokevirtual 73, 3) := by decide +kernel
theorem dX10_change_15 : decode cX10_change 15 = .ok (.ireturn, 1) := by decide +kernel
theorem dX10_change_16 : decode cX10_change 16 = .ok (.iload_n 3, 1) := by decide +kernel
theorem dX10_change_17 : decode cX10_change 17 = .ok (.iconst 1, 1) := by decide +kernel
theorem dX10_change_18 : decode cX10_change 18 = .ok (.if_icmp .ne 17, 3) := by decide +kernel
theorem dX10_change_21 : decode cX10_change 21 = .ok (.iload 4, 2) := by decide +kernel
theorem dX10_change_23 : decode cX10_change 23 = .ok (.iconst 0, 1) := by decide +kernel
theorem dX10_change_24 : decode cX10_change 24 = .ok (.iconst 2, 1) := by decide +kernel
theorem dX10_change_25 : decode cX10_change 25 = .ok (.invokestatic 62, 3) := by decide +kernel
theorem dX10_change_28 : decode cX10_change 28 = .ok (.ifCond .eq 7, 3) := by decide +kernel
theorem dX10_change_31 : decode cX10_change 31 = .ok (.iconst 1, 1) := by decide +kernel
theorem dX10_change_32 : decode cX10_change 32 = .ok (.goto 4, 3) := by decide +kernel
theorem dX10_change_35 : decode cX10_change 35 = .ok (.iconst 0, 1) := by decide +kernel
theorem dX10_change_36 : decode cX10_change 36 = .ok (.istore 5, 2) := by decide +kernel
theorem dX10_change_38 : decode cX10_change 38 = .ok (.iload_n 3, 1) := by decide +kernel
theorem dX10_change_39 : decode cX10_change 39 = .ok (.iconst 3, 1) := by decide +kernel
theorem dX10_change_40 : decode cX10_change 40 = .ok (.if_icmp .ne 18, 3) := by decide +kernel
theorem dX10_change_43 : decode cX10_change 43 = .ok (.iload 4, 2) := by decide +kernel
theorem dX10_change_45 : decode cX10_change 45 = .ok (.iconst 0, 1) := by decide +kernel
theorem dX10_change_46 : decode cX10_change 46 = .ok (.bipush 7, 2) := by decide +kernel
theorem dX10_change_48 : decode cX10_change 48 = .ok (.invokestatic 62, 3) := by decide +kernel
theorem dX10_change_51 : decode cX10_change 51 = .ok (.ifCond .eq 7, 3) := by decide +kernel
theorem dX10_change_54 : decode cX10_change 54 = .ok (.iconst 1, 1) := by decide +kernel
theorem dX10_change_55 : decode cX10_change 55 = .ok (.goto 4, 3) := by decide +kernel
theorem dX10_change_58 : decode cX10_change 58 = .ok (.iconst 0, 1) := by decide +kernel
theorem dX10_change_59 : decode cX10_change 59 = .ok (.istore 6, 2) := by decide +kernel
theorem dX10_change_61 : decode cX10_change 61 = .ok (.iload 5, 2) := by decide +kernel
theorem dX10_change_63 : decode cX10_change 63 = .ok (.ifCond .ne 15, 3) := by decide +kernel
theorem dX10_change_66 : decode cX10_change 66 = .ok (.iload 6, 2) := by decide +kernel
theorem dX10_change_68 : decode cX10_change 68 = .ok (.ifCond .ne 10, 3) := by decide +kernel
theorem dX10_change_71 : decode cX10_change 71 = .ok (.aload_n 0, 1) := by decide +kernel
theorem dX10_change_72 : decode cX10_change 72 = .ok (.ldc 72, 2) := by decide +kernel
theorem dX10_change_74 : decode cX10_change 74 = .ok (.invokevirtual 73, 3) := by decide +kernel
theorem dX10_change_77 : decode cX10_change 77 = .ok (.ireturn, 1) := by decide +kernel
theorem dX10_change_78 : decode cX10_change 78 = .ok (.aload_n 0, 1) := by decide +kernel
theorem dX10_change_79 : decode cX10_change 79 = .ok (.getfield 10, 3) := by decide +kernel
theorem dX10_change_82 : decode cX10_change 82 = .ok (.getfield 77, 3) := by decide +kernel
theorem dX10_change_85 : decode cX10_change 85 = .ok (.iload_n 1, 1) := by decide +kernel
theorem dX10_change_86 : decode cX10_change 86 = .ok (.aaload, 1) := by decide +kernel
theorem dX10_change_87 : decode cX10_change 87 = .ok (.astore 7, 2) := by decide +kernel
theorem dX10_change_89 : decode cX10_change 89 = .ok (.aload 7, 2) := by decide +kernel
theorem dX10_change_91 : decode cX10_change 91 = .ok (.iload_n 2, 1) := by decide +kernel
theorem dX10_change_92 : decode cX10_change 92 = .ok (.iload_n 3, 1) := by decide +kernel
theorem dX10_change_93 : decode cX10_change 93 = .ok (.invokevirtual 145, 3) := by decide +kernel
theorem dX10_change_96 : decode cX10_change 96 = .ok (.istore 8, 2) := by decide +kernel
theorem dX10_change_98 : decode cX10_change 98 = .ok (.aload 7, 2) := by decide +kernel
theorem dX10_change_100 : decode cX10_change 100 = .ok (.iload_n 2, 1) := by decide +kernel
theorem dX10_change_101 : decode cX10_change 101 = .ok (.iload_n 3, 1) := by decide +kernel
theorem dX10_change_102 : decode cX10_change 102 = .ok (.iload 4, 2) := by decide +kernel
theorem dX10_change_104 : decode cX10_change 104 = .ok (.invokevirtual 149, 3) := by decide +kernel
theorem dX10_change_107 : decode cX10_change 107 = .ok (.iload 6, 2) := by decide +kernel
theorem dX10_change_109 : decode cX10_change 109 = .ok (.ifCond .eq 11, 3) := by decide +kernel
theorem dX10_change_112 : decode cX10_change 112 = .ok (.aload_n 0, 1) := by decide +kernel
theorem dX10_change_113 : decode cX10_change 113 = .ok (.iload_n 1, 1) := by decide +kernel
theorem dX10_change_114 : decode cX10_change 114 = .ok (.invokevirtual 137, 3) := by decide +kernel
theorem dX10_change_117 : decode cX10_change 117 = .ok (.goto 7, 3) := by decide +kernel
theorem dX10_change_120 : decode cX10_change 120 = .ok (.aload_n 0, 1) := by decide +kernel
theorem dX10_change_121 : decode cX10_change 121 = .ok (.invokevirtual 86, 3) := by decide +kernel
theorem dX10_change_124 : decode cX10_change 124 = .ok (.iload 8, 2) := by decide +kernel
theorem dX10_change_126 : decode cX10_change 126 = .ok (.ireturn, 1) := by decide +kernel
def X10_change_B78 (σ : Mem) (l1 : Int) (l2 : Int) (l3 : Int) (l4 : Int) (l6 : Int) : Option (Int × Mem) :=
  ag 4 l1 fun j1 =>
  bd (X5_fact σ (9 + 3 * j1) l2 l3) fun r2 =>
  bd (X5_put σ (9 + 3 * j1) l2 l3 l4) fun s4 =>
  if w32 l6 = 0 then
    bd (X10_forgetLayings s4) fun s6 =>
    some (r2, s6)
  else
  bd (X10_forgetPart s4 l1) fun s8 =>
  some (r2, s8)
def S_X10_change_78 (fn : Mem → Int → Int → Int → Int → Int → Option (Int × Mem)) (p : Program) (l : Launch) (e : Env) (R : Room) (s : State) (m : MethodId) (args : Array Value) (below : List Frame) (meth : Method) (c : Code) (G : GT) (τ : Mem) (res : Int) : Prop := ∀ (σ : Mem) (H : Heap) (locs : List Loc) (ls : Array Slot) (l1 : Int) (l2 : Int) (l3 : Int) (l4 : Int) (l6 : Int), PW G σ H → va_S (AA G) s.heap H locs → fn σ l1 l2 l3 l4 l6 = some (res, τ) → lv_has ls 9 [(0, .ref (gh G + 0)), (1, .int (i32 l1)), (2, .int (i32 l2)), (3, .int (i32 l3)), (4, .int (i32 l4)), (6, .int (i32 l6))] → W p l e R s m args below meth c H locs 0 0 (MQ below (QM G (some (.int (i32 res))) τ) args s 0 0 (AA G)) (F0 m 78 ls [])
def X10_change_B59 (σ : Mem) (l1 : Int) (l2 : Int) (l3 : Int) (l4 : Int) (l5 : Int) (k0 : Int) : Option (Int × Mem) :=
  if w32 l5 ≠ 0 then
    X10_change_B78 σ l1 l2 l3 l4 k0
  else
  if w32 k0 ≠ 0 then
    X10_change_B78 σ l1 l2 l3 l4 k0
  else
  bd2 (X10_tell σ (-1000001)) fun r1 s2 =>
  some (r1, s2)
def S_X10_change_59 (fn : Mem → Int → Int → Int → Int → Int → Int → Option (Int × Mem)) (p : Program) (l : Launch) (e : Env) (R : Room) (s : State) (m : MethodId) (args : Array Value) (below : List Frame) (meth : Method) (c : Code) (G : GT) (τ : Mem) (res : Int) : Prop := ∀ (σ : Mem) (H : Heap) (locs : List Loc) (ls : Array Slot) (l1 : Int) (l2 : Int) (l3 : Int) (l4 : Int) (l5 : Int) (k0 : Int), PW G σ H → va_S (AA G) s.heap H locs → fn σ l1 l2 l3 l4 l5 k0 = some (res, τ) → lv_has ls 9 [(0, .ref (gh G + 0)), (1, .int (i32 l1)), (2, .int (i32 l2)), (3, .int (i32 l3)), (4, .int (i32 l4)), (5, .int (i32 l5))] → W p l e R s m args below meth c H locs 0 0 (MQ below (QM G (some (.int (i32 res))) τ) args s 0 0 (AA G)) (F0 m 59 ls [.int (i32 k0)])
def X10_change_B58 (σ : Mem) (l1 : Int) (l2 : Int) (l3 : Int) (l4 : Int) (l5 : Int) : Option (Int × Mem) :=
  X10_change_B59 σ l1 l2 l3 l4 l5 0
def S_X10_change_58 (fn : Mem → Int → Int → Int → Int → Int → Option (Int × Mem)) (p : Program) (l : Launch) (e : Env) (R : Room) (s : State) (m : MethodId) (args : Array Value) (below : List Frame) (meth : Method) (c : Code) (G : GT) (τ : Mem) (res : Int) : Prop := ∀ (σ : Mem) (H : Heap) (locs : List Loc) (ls : Array Slot) (l1 : Int) (l2 : Int) (l3 : Int) (l4 : Int) (l5 : Int), PW G σ H → va_S (AA G) s.heap H locs → fn σ l1 l2 l3 l4 l5 = some (res, τ) → lv_has ls 9 [(0, .ref (gh G + 0)), (1, .int (i32 l1)), (2, .int (i32 l2)), (3, .int (i32 l3)), (4, .int (i32 l4)), (5, .int (i32 l5))] → W p l e R s m args below meth c H locs 0 0 (MQ below (QM G (some (.int (i32 res))) τ) args s 0 0 (AA G)) (F0 m 58 ls [])
def X10_change_B36 (σ : Mem) (l1 : Int) (l2 : Int) (l3 : Int) (l4 : Int) (k0 : Int) : Option (Int × Mem) :=
  if w32 l3 ≠ w32 3 then
    X10_change_B58 σ l1 l2 l3 l4 k0
  else
  bd (X10_within σ l4 0 7) fun r1 =>
  if w32 r1 = 0 then
    X10_change_B58 σ l1 l2 l3 l4 k0
  else
  X10_change_B59 σ l1 l2 l3 l4 k0 1
def S_X10_change_36 (fn : Mem → Int → Int → Int → Int → Int → Option (Int × Mem)) (p : Program) (l : Launch) (e : Env) (R : Room) (s : State) (m : MethodId) (args : Array Value) (below : List Frame) (meth : Method) (c : Code) (G : GT) (τ : Mem) (res : Int) : Prop := ∀ (σ : Mem) (H : Heap) (locs : List Loc) (ls : Array Slot) (l1 : Int) (l2 : Int) (l3 : Int) (l4 : Int) (k0 : Int), PW G σ H → va_S (AA G) s.heap H locs → fn σ l1 l2 l3 l4 k0 = some (res, τ) → lv_has ls 9 [(0, .ref (gh G + 0)), (1, .int (i32 l1)), (2, .int (i32 l2)), (3, .int (i32 l3)), (4, .int (i32 l4))] → W p l e R s m args below meth c H locs 0 0 (MQ below (QM G (some (.int (i32 res))) τ) args s 0 0 (AA G)) (F0 m 36 ls [.int (i32 k0)])
def X10_change_B35 (σ : Mem) (l1 : Int) (l2 : Int) (l3 : Int) (l4 : Int) : Option (Int × Mem) :=
  X10_change_B36 σ l1 l2 l3 l4 0
def S_X10_change_35 (fn : Mem → Int → Int → Int → Int → Option (Int × Mem)) (p : Program) (l : Launch) (e : Env) (R : Room) (s : State) (m : MethodId) (args : Array Value) (below : List Frame) (meth : Method) (c : Code) (G : GT) (τ : Mem) (res : Int) : Prop := ∀ (σ : Mem) (H : Heap) (locs : List Loc) (ls : Array Slot) (l1 : Int) (l2 : Int) (l3 : Int) (l4 : Int), PW G σ H → va_S (AA G) s.heap H locs → fn σ l1 l2 l3 l4 = some (res, τ) → lv_has ls 9 [(0, .ref (gh G + 0)), (1, .int (i32 l1)), (2, .int (i32 l2)), (3, .int (i32 l3)), (4, .int (i32 l4))] → W p l e R s m args below meth c H locs 0 0 (MQ below (QM G (some (.int (i32 res))) τ) args s 0 0 (AA G)) (F0 m 35 ls [])
def X10_change (σ : Mem) (l1 : Int) (l2 : Int) (l3 : Int) (l4 : Int) : Option (Int × Mem) :=
  bd (X10_isBar σ l1 l2) fun r1 =>
  if w32 r1 ≠ 0 then
    if w32 l3 ≠ w32 1 then
      X10_change_B35 σ l1 l2 l3 l4
    else
    bd (X10_within σ l4 0 2) fun r2 =>
    if w32 r2 = 0 then
      X10_change_B35 σ l1 l2 l3 l4
    else
    X10_change_B36 σ l1 l2 l3 l4 1
  else
  bd2 (X10_tell σ (-1000001)) fun r3 s4 =>
  some (r3, s4)
def S_X10_change_0 (fn : Mem → Int → Int → Int → Int → Option (Int × Mem)) (p : Program) (l : Launch) (e : Env) (R : Room) (s : State) (m : MethodId) (args : Array Value) (below : List Frame) (meth : Method) (c : Code) (G : GT) (τ : Mem) (res : Int) : Prop := ∀ (σ : Mem) (H : Heap) (locs : List Loc) (ls : Array Slot) (l1 : Int) (l2 : Int) (l3 : Int) (l4 : Int), PW G σ H → va_S (AA G) s.heap H locs → fn σ l1 l2 l3 l4 = some (res, τ) → lv_has ls 9 [(0, .ref (gh G + 0)), (1, .int (i32 l1)), (2, .int (i32 l2)), (3, .int (i32 l3)), (4, .int (i32 l4))] → W p l e R s m args below meth c H locs 0 0 (MQ below (QM G (some (.int (i32 res))) τ) args s 0 0 (AA G)) (F0 m 0 ls [])
set_option maxHeartbeats 4000000 in
theorem a_X10_change_78 {p : Program} {l : Launch} {e : Env} {R : Room} {s : State} {m : MethodId} {args : Array Value} {below : List Frame} {meth : Method} {c : Code} {G : GT} {τ : Mem} {res : Int} (X : CX p R s m args meth c cX10_change 9 RX10 (some FieldType.int) 4 124 G) : S_X10_change_78 (X10_change_B78) p l e R s m args below meth c G τ res := by
  intro σ H locs ls l1 l2 l3 l4 l6 hP hS hf hl
  unfold X10_change_B78 at hf
  refine lv_aload_n X.1 X.2.1 dX10_change_78 rfl (lv_at hl 0 rfl) ?_
  refine g_10_0 (r := 1) X hP ks_10 rfl (tb t_388 rfl) dX10_change_79 ?_
  refine g_7_0 (r := 2) X hP (ch_10_0 ks_10).1 rfl (tb t_170 rfl) dX10_change_82 ?_
  refine lv_iload_n X.1 X.2.1 dX10_change_85 rfl (lv_at hl 1 rfl) ?_
  obtain ⟨j1, hij1, hjj1, hlj1, hf⟩ := ag_inv hf
  refine r_aald18 (r := 9 + 3 * j1) X hP (ch_7_0 (ch_10_0 ks_10).1).1 (ch_7_0 (ch_10_0 ks_10).1).2 hij1 hjj1 rfl dX10_change_86 ?_
  refine lv_astore (lv' := [(7, .ref (gh G + (9 + 3 * j1))), (0, .ref (gh G + 0)), (1, .int (i32 l1)), (2, .int (i32 l2)), (3, .int (i32 l3)), (4, .int (i32 l4)), (6, .int (i32 l6))]) X.1 X.2.1 dX10_change_87 hl (by decide) rfl (fun ls hl => ?_)
  refine lv_aload X.1 X.2.1 dX10_change_89 (lv_at hl 0 rfl) ?_
  refine lv_iload_n X.1 X.2.1 dX10_change_91 rfl (lv_at hl 3 rfl) ?_
  refine lv_iload_n X.1 X.2.1 dX10_change_92 rfl (lv_at hl 4 rfl) ?_
  obtain ⟨r2, hr2, hf⟩ := bd_inv hf
  refine k_X5_fact X hP hS hl.1 ((ch_18 (ch_7_0 (ch_10_0 ks_10).1).1).2 j1 hlj1) hr2 (tb t_640 rfl) (by decide) (Nat.le_of_ble_eq_true rfl) dX10_change_93 (fun H locs hP hS => ?_)
  refine lv_istore (lv' := [(8, .int (i32 r2)), (7, .ref (gh G + (9 + 3 * j1))), (0, .ref (gh G + 0)), (1, .int (i32 l1)), (2, .int (i32 l2)), (3, .int (i32 l3)), (4, .int (i32 l4)), (6, .int (i32 l6))]) X.1 X.2.1 dX10_change_96 hl (by decide) rfl (fun ls hl => ?_)
  refine lv_aload X.1 X.2.1 dX10_change_98 (lv_at hl 1 rfl) ?_
  refine lv_iload_n X.1 X.2.1 dX10_change_100 rfl (lv_at hl 4 rfl) ?_
  refine lv_iload_n X.1 X.2.1 dX10_change_101 rfl (lv_at hl 5 rfl) ?_
  refine lv_iload X.1 X.2.1 dX10_change_102 (lv_at hl 6 rfl) ?_
  obtain ⟨s4, hr3, hf⟩ := bd_inv hf
  refine k_X5_put X hP hS hl.1 ((ch_18 (ch_7_0 (ch_10_0 ks_10).1).1).2 j1 hlj1) hr3 (tb t_648 rfl) (by decide) (Nat.le_of_ble_eq_true rfl) dX10_change_104 (fun H locs hP hS => ?_)
  refine lv_iload X.1 X.2.1 dX10_change_107 (lv_at hl 7 rfl) ?_
  refine r_if_eq (tgt := 120) X dX10_change_109 (by decide) (fun q => ?_) (fun q => ?_)
  · replace hf := it_inv q hf
    refine lv_aload_n X.1 X.2.1 dX10_change_120 rfl (lv_at hl 2 rfl) ?_
    obtain ⟨s6, hr5, hf⟩ := bd_inv hf
    refine k_X10_forgetLayings X hP hS hl.1  hr5 (tb t_435 rfl) (by decide) (Nat.le_of_ble_eq_true rfl) dX10_change_121 (fun H locs hP hS => ?_)
    refine lv_iload X.1 X.2.1 dX10_change_124 (lv_at hl 0 rfl) ?_
    obtain ⟨rfl, rfl⟩ := so2_inv hf
    exact r_iret X hP hS dX10_change_126
  · replace hf := ie_inv q hf
    refine lv_aload_n X.1 X.2.1 dX10_change_112 rfl (lv_at hl 2 rfl) ?_
    refine lv_iload_n X.1 X.2.1 dX10_change_113 rfl (lv_at hl 3 rfl) ?_
    obtain ⟨s8, hr7, hf⟩ := bd_inv hf
    refine k_X10_forgetPart X hP hS hl.1  hr7 (tb t_451 rfl) (by decide) (Nat.le_of_ble_eq_true rfl) dX10_change_114 (fun H locs hP hS => ?_)
    refine lv_goto (tgt := 124) X.1 X.2.1 dX10_change_117 (by decide) ?_
    refine lv_iload X.1 X.2.1 dX10_change_124 (lv_at hl 0 rfl) ?_
    obtain ⟨rfl, rfl⟩ := so2_inv hf
    exact r_iret X hP hS dX10_change_126
set_option maxHeartbeats 4000000 in
theorem a_X10_change_59 {p : Program} {l : Launch} {e : Env} {R : Room} {s : State} {m : MethodId} {args : Array Value} {below : List Frame} {meth : Method} {c : Code} {G : GT} {τ : Mem} {res : Int} (X : CX p R s m args meth c cX10_change 9 RX10 (some FieldType.int) 4 124 G) : S_X10_change_59 (X10_change_B59) p l e R s m args below meth c G τ res := by
  intro σ H locs ls l1 l2 l3 l4 l5 k0 hP hS hf hl
  unfold X10_change_B59 at hf
  refine lv_istore (lv' := [(6, .int (i32 k0)), (0, .ref (gh G + 0)), (1, .int (i32 l1)), (2, .int (i32 l2)), (3, .int (i32 l3)), (4, .int (i32 l4)), (5, .int (i32 l5))]) X.1 X.2.1 dX10_change_59 hl (by decide) rfl (fun ls hl => ?_)
  refine lv_iload X.1 X.2.1 dX10_change_61 (lv_at hl 6 rfl) ?_
  refine r_if_ne (tgt := 78) X dX10_change_63 (by decide) (fun q => ?_) (fun q => ?_)
  · replace hf := it_inv q hf
    exact a_X10_change_78 X σ H locs ls l1 l2 l3 l4 k0 hP hS hf (lv_sub hl [1, 2, 3, 4, 5, 0] rfl)
  · replace hf := ie_inv q hf
    refine lv_iload X.1 X.2.1 dX10_change_66 (lv_at hl 0 rfl) ?_
    refine r_if_ne (tgt := 78) X dX10_change_68 (by decide) (fun q => ?_) (fun q => ?_)
    · replace hf := it_inv q hf
      exact a_X10_change_78 X σ H locs ls l1 l2 l3 l4 k0 hP hS hf (lv_sub hl [1, 2, 3, 4, 5, 0] rfl)
    · replace hf := ie_inv q hf
      refine lv_aload_n X.1 X.2.1 dX10_change_71 rfl (lv_at hl 1 rfl) ?_
      refine r_ldc X (-1000001) (tb t_430 rfl) (by decide) dX10_change_72 ?_
      obtain ⟨r1, s2, hr1, hf⟩ := bd2_inv hf
      refine k_X10_tell X hP hS hl.1  hr1 (tb t_431 rfl) (by decide) (Nat.le_of_ble_eq_true rfl) dX10_change_74 (fun H locs hP hS => ?_)
      obtain ⟨rfl, rfl⟩ := so2_inv hf
      exact r_iret X hP hS dX10_change_77
set_option maxHeartbeats 4000000 in
theorem a_X10_change_58 {p : Program} {l : Launch} {e : Env} {R : Room} {s : State} {m : MethodId} {args : Array Value} {below : List Frame} {meth : Method} {c : Code} {G : GT} {τ : Mem} {res : Int} (X : CX p R s m args meth c cX10_change 9 RX10 (some FieldType.int) 4 124 G) : S_X10_change_58 (X10_change_B58) p l e R s m args below meth c G τ res := by
  intro σ H locs ls l1 l2 l3 l4 l5 hP hS hf hl
  unfold X10_change_B58 at hf
  refine r_iconst X 0 dX10_change_58 ?_
  exact a_X10_change_59 X σ H locs ls l1 l2 l3 l4 l5 0 hP hS hf hl
set_option maxHeartbeats 4000000 in
theorem a_X10_change_36 {p : Program} {l : Launch} {e : Env} {R : Room} {s : State} {m : MethodId} {args : Array Value} {below : List Frame} {meth : Method} {c : Code} {G : GT} {τ : Mem} {res : Int} (X : CX p R s m args meth c cX10_change 9 RX10 (some FieldType.int) 4 124 G) : S_X10_change_36 (X10_change_B36) p l e R s m args below meth c G τ res := by
  intro σ H locs ls l1 l2 l3 l4 k0 hP hS hf hl
  unfold X10_change_B36 at hf
  refine lv_istore (lv' := [(5, .int (i32 k0)), (0, .ref (gh G + 0)), (1, .int (i32 l1)), (2, .int (i32 l2)), (3, .int (i32 l3)), (4, .int (i32 l4))]) X.1 X.2.1 dX10_change_36 hl (by decide) rfl (fun ls hl => ?_)
  refine lv_iload_n X.1 X.2.1 dX10_change_38 rfl (lv_at hl 4 rfl) ?_
  refine r_iconst X 3 dX10_change_39 ?_
  refine r_icmp_ne (tgt := 58) X dX10_change_40 (by decide) (fun q => ?_) (fun q => ?_)
  · replace hf := it_inv q hf
    exact a_X10_change_58 X σ H locs ls l1 l2 l3 l4 k0 hP hS hf (lv_sub hl [1, 2, 3, 4, 5, 0] rfl)
  · replace hf := ie_inv q hf
    refine lv_iload X.1 X.2.1 dX10_change_43 (lv_at hl 5 rfl) ?_
    refine r_iconst X 0 dX10_change_45 ?_
    refine r_bipush X 7 (by decide) dX10_change_46 ?_
    obtain ⟨r1, hr1, hf⟩ := bd_inv hf
    refine k_X10_within X hP hS hl.1  hr1 (tb t_423 rfl) (by decide) (Nat.le_of_ble_eq_true rfl) dX10_change_48 (fun H locs hP hS => ?_)
    refine r_if_eq (tgt := 58) X dX10_change_51 (by decide) (fun q => ?_) (fun q => ?_)
    · replace hf := it_inv q hf
      exact a_X10_change_58 X σ H locs ls l1 l2 l3 l4 k0 hP hS hf (lv_sub hl [1, 2, 3, 4, 5, 0] rfl)
    · replace hf := ie_inv q hf
      refine r_iconst X 1 dX10_change_54 ?_
      refine lv_goto (tgt := 59) X.1 X.2.1 dX10_change_55 (by decide) ?_
      exact a_X10_change_59 X σ H locs ls l1 l2 l3 l4 k0 1 hP hS hf (lv_sub hl [1, 2, 3, 4, 5, 0] rfl)
set_option maxHeartbeats 4000000 in
theorem a_X10_change_35 {p : Program} {l : Launch} {e : Env} {R : Room} {s : State} {m : MethodId} {args : Array Value} {below : List Frame} {meth : Method} {c : Code} {G : GT} {τ : Mem} {res : Int} (X : CX p R s m args meth c cX10_change 9 RX10 (some FieldType.int) 4 124 G) : S_X10_change_35 (X10_change_B35) p l e R s m args below meth c G τ res := by
  intro σ H locs ls l1 l2 l3 l4 hP hS hf hl
  unfold X10_change_B35 at hf
  refine r_iconst X 0 dX10_change_35 ?_
  exact a_X10_change_36 X σ H locs ls l1 l2 l3 l4 0 hP hS hf hl
set_option maxHeartbeats 4000000 in
theorem a_X10_change_0 {p : Program} {l : Launch} {e : Env} {R : Room} {s : State} {m : MethodId} {args : Array Value} {below : List Frame} {meth : Method} {c : Code} {G : GT} {τ : Mem} {res : Int} (X : CX p R s m args meth c cX10_change 9 RX10 (some FieldType.int) 4 124 G) : S_X10_change_0 (X10_change) p l e R s m args below meth c G τ res := by
  intro σ H locs ls l1 l2 l3 l4 hP hS hf hl
  unfold X10_change at hf
  refine lv_aload_n X.1 X.2.1 dX10_change_0 rfl (lv_at hl 0 rfl) ?_
  refine lv_iload_n X.1 X.2.1 dX10_change_1 rfl (lv_at hl 1 rfl) ?_
  refine lv_iload_n X.1 X.2.1 dX10_change_2 rfl (lv_at hl 2 rfl) ?_
  obtain ⟨r1, hr1, hf⟩ := bd_inv hf
  refine k_X10_isBar X hP hS hl.1  hr1 (tb t_632 rfl) (by decide) (Nat.le_of_ble_eq_true rfl) dX10_change_3 (fun H locs hP hS => ?_)
  refine r_if_ne (tgt := 16) X dX10_change_6 (by decide) (fun q => ?_) (fun q => ?_)
  · replace hf := it_inv q hf
    refine lv_iload_n X.1 X.2.1 dX10_change_16 rfl (lv_at hl 3 rfl) ?_
    refine r_iconst X 1 dX10_change_17 ?_
    refine r_icmp_ne (tgt := 35) X dX10_change_18 (by decide) (fun q => ?_) (fun q => ?_)
    · replace hf := it_inv q hf
      exact a_X10_change_35 X σ H locs ls l1 l2 l3 l4 hP hS hf hl
    · replace hf := ie_inv q hf
      refine lv_iload X.1 X.2.1 dX10_change_21 (lv_at hl 4 rfl) ?_
      refine r_iconst X 0 dX10_change_23 ?_
      refine r_iconst X 2 dX10_change_24 ?_
      obtain ⟨r2, hr2, hf⟩ := bd_inv hf
      refine k_X10_within X hP hS hl.1  hr2 (tb t_423 rfl) (by decide) (Nat.le_of_ble_eq_true rfl) dX10_change_25 (fun H locs hP hS => ?_)
      refine r_if_eq (tgt := 35) X dX10_change_28 (by decide) (fun q => ?_) (fun q => ?_)
      · replace hf := it_inv q hf
        exact a_X10_change_35 X σ H locs ls l1 l2 l3 l4 hP hS hf hl
      · replace hf := ie_inv q hf
        refine r_iconst X 1 dX10_change_31 ?_
        refine lv_goto (tgt := 36) X.1 X.2.1 dX10_change_32 (by decide) ?_
        exact a_X10_change_36 X σ H locs ls l1 l2 l3 l4 1 hP hS hf hl
  · replace hf := ie_inv q hf
    refine lv_aload_n X.1 X.2.1 dX10_change_9 rfl (lv_at hl 0 rfl) ?_
    refine r_ldc X (-1000001) (tb t_430 rfl) (by decide) dX10_change_10 ?_
    obtain ⟨r3, s4, hr3, hf⟩ := bd2_inv hf
    refine k_X10_tell X hP hS hl.1  hr3 (tb t_431 rfl) (by decide) (Nat.le_of_ble_eq_true rfl) dX10_change_12 (fun H locs hP hS => ?_)
    obtain ⟨rfl, rfl⟩ := so2_inv hf
    exact r_iret X hP hS dX10_change_15
set_option maxHeartbeats 4000000 in
theorem c_X10_change {l : Launch} {G : GT} {σ τ : Mem} {res : Int} {l1 : Int} {l2 : Int} {l3 : Int} {l4 : Int} (hf : X10_change σ l1 l2 l3 l4 = some (res, τ)) : CT l yX10_change cX10_change 9 (some FieldType.int) 4 124 G [.ref (gh G + 0), .int (i32 l1), .int (i32 l2), .int (i32 l3), .int (i32 l4)] σ τ (some (.int (i32 res))) := by
  refine CT.mk (own := RX10) (by decide) rfl (Nat.le_of_ble_eq_true rfl) ?_
  intro p e s m below meth c ls X hP hS hl
  have hl : lv_has ls 9 [(0, .ref (gh G + 0)), (1, .int (i32 l1)), (2, .int (i32 l2)), (3, .int (i32 l3)), (4, .int (i32 l4))] := hl
  exact a_X10_change_0 X σ s.heap [] ls l1 l2 l3 l4 hP hS hf hl
theorem k_X10_change {p : Program} {l : Launch} {e : Env} {R : Room} {s : State} {m : MethodId} {args : Array Value} {below : List Frame} {meth : Method} {c : Code} {H : Heap} {locs : List Loc} {Q : State → Prop} {cc : ByteArray} {nL : Nat} {own : String} {ret : Option FieldType} {fF fL : Nat} {G : GT} {pc idx : Nat} {ls : Array Slot} {rest : List Value} {σ τ : Mem} {res : Int} {l1 : Int} {l2 : Int} {l3 : Int} {l4 : Int} (X : CX p R s m args meth c cc nL own ret fF fL G) (hP : PW G σ H) (hS : va_S (AA G) s.heap H locs) (hls : ls.size = nL) (hf : X10_change σ l1 l2 l3 l4 = some (res, τ)) (h1 : Cond.methodLink own idx yX10_change ∈ TB) (hR : 4 + 1 ≤ fF ∧ 8 + (9 + 11) + 124 ≤ fL) (hW : (rest.map fun v => v.category).sum ≤ 8) (hd : decode cc pc = .ok (.invokevirtual idx, 3)) (kk : ∀ (H1 : Heap) (locs1 : List Loc), PW G τ H1 → va_S (AA G) s.heap H1 locs1 → W p l e R s m args below meth c H1 locs1 0 0 Q (F0 m (pc + 3) ls (.int (i32 res) :: rest))) : W p l e R s m args below meth c H locs 0 0 Q (F0 m pc ls (.int (i32 l4) :: .int (i32 l3) :: .int (i32 l2) :: .int (i32 l1) :: .ref (gh G + 0) :: rest)) := r_callV (n := 4) X hP hS hls (c_X10_change hf) h1 (tb t_645 rfl) (tb t_646 rfl) (tb t_75 rfl) (tb t_647 rfl) (by decide +kernel) hR (r_recv X hP (kd_lt ks_10 (by decide)) (cE_10 ks_10) rfl) rfl rfl hW hd kk
/-! X10_clear -/
theorem dX10_clear_0 : decode cX10_clear 0 = .ok (.iload_n 1, 1) := by decide +kernel
theorem dX10_clear_1 : decode cX10_clear 1 = .ok (.invokestatic 58, 3) := by decide +kernel
theorem dX10_clear_4 : decode cX10_clear 4 = .ok (.ifCond .eq 17, 3) := by decide +kernel
theorem dX10_clear_7 : decode cX10_clear 7 = .ok (.aload_n 0, 1) := by decide +kernel
theorem dX10_clear_8 : decode cX10_clear 8 = .ok (.getfield 10, 3) := by decide +kernel
theorem dX10_clear_11 : decode cX10_clear 11 = .ok (.getfield 152, 3) := by decide +kernel
theorem dX10_clear_14 : decode cX10_clear 14 = .ok (.iload_n 1, 1) := by decide +kernel
theorem dX10_clear_15 : decode cX10_clear 15 = .ok (.invokevirtual 284, 3) := by decide +kernel
theorem dX10_clear_18 : decode cX10_clear 18 = .ok (.goto 9, 3) := by decide +kernel
theorem dX10_clear_21 : decode cX10_clear 21 = .ok (.aload_n 0, 1) := by decide +kernel
theorem dX10_clear_22 : decode cX10_clear 22 = .ok (.ldc 72, 2) := by decide +kernel
theorem dX10_clear_24 : decode cX10_clear 24 = .ok (.invokevirtual 73, 3) := by decide +kernel
theorem dX10_clear_27 : decode cX10_clear 27 = .ok (.ireturn, 1) := by decide +kernel
def X10_clear (σ : Mem) (l1 : Int) : Option (Int × Mem) :=
  bd (X10_isPart σ l1) fun r1 =>
  if w32 r1 = 0 then
    bd2 (X10_tell σ (-1000001)) fun r2 s3 =>
    some (r2, s3)
  else
  bd2 (X0_dropPart σ 4 l1) fun r4 s5 =>
  some (r4, s5)
def S_X10_clear_0 (fn : Mem → Int → Option (Int × Mem)) (p : Program) (l : Launch) (e : Env) (R : Room) (s : State) (m : MethodId) (args : Array Value) (below : List Frame) (meth : Method) (c : Code) (G : GT) (τ : Mem) (res : Int) : Prop := ∀ (σ : Mem) (H : Heap) (locs : List Loc) (ls : Array Slot) (l1 : Int), PW G σ H → va_S (AA G) s.heap H locs → fn σ l1 = some (res, τ) → lv_has ls 2 [(0, .ref (gh G + 0)), (1, .int (i32 l1))] → W p l e R s m args below meth c H locs 0 0 (MQ below (QM G (some (.int (i32 res))) τ) args s 0 0 (AA G)) (F0 m 0 ls [])
set_option maxHeartbeats 4000000 in
theorem a_X10_clear_0 {p : Program} {l : Launch} {e : Env} {R : Room} {s : State} {m : MethodId} {args : Array Value} {below : List Frame} {meth : Method} {c : Code} {G : GT} {τ : Mem} {res : Int} (X : CX p R s m args meth c cX10_clear 2 RX10 (some FieldType.int) 3 107 G) : S_X10_clear_0 (X10_clear) p l e R s m args below meth c G τ res := by
  intro σ H locs ls l1 hP hS hf hl
  unfold X10_clear at hf
  refine lv_iload_n X.1 X.2.1 dX10_clear_0 rfl (lv_at hl 1 rfl) ?_
  obtain ⟨r1, hr1, hf⟩ := bd_inv hf
  refine k_X10_isPart X hP hS hl.1  hr1 (tb t_420 rfl) (by decide) (Nat.le_of_ble_eq_true rfl) dX10_clear_1 (fun H locs hP hS => ?_)
  refine r_if_eq (tgt := 21) X dX10_clear_4 (by decide) (fun q => ?_) (fun q => ?_)
  · replace hf := it_inv q hf
    refine lv_aload_n X.1 X.2.1 dX10_clear_21 rfl (lv_at hl 0 rfl) ?_
    refine r_ldc X (-1000001) (tb t_430 rfl) (by decide) dX10_clear_22 ?_
    obtain ⟨r2, s3, hr2, hf⟩ := bd2_inv hf
    refine k_X10_tell X hP hS hl.1  hr2 (tb t_431 rfl) (by decide) (Nat.le_of_ble_eq_true rfl) dX10_clear_24 (fun H locs hP hS => ?_)
    obtain ⟨rfl, rfl⟩ := so2_inv hf
    exact r_iret X hP hS dX10_clear_27
  · replace hf := ie_inv q hf
    refine lv_aload_n X.1 X.2.1 dX10_clear_7 rfl (lv_at hl 0 rfl) ?_
    refine g_10_0 (r := 1) X hP ks_10 rfl (tb t_388 rfl) dX10_clear_8 ?_
    refine g_7_2 (r := 4) X hP (ch_10_0 ks_10).1 rfl (tb t_174 rfl) dX10_clear_11 ?_
    refine lv_iload_n X.1 X.2.1 dX10_clear_14 rfl (lv_at hl 1 rfl) ?_
    obtain ⟨r4, s5, hr4, hf⟩ := bd2_inv hf
    refine k_X0_dropPart X hP hS hl.1 (ch_7_2 (ch_10_0 ks_10).1).1 hr4 (tb t_954 rfl) (by decide) (Nat.le_of_ble_eq_true rfl) dX10_clear_15 (fun H locs hP hS => ?_)
    refine lv_goto (tgt := 27) X.1 X.2.1 dX10_clear_18 (by decide) ?_
    obtain ⟨rfl, rfl⟩ := so2_inv hf
    exact r_iret X hP hS dX10_clear_27
set_option maxHeartbeats 4000000 in
theorem c_X10_clear {l : Launch} {G : GT} {σ τ : Mem} {res : Int} {l1 : Int} (hf : X10_clear σ l1 = some (res, τ)) : CT l yX10_clear cX10_clear 2 (some FieldType.int) 3 107 G [.ref (gh G + 0), .int (i32 l1)] σ τ (some (.int (i32 res))) := by
  refine CT.mk (own := RX10) (by decide) rfl (Nat.le_of_ble_eq_true rfl) ?_
  intro p e s m below meth c ls X hP hS hl
  have hl : lv_has ls 2 [(0, .ref (gh G + 0)), (1, .int (i32 l1))] := hl
  exact a_X10_clear_0 X σ s.heap [] ls l1 hP hS hf hl
theorem k_X10_clear {p : Program} {l : Launch} {e : Env} {R : Room} {s : State} {m : MethodId} {args : Array Value} {below : List Frame} {meth : Method} {c : Code} {H : Heap} {locs : List Loc} {Q : State → Prop} {cc : ByteArray} {nL : Nat} {own : String} {ret : Option FieldType} {fF fL : Nat} {G : GT} {pc idx : Nat} {ls : Array Slot} {rest : List Value} {σ τ : Mem} {res : Int} {l1 : Int} (X : CX p R s m args meth c cc nL own ret fF fL G) (hP : PW G σ H) (hS : va_S (AA G) s.heap H locs) (hls : ls.size = nL) (hf : X10_clear σ l1 = some (res, τ)) (h1 : Cond.methodLink own idx yX10_clear ∈ TB) (hR : 3 + 1 ≤ fF ∧ 8 + (2 + 11) + 107 ≤ fL) (hW : (rest.map fun v => v.category).sum ≤ 8) (hd : decode cc pc = .ok (.invokevirtual idx, 3)) (kk : ∀ (H1 : Heap) (locs1 : List Loc), PW G τ H1 → va_S (AA G) s.heap H1 locs1 → W p l e R s m args below meth c H1 locs1 0 0 Q (F0 m (pc + 3) ls (.int (i32 res) :: rest))) : W p l e R s m args below meth c H locs 0 0 Q (F0 m pc ls (.int (i32 l1) :: .ref (gh G + 0) :: rest)) := r_callV (n := 1) X hP hS hls (c_X10_clear hf) h1 (tb t_951 rfl) (tb t_952 rfl) (tb t_75 rfl) (tb t_953 rfl) (by decide +kernel) hR (r_recv X hP (kd_lt ks_10 (by decide)) (cE_10 ks_10) rfl) rfl rfl hW hd kk
/-! X10_isSheet -/
theorem dX10_isSheet_0 : decode cX10_isSheet 0 = .ok (.iload_n 0, 1) := by decide +kernel
theorem dX10_isSheet_1 : decode cX10_isSheet 1 = .ok (.iconst 0, 1) := by decide +kernel
theorem dX10_isSheet_2 : decode cX10_isSheet 2 = .ok (.iconst 3, 1) := by decide +kernel
theorem dX10_isSheet_3 : decode cX10_isSheet 3 = .ok (.invokestatic 62, 3) := by decide +kernel
theorem dX10_isSheet_6 : decode cX10_isSheet 6 = .ok (.ireturn, 1) := by decide +kernel
def X10_isSheet (σ : Mem) (l0 : Int) : Option (Int) :=
  bd (X10_within σ l0 0 3) fun r1 =>
  bg r1 <|
  some r1
def S_X10_isSheet_0 (fn : Int → Option (Int)) (p : Program) (l : Launch) (e : Env) (R : Room) (s : State) (m : MethodId) (args : Array Value) (below : List Frame) (meth : Method) (c : Code) (G : GT) (σ : Mem) (res : Int) : Prop := ∀ (H : Heap) (locs : List Loc) (ls : Array Slot) (l0 : Int), PW G σ H → va_S (AA G) s.heap H locs → fn l0 = some res → lv_has ls 1 [(0, .int (i32 l0))] → W p l e R s m args below meth c H locs 0 0 (MQ below (QM G (some (.int (i32 res))) σ) args s 0 0 (AA G)) (F0 m 0 ls [])
set_option maxHeartbeats 4000000 in
theorem a_X10_isSheet_0 {p : Program} {l : Launch} {e : Env} {R : Room} {s : State} {m : MethodId} {args : Array Value} {below : List Frame} {meth : Method} {c : Code} {G : GT} {σ : Mem} {res : Int} (X : CX p R s m args meth c cX10_isSheet 1 RX10 (some FieldType.boolean) 2 82 G) : S_X10_isSheet_0 (X10_isSheet σ) p l e R s m args below meth c G σ res := by
  intro H locs ls l0 hP hS hf hl
  unfold X10_isSheet at hf
  refine lv_iload_n X.1 X.2.1 dX10_isSheet_0 rfl (lv_at hl 0 rfl) ?_
  refine r_iconst X 0 dX10_isSheet_1 ?_
  refine r_iconst X 3 dX10_isSheet_2 ?_
  obtain ⟨r1, hr1, hf⟩ := bd_inv hf
  refine k_X10_within X hP hS hl.1  hr1 (tb t_423 rfl) (by decide) (Nat.le_of_ble_eq_true rfl) dX10_isSheet_3 (fun H locs hP hS => ?_)
  obtain ⟨hb2, hf⟩ := bg_inv hf
  cases so_inv hf
  exact r_zret X hP hS hb2 dX10_isSheet_6
set_option maxHeartbeats 4000000 in
theorem c_X10_isSheet {l : Launch} {G : GT} {σ : Mem} {res : Int} {l0 : Int} (hf : X10_isSheet σ l0 = some res) : CT l yX10_isSheet cX10_isSheet 1 (some FieldType.boolean) 2 82 G [.int (i32 l0)] σ σ (some (.int (i32 res))) := by
  refine CT.mk (own := RX10) (by decide) rfl (Nat.le_of_ble_eq_true rfl) ?_
  intro p e s m below meth c ls X hP hS hl
  have hl : lv_has ls 1 [(0, .int (i32 l0))] := hl
  exact a_X10_isSheet_0 X  s.heap [] ls l0 hP hS hf hl
theorem k_X10_isSheet {p : Program} {l : Launch} {e : Env} {R : Room} {s : State} {m : MethodId} {args : Array Value} {below : List Frame} {meth : Method} {c : Code} {H : Heap} {locs : List Loc} {Q : State → Prop} {cc : ByteArray} {nL : Nat} {own : String} {ret : Option FieldType} {fF fL : Nat} {G : GT} {pc idx : Nat} {ls : Array Slot} {rest : List Value} {σ : Mem} {res : Int} {l0 : Int} (X : CX p R s m args meth c cc nL own ret fF fL G) (hP : PW G σ H) (hS : va_S (AA G) s.heap H locs) (hls : ls.size = nL) (hf : X10_isSheet σ l0 = some res) (h1 : Cond.methodLink own idx yX10_isSheet ∈ TB) (hR : 2 + 1 ≤ fF ∧ 8 + (1 + 11) + 82 ≤ fL) (hW : (rest.map fun v => v.category).sum ≤ 8) (hd : decode cc pc = .ok (.invokestatic idx, 3)) (kk : ∀ (H1 : Heap) (locs1 : List Loc), PW G σ H1 → va_S (AA G) s.heap H1 locs1 → W p l e R s m args below meth c H1 locs1 0 0 Q (F0 m (pc + 3) ls (.int (i32 res) :: rest))) : W p l e R s m args below meth c H locs 0 0 Q (F0 m pc ls (.int (i32 l0) :: rest)) := r_callS (n := 1) X hP hS hls (c_X10_isSheet hf) h1 (tb t_998 rfl) (tb t_75 rfl) (tb t_999 rfl) (by decide +kernel) hR rfl rfl hW hd kk
theorem kn_X10_isSheet {p : Program} {l : Launch} {e : Env} {R : Room} {s : State} {m : MethodId} {args : Array Value} {below : List Frame} {meth : Method} {c : Code} {H : Heap} {locs : List Loc} {Q : State → Prop} {cc : ByteArray} {nL : Nat} {own : String} {ret : Option FieldType} {fF fL : Nat} {G : GT} {pc idx : Nat} {ls : Array Slot} {rest : List Value} {σ : Mem} {res : Int} {l0 : Int} (X : CX p R s m args meth c cc nL own ret fF fL G) (hP : PW G σ H) (hS : va_S (AA G) s.heap H locs) (hls : ls.size = nL) (hf : X10_isSheet σ l0 = some res) {host : String} (h1 : Cond.methodLinkNest own idx yX10_isSheet host ∈ NWl) (hR : 2 + 1 ≤ fF ∧ 8 + (1 + 11) + 82 ≤ fL) (hW : (rest.map fun v => v.category).sum ≤ 8) (hd : decode cc pc = .ok (.invokestatic idx, 3)) (kk : ∀ (H1 : Heap) (locs1 : List Loc), PW G σ H1 → va_S (AA G) s.heap H1 locs1 → W p l e R s m args below meth c H1 locs1 0 0 Q (F0 m (pc + 3) ls (.int (i32 res) :: rest))) : W p l e R s m args below meth c H locs 0 0 Q (F0 m pc ls (.int (i32 l0) :: rest)) := r_callSN (n := 1) X hP hS hls (c_X10_isSheet hf) h1 (tb t_998 rfl) (tb t_75 rfl) (tb t_999 rfl) (by decide +kernel) hR rfl rfl hW hd kk
/-! X6_isMissing -/
theorem dX6_isMissing_0 : decode cX6_isMissing 0 = .ok (.aload_n 0, 1) := by decide +kernel
theorem dX6_isMissing_1 : decode cX6_isMissing 1 = .ok (.getfield 15, 3) := by decide +kernel
theorem dX6_isMissing_4 : decode cX6_isMissing 4 = .ok (.ifCond .ne 7, 3) := by decide +kernel
theorem dX6_isMissing_7 : decode cX6_isMissing 7 = .ok (.iconst 1, 1) := by decide +kernel
theorem dX6_isMissing_8 : decode cX6_isMissing 8 = .ok (.goto 4, 3) := by decide +kernel
theorem dX6_isMissing_11 : decode cX6_isMissing 11 = .ok (.iconst 0, 1) := by decide +kernel
theorem dX6_isMissing_12 : decode cX6_isMissing 12 = .ok (.ireturn, 1) := by decide +kernel
def X6_isMissing (σ : Mem) (l0 : Nat) : Option (Int) :=
  if w32 (σ l0 1) ≠ 0 then
    some 0
  else
  some 1
def S_X6_isMissing_0 (fn : Nat → Option (Int)) (p : Program) (l : Launch) (e : Env) (R : Room) (s : State) (m : MethodId) (args : Array Value) (below : List Frame) (meth : Method) (c : Code) (G : GT) (σ : Mem) (res : Int) : Prop := ∀ (H : Heap) (locs : List Loc) (ls : Array Slot) (l0 : Nat), kd l0 = 6 → PW G σ H → va_S (AA G) s.heap H locs → fn l0 = some res → lv_has ls 1 [(0, .ref (gh G + l0))] → W p l e R s m args below meth c H locs 0 0 (MQ below (QM G (some (.int (i32 res))) σ) args s 0 0 (AA G)) (F0 m 0 ls [])
set_option maxHeartbeats 4000000 in
theorem a_X6_isMissing_0 {p : Program} {l : Launch} {e : Env} {R : Room} {s : State} {m : MethodId} {args : Array Value} {below : List Frame} {meth : Method} {c : Code} {G : GT} {σ : Mem} {res : Int} (X : CX p R s m args meth c cX6_isMissing 1 RX6 (some FieldType.boolean) 1 60 G) : S_X6_isMissing_0 (X6_isMissing σ) p l e R s m args below meth c G σ res := by
  intro H locs ls l0 hk_l0 hP hS hf hl
  unfold X6_isMissing at hf
  refine lv_aload_n X.1 X.2.1 dX6_isMissing_0 rfl (lv_at hl 0 rfl) ?_
  refine g_6_1 X hP hk_l0 (tb t_306 rfl) dX6_isMissing_1 ?_
  refine r_if_ne (tgt := 11) X dX6_isMissing_4 (by decide) (fun q => ?_) (fun q => ?_)
  · replace hf := it_inv q hf
    refine r_iconst X 0 dX6_isMissing_11 ?_
    cases so_inv hf
    exact r_zret X hP hS (Or.inl rfl) dX6_isMissing_12
  · replace hf := ie_inv q hf
    refine r_iconst X 1 dX6_isMissing_7 ?_
    refine lv_goto (tgt := 12) X.1 X.2.1 dX6_isMissing_8 (by decide) ?_
    cases so_inv hf
    exact r_zret X hP hS (Or.inr rfl) dX6_isMissing_12
set_option maxHeartbeats 4000000 in
theorem c_X6_isMissing {l : Launch} {G : GT} {σ : Mem} {res : Int} {l0 : Nat} (hk_l0 : kd l0 = 6) (hf : X6_isMissing σ l0 = some res) : CT l yX6_isMissing cX6_isMissing 1 (some FieldType.boolean) 1 60 G [.ref (gh G + l0)] σ σ (some (.int (i32 res))) := by
  refine CT.mk (own := RX6) (by decide) rfl (Nat.le_of_ble_eq_true rfl) ?_
  intro p e s m below meth c ls X hP hS hl
  have hl : lv_has ls 1 [(0, .ref (gh G + l0))] := hl
  exact a_X6_isMissing_0 X  s.heap [] ls l0 hk_l0 hP hS hf hl
theorem k_X6_isMissing {p : Program} {l : Launch} {e : Env} {R : Room} {s : State} {m : MethodId} {args : Array Value} {below : List Frame} {meth : Method} {c : Code} {H : Heap} {locs : List Loc} {Q : State → Prop} {cc : ByteArray} {nL : Nat} {own : String} {ret : Option FieldType} {fF fL : Nat} {G : GT} {pc idx : Nat} {ls : Array Slot} {rest : List Value} {σ : Mem} {res : Int} {l0 : Nat} (X : CX p R s m args meth c cc nL own ret fF fL G) (hP : PW G σ H) (hS : va_S (AA G) s.heap H locs) (hls : ls.size = nL) (hk_l0 : kd l0 = 6) (hf : X6_isMissing σ l0 = some res) (h1 : Cond.methodLink own idx yX6_isMissing ∈ TB) (hR : 1 + 1 ≤ fF ∧ 8 + (1 + 11) + 60 ≤ fL) (hW : (rest.map fun v => v.category).sum ≤ 8) (hd : decode cc pc = .ok (.invokevirtual idx, 3)) (kk : ∀ (H1 : Heap) (locs1 : List Loc), PW G σ H1 → va_S (AA G) s.heap H1 locs1 → W p l e R s m args below meth c H1 locs1 0 0 Q (F0 m (pc + 3) ls (.int (i32 res) :: rest))) : W p l e R s m args below meth c H locs 0 0 Q (F0 m pc ls (.ref (gh G + l0) :: rest)) := r_callV (n := 0) X hP hS hls (c_X6_isMissing hk_l0 hf) h1 (tb t_1011 rfl) (tb t_1012 rfl) (tb t_84 rfl) (tb t_1013 rfl) (by decide +kernel) hR (r_recv X hP (kd_lt hk_l0 (by decide)) (cE_6 hk_l0) rfl) rfl rfl hW hd kk
/-! X6_hasStretch -/
theorem dX6_hasStretch_0 : decode cX6_hasStretch 0 = .ok (.iload_n 1, 1) := by decide +kernel
theorem dX6_hasStretch_1 : decode cX6_hasStretch 1 = .ok (.ifCond .lt 29, 3) := by decide +kernel
theorem dX6_hasStretch_4 : decode cX6_hasStretch 4 = .ok (.iload_n 2, 1) := by decide +kernel
theorem dX6_hasStretch_5 : decode cX6_hasStretch 5 = .ok (.ifCond .lt 25, 3) := by decide +kernel
theorem dX6_hasStretch_8 : decode cX6_hasStretch 8 = .ok (.iload_n 1, 1) := by decide +kernel
theorem dX6_hasStretch_9 : decode cX6_hasStretch 9 = .ok (.aload_n 0, 1) := by decide +kernel
theorem dX6_hasStretch_10 : decode cX6_hasStretch 10 = .ok (.getfield 19, 3) := by decide +kernel
theorem dX6_hasStretch_13 : decode cX6_hasStretch 13 = .ok (.if_icmp .gt 17, 3) := by decide +kernel
theorem dX6_hasStretch_16 : decode cX6_hasStretch 16 = .ok (.iload_n 2, 1) := by decide +kernel
theorem dX6_hasStretch_17 : decode cX6_hasStretch 17 = .ok (.aload_n 0, 1) := by decide +kernel
theorem dX6_hasStretch_18 : decode cX6_hasStretch 18 = .ok (.getfield 19, 3) := by decide +kernel
theorem dX6_hasStretch_21 : decode cX6_hasStretch 21 = .ok (.iload_n 1, 1) := by decide +kernel
theorem dX6_hasStretch_22 : decode cX6_hasStretch 22 = .ok (.isub, 1) := by decide +kernel
theorem dX6_hasStretch_23 : decode cX6_hasStretch 23 = .ok (.if_icmp .gt 7, 3) := by decide +kernel
theorem dX6_hasStretch_26 : decode cX6_hasStretch 26 = .ok (.iconst 1, 1) := by decide +kernel
theorem dX6_hasStretch_27 : decode cX6_hasStretch 27 = .ok (.goto 4, 3) := by decide +kernel
theorem dX6_hasStretch_30 : decode cX6_hasStretch 30 = .ok (.iconst 0, 1) := by decide +kernel
theorem dX6_hasStretch_31 : decode cX6_hasStretch 31 = .ok (.ireturn, 1) := by decide +kernel
def X6_hasStretch (σ : Mem) (l0 : Nat) (l1 : Int) (l2 : Int) : Option (Int) :=
  if w32 l1 < 0 then
    some 0
  else
  if w32 l2 < 0 then
    some 0
  else
  if w32 (σ l0 2) < w32 l1 then
    some 0
  else
  if w32 ((σ l0 2) - l1) < w32 l2 then
    some 0
  else
  some 1
def S_X6_hasStretch_0 (fn : Nat → Int → Int → Option (Int)) (p : Program) (l : Launch) (e : Env) (R : Room) (s : State) (m : MethodId) (args : Array Value) (below : List Frame) (meth : Method) (c : Code) (G : GT) (σ : Mem) (res : Int) : Prop := ∀ (H : Heap) (locs : List Loc) (ls : Array Slot) (l0 : Nat) (l1 : Int) (l2 : Int), kd l0 = 6 → PW G σ H → va_S (AA G) s.heap H locs → fn l0 l1 l2 = some res → lv_has ls 3 [(0, .ref (gh G + l0)), (1, .int (i32 l1)), (2, .int (i32 l2))] → W p l e R s m args below meth c H locs 0 0 (MQ below (QM G (some (.int (i32 res))) σ) args s 0 0 (AA G)) (F0 m 0 ls [])
set_option maxHeartbeats 4000000 in
theorem a_X6_hasStretch_0 {p : Program} {l : Launch} {e : Env} {R : Room} {s : State} {m : MethodId} {args : Array Value} {below : List Frame} {meth : Method} {c : Code} {G : GT} {σ : Mem} {res : Int} (X : CX p R s m args meth c cX6_hasStretch 3 RX6 (some FieldType.boolean) 1 60 G) : S_X6_hasStretch_0 (X6_hasStretch σ) p l e R s m args below meth c G σ res := by
  intro H locs ls l0 l1 l2 hk_l0 hP hS hf hl
  unfold X6_hasStretch at hf
  refine lv_iload_n X.1 X.2.1 dX6_hasStretch_0 rfl (lv_at hl 1 rfl) ?_
  refine r_if_lt (tgt := 30) X dX6_hasStretch_1 (by decide) (fun q => ?_) (fun q => ?_)
  · replace hf := it_inv q hf
    refine r_iconst X 0 dX6_hasStretch_30 ?_
    cases so_inv hf
    exact r_zret X hP hS (Or.inl rfl) dX6_hasStretch_31
  · replace hf := ie_inv q hf
    refine lv_iload_n X.1 X.2.1 dX6_hasStretch_4 rfl (lv_at hl 2 rfl) ?_
    refine r_if_lt (tgt := 30) X dX6_hasStretch_5 (by decide) (fun q => ?_) (fun q => ?_)
    · replace hf := it_inv q hf
      refine r_iconst X 0 dX6_hasStretch_30 ?_
      cases so_inv hf
      exact r_zret X hP hS (Or.inl rfl) dX6_hasStretch_31
    · replace hf := ie_inv q hf
      refine lv_iload_n X.1 X.2.1 dX6_hasStretch_8 rfl (lv_at hl 1 rfl) ?_
      refine lv_aload_n X.1 X.2.1 dX6_hasStretch_9 rfl (lv_at hl 0 rfl) ?_
      refine g_6_2 X hP hk_l0 (tb t_308 rfl) dX6_hasStretch_10 ?_
      refine r_icmp_gt (tgt := 30) X dX6_hasStretch_13 (by decide) (fun q => ?_) (fun q => ?_)
      · replace hf := it_inv q hf
        refine r_iconst X 0 dX6_hasStretch_30 ?_
        cases so_inv hf
        exact r_zret X hP hS (Or.inl rfl) dX6_hasStretch_31
      · replace hf := ie_inv q hf
        refine lv_iload_n X.1 X.2.1 dX6_hasStretch_16 rfl (lv_at hl 2 rfl) ?_
        refine lv_aload_n X.1 X.2.1 dX6_hasStretch_17 rfl (lv_at hl 0 rfl) ?_
        refine g_6_2 X hP hk_l0 (tb t_308 rfl) dX6_hasStretch_18 ?_
        refine lv_iload_n X.1 X.2.1 dX6_hasStretch_21 rfl (lv_at hl 1 rfl) ?_
        refine r_isub X dX6_hasStretch_22 ?_
        refine r_icmp_gt (tgt := 30) X dX6_hasStretch_23 (by decide) (fun q => ?_) (fun q => ?_)
        · replace hf := it_inv q hf
          refine r_iconst X 0 dX6_hasStretch_30 ?_
          cases so_inv hf
          exact r_zret X hP hS (Or.inl rfl) dX6_hasStretch_31
        · replace hf := ie_inv q hf
          refine r_iconst X 1 dX6_hasStretch_26 ?_
          refine lv_goto (tgt := 31) X.1 X.2.1 dX6_hasStretch_27 (by decide) ?_
          cases so_inv hf
          exact r_zret X hP hS (Or.inr rfl) dX6_hasStretch_31
set_option maxHeartbeats 4000000 in
theorem c_X6_hasStretch {l : Launch} {G : GT} {σ : Mem} {res : Int} {l0 : Nat} {l1 : Int} {l2 : Int} (hk_l0 : kd l0 = 6) (hf : X6_hasStretch σ l0 l1 l2 = some res) : CT l yX6_hasStretch cX6_hasStretch 3 (some FieldType.boolean) 1 60 G [.ref (gh G + l0), .int (i32 l1), .int (i32 l2)] σ σ (some (.int (i32 res))) := by
  refine CT.mk (own := RX6) (by decide) rfl (Nat.le_of_ble_eq_true rfl) ?_
  intro p e s m below meth c ls X hP hS hl
  have hl : lv_has ls 3 [(0, .ref (gh G + l0)), (1, .int (i32 l1)), (2, .int (i32 l2))] := hl
  exact a_X6_hasStretch_0 X  s.heap [] ls l0 l1 l2 hk_l0 hP hS hf hl
theorem k_X6_hasStretch {p : Program} {l : Launch} {e : Env} {R : Room} {s : State} {m : MethodId} {args : Array Value} {below : List Frame} {meth : Method} {c : Code} {H : Heap} {locs : List Loc} {Q : State → Prop} {cc : ByteArray} {nL : Nat} {own : String} {ret : Option FieldType} {fF fL : Nat} {G : GT} {pc idx : Nat} {ls : Array Slot} {rest : List Value} {σ : Mem} {res : Int} {l0 : Nat} {l1 : Int} {l2 : Int} (X : CX p R s m args meth c cc nL own ret fF fL G) (hP : PW G σ H) (hS : va_S (AA G) s.heap H locs) (hls : ls.size = nL) (hk_l0 : kd l0 = 6) (hf : X6_hasStretch σ l0 l1 l2 = some res) (h1 : Cond.methodLink own idx yX6_hasStretch ∈ TB) (hR : 1 + 1 ≤ fF ∧ 8 + (3 + 11) + 60 ≤ fL) (hW : (rest.map fun v => v.category).sum ≤ 8) (hd : decode cc pc = .ok (.invokevirtual idx, 3)) (kk : ∀ (H1 : Heap) (locs1 : List Loc), PW G σ H1 → va_S (AA G) s.heap H1 locs1 → W p l e R s m args below meth c H1 locs1 0 0 Q (F0 m (pc + 3) ls (.int (i32 res) :: rest))) : W p l e R s m args below meth c H locs 0 0 Q (F0 m pc ls (.int (i32 l2) :: .int (i32 l1) :: .ref (gh G + l0) :: rest)) := r_callV (n := 2) X hP hS hls (c_X6_hasStretch hk_l0 hf) h1 (tb t_1024 rfl) (tb t_1025 rfl) (tb t_84 rfl) (tb t_1026 rfl) (by decide +kernel) hR (r_recv X hP (kd_lt hk_l0 (by decide)) (cE_6 hk_l0) rfl) rfl rfl hW hd kk
/-! X10_copy -/
theorem dX10_copy_0 : decode cX10_copy 0 = .ok (.iload_n 1, 1) := by decide +kernel
theorem dX10_copy_1 : decode cX10_copy 1 = .ok (.invokestatic 300, 3) := by decide +kernel
theorem dX10_copy_4 : decode cX10_copy 4 = .ok (.ifCond .eq 10, 3) := by decide +kernel
theorem dX10_copy_7 : decode cX10_copy 7 = .ok (.iload_n 3, 1) := by decide +kernel
theorem dX10_copy_8 : decode cX10_copy 8 = .ok (.invokestatic 300, 3) := by decide +kernel
theorem dX10_copy_11 : decode cX10_copy 11 = .ok (.ifCond .ne 10, 3) := by decide +kernel
theorem dX10_copy_14 : decode cX10_copy 14 = .ok (.aload_n 0, 1) := by decide +kernel
theorem dX10_copy_15 : decode cX10_copy 15 = .ok (.ldc 72, 2) := by decide +kernel
theorem dX10_copy_17 : decode cX10_copy 17 = .ok (.invokevirtual 73, 3) := by decide +kernel
theorem dX10_copy_20 : decode cX10_copy 20 = .ok (.ireturn, 1) := by decide +kernel
theorem dX10_copy_21 : decode cX10_copy 21 = .ok (.aload_n 0, 1) := by decide +kernel
theorem dX10_copy_22 : decode cX10_copy 22 = .ok (.getfield 28, 3) := by decide +kernel
theorem dX10_copy_25 : decode cX10_copy 25 = .ok (.iload_n 1, 1) := by decide +kernel
theorem dX10_copy_26 : decode cX10_copy 26 = .ok (.aaload, 1) := by decide +kernel
theorem dX10_copy_27 : decode cX10_copy 27 = .ok (.astore 6, 2) := by decide +kernel
theorem dX10_copy_29 : decode cX10_copy 29 = .ok (.aload_n 0, 1) := by decide +kernel
theorem dX10_copy_30 : decode cX10_copy 30 = .ok (.getfield 28, 3) := by decide +kernel
theorem dX10_copy_33 : decode cX10_copy 33 = .ok (.iload_n 3, 1) := by decide +kernel
theorem dX10_copy_34 : decode cX10_copy 34 = .ok (.aaload, 1) := by decide +kernel
theorem dX10_copy_35 : decode cX10_copy 35 = .ok (.astore 7, 2) := by decide +kernel
theorem dX10_copy_37 : decode cX10_copy 37 = .ok (.aload 6, 2) := by decide +kernel
theorem dX10_copy_39 : decode cX10_copy 39 = .ok (.invokevirtual 307, 3) := by decide +kernel
theorem dX10_copy_42 : decode cX10_copy 42 = .ok (.ifCond .ne 11, 3) := by decide +kernel
theorem dX10_copy_45 : decode cX10_copy 45 = .ok (.aload 7, 2) := by decide +kernel
theorem dX10_copy_47 : decode cX10_copy 47 = .ok (.invokevirtual 307, 3) := by decide +kernel
theorem dX10_copy_50 : decode cX10_copy 50 = .ok (.ifCond .eq 11, 3) := by decide +kernel
theorem dX10_copy_53 : decode cX10_copy 53 = .ok (.aload_n 0, 1) := by decide +kernel
theorem dX10_copy_54 : decode cX10_copy 54 = .ok (.ldc_w 296, 3) := by decide +kernel
theorem dX10_copy_57 : decode cX10_copy 57 = .ok (.invokevirtual 73, 3) := by decide +kernel
theorem dX10_copy_60 : decode cX10_copy 60 = .ok (.ireturn, 1) := by decide +kernel
theorem dX10_copy_61 : decode cX10_copy 61 = .ok (.aload 6, 2) := by decide +kernel
theorem dX10_copy_63 : decode cX10_copy 63 = .ok (.getfield 312, 3) := by decide +kernel
theorem dX10_copy_66 : decode cX10_copy 66 = .ok (.aload 7, 2) := by decide +kernel
theorem dX10_copy_68 : decode cX10_copy 68 = .ok (.getfield 312, 3) := by decide +kernel
theorem dX10_copy_71 : decode cX10_copy 71 = .ok (.if_icmp .eq 10, 3) := by decide +kernel
theorem dX10_copy_74 : decode cX10_copy 74 = .ok (.aload_n 0, 1) := by decide +kernel
theorem dX10_copy_75 : decode cX10_copy 75 = .ok (.ldc 191, 2) := by decide +kernel
theorem dX10_copy_77 : decode cX10_copy 77 = .ok (.invokevirtual 73, 3) := by decide +kernel
theorem dX10_copy_80 : decode cX10_copy 80 = .ok (.ireturn, 1) := by decide +kernel
theorem dX10_copy_81 : decode cX10_copy 81 = .ok (.aload 6, 2) := by decide +kernel
theorem dX10_copy_83 : decode cX10_copy 83 = .ok (.iload_n 2, 1) := by decide +kernel
theorem dX10_copy_84 : decode cX10_copy 84 = .ok (.iload 5, 2) := by decide +kernel
theorem dX10_copy_86 : decode cX10_copy 86 = .ok (.invokevirtual 315, 3) := by decide +kernel
theorem dX10_copy_89 : decode cX10_copy 89 = .ok (.ifCond .eq 15, 3) := by decide +kernel
theorem dX10_copy_92 : decode cX10_copy 92 = .ok (.aload 7, 2) := by decide +kernel
theorem dX10_copy_94 : decode cX10_copy 94 = .ok (.iload 4, 2) := by decide +kernel
theorem dX10_copy_96 : decode cX10_copy 96 = .ok (.iload 5, 2) := by decide +kernel
theorem dX10_copy_98 : decode cX10_copy 98 = .ok (.invokevirtual 315, 3) := by decide +kernel
theorem dX10_copy_101 : decode cX10_copy 101 = .ok (.ifCond .ne 10, 3) := by decide +kernel
theorem dX10_copy_104 : decode cX10_copy 104 = .ok (.aload_n 0, 1) := by decide +kernel
theorem dX10_copy_105 : decode cX10_copy 105 = .ok (.ldc 72, 2) := by decide +kernel
theorem dX10_copy_107 : decode cX10_copy 107 = .ok (.invokevirtual 73, 3) := by decide +kernel
theorem dX10_copy_110 : decode cX10_copy 110 = .ok (.ireturn, 1) := by decide +kernel
theorem dX10_copy_111 : decode cX10_copy 111 = .ok (.aload 6, 2) := by decide +kernel
theorem dX10_copy_113 : decode cX10_copy 113 = .ok (.getfield 318, 3) := by decide +kernel
theorem dX10_copy_116 : decode cX10_copy 116 = .ok (.iload_n 2, 1) := by decide +kernel
theorem dX10_copy_117 : decode cX10_copy 117 = .ok (.aload 7, 2) := by decide +kernel
theorem dX10_copy_119 : decode cX10_copy 119 = .ok (.getfield 318, 3) := by decide +kernel
theorem dX10_copy_122 : decode cX10_copy 122 = .ok (.iload 4, 2) := by decide +kernel
theorem dX10_copy_124 : decode cX10_copy 124 = .ok (.iload 5, 2) := by decide +kernel
theorem dX10_copy_126 : decode cX10_copy 126 = .ok (.invokestatic 321, 3) := by decide +kernel
theorem dX10_copy_129 : decode cX10_copy 129 = .ok (.iload 5, 2) := by decide +kernel
theorem dX10_copy_131 : decode cX10_copy 131 = .ok (.ireturn, 1) := by decide +kernel
def X10_copy_B104 (σ : Mem) : Option (Int × Mem) :=
  bd2 (X10_tell σ (-1000001)) fun r1 s2 =>
  some (r1, s2)
def S_X10_copy_104 (fn : Mem → Option (Int × Mem)) (p : Program) (l : Launch) (e : Env) (R : Room) (s : State) (m : MethodId) (args : Array Value) (below : List Frame) (meth : Method) (c : Code) (G : GT) (τ : Mem) (res : Int) : Prop := ∀ (σ : Mem) (H : Heap) (locs : List Loc) (ls : Array Slot), PW G σ H → va_S (AA G) s.heap H locs → fn σ = some (res, τ) → lv_has ls 8 [(0, .ref (gh G + 0))] → W p l e R s m args below meth c H locs 0 0 (MQ below (QM G (some (.int (i32 res))) τ) args s 0 0 (AA G)) (F0 m 104 ls [])
def X10_copy_B53 (σ : Mem) : Option (Int × Mem) :=
  bd2 (X10_tell σ (-1000006)) fun r1 s2 =>
  some (r1, s2)
def S_X10_copy_53 (fn : Mem → Option (Int × Mem)) (p : Program) (l : Launch) (e : Env) (R : Room) (s : State) (m : MethodId) (args : Array Value) (below : List Frame) (meth : Method) (c : Code) (G : GT) (τ : Mem) (res : Int) : Prop := ∀ (σ : Mem) (H : Heap) (locs : List Loc) (ls : Array Slot), PW G σ H → va_S (AA G) s.heap H locs → fn σ = some (res, τ) → lv_has ls 8 [(0, .ref (gh G + 0))] → W p l e R s m args below meth c H locs 0 0 (MQ below (QM G (some (.int (i32 res))) τ) args s 0 0 (AA G)) (F0 m 53 ls [])
def X10_copy_B14 (σ : Mem) : Option (Int × Mem) :=
  bd2 (X10_tell σ (-1000001)) fun r1 s2 =>
  some (r1, s2)
def S_X10_copy_14 (fn : Mem → Option (Int × Mem)) (p : Program) (l : Launch) (e : Env) (R : Room) (s : State) (m : MethodId) (args : Array Value) (below : List Frame) (meth : Method) (c : Code) (G : GT) (τ : Mem) (res : Int) : Prop := ∀ (σ : Mem) (H : Heap) (locs : List Loc) (ls : Array Slot), PW G σ H → va_S (AA G) s.heap H locs → fn σ = some (res, τ) → lv_has ls 8 [(0, .ref (gh G + 0))] → W p l e R s m args below meth c H locs 0 0 (MQ below (QM G (some (.int (i32 res))) τ) args s 0 0 (AA G)) (F0 m 14 ls [])
def X10_copy (σ : Mem) (l1 : Int) (l2 : Int) (l3 : Int) (l4 : Int) (l5 : Int) : Option (Int × Mem) :=
  bd (X10_isSheet σ l1) fun r1 =>
  if w32 r1 = 0 then
    X10_copy_B14 σ
  else
  bd (X10_isSheet σ l3) fun r2 =>
  if w32 r2 ≠ 0 then
    ag 4 l1 fun j3 =>
    ag 4 l3 fun j4 =>
    bd (X6_isMissing σ (63 + 2 * j3)) fun r5 =>
    if w32 r5 ≠ 0 then
      X10_copy_B53 σ
    else
    bd (X6_isMissing σ (63 + 2 * j4)) fun r6 =>
    if w32 r6 = 0 then
      if w32 (σ (63 + 2 * j3) 1) = w32 (σ (63 + 2 * j4) 1) then
        bd (X6_hasStretch σ (63 + 2 * j3) l2 l5) fun r7 =>
        if w32 r7 = 0 then
          X10_copy_B104 σ
        else
        bd (X6_hasStretch σ (63 + 2 * j4) l4 l5) fun r8 =>
        if w32 r8 ≠ 0 then
          ac 40 40 l2 l4 l5 <|
          lt (cpy σ (63 + 2 * j3 + 1) (w32 l2).toNat (63 + 2 * j4 + 1) (w32 l4).toNat (w32 l5).toNat) fun s10 =>
          some (l5, s10)
        else
        X10_copy_B104 σ
      else
      bd2 (X10_tell σ (-1000003)) fun r11 s12 =>
      some (r11, s12)
    else
    X10_copy_B53 σ
  else
  X10_copy_B14 σ
def S_X10_copy_0 (fn : Mem → Int → Int → Int → Int → Int → Option (Int × Mem)) (p : Program) (l : Launch) (e : Env) (R : Room) (s : State) (m : MethodId) (args : Array Value) (below : List Frame) (meth : Method) (c : Code) (G : GT) (τ : Mem) (res : Int) : Prop := ∀ (σ : Mem) (H : Heap) (locs : List Loc) (ls : Array Slot) (l1 : Int) (l2 : Int) (l3 : Int) (l4 : Int) (l5 : Int), PW G σ H → va_S (AA G) s.heap H locs → fn σ l1 l2 l3 l4 l5 = some (res, τ) → lv_has ls 8 [(0, .ref (gh G + 0)), (1, .int (i32 l1)), (2, .int (i32 l2)), (3, .int (i32 l3)), (4, .int (i32 l4)), (5, .int (i32 l5))] → W p l e R s m args below meth c H locs 0 0 (MQ below (QM G (some (.int (i32 res))) τ) args s 0 0 (AA G)) (F0 m 0 ls [])
set_option maxHeartbeats 4000000 in
theorem a_X10_copy_104 {p : Program} {l : Launch} {e : Env} {R : Room} {s : State} {m : MethodId} {args : Array Value} {below : List Frame} {meth : Method} {c : Code} {G : GT} {τ : Mem} {res : Int} (X : CX p R s m args meth c cX10_copy 8 RX10 (some FieldType.int) 3 104 G) : S_X10_copy_104 (X10_copy_B104) p l e R s m args below meth c G τ res := by
  intro σ H locs ls hP hS hf hl
  unfold X10_copy_B104 at hf
  refine lv_aload_n X.1 X.2.1 dX10_copy_104 rfl (lv_at hl 0 rfl) ?_
  refine r_ldc X (-1000001) (tb t_430 rfl) (by decide) dX10_copy_105 ?_
  obtain ⟨r1, s2, hr1, hf⟩ := bd2_inv hf
  refine k_X10_tell X hP hS hl.1  hr1 (tb t_431 rfl) (by decide) (Nat.le_of_ble_eq_true rfl) dX10_copy_107 (fun H locs hP hS => ?_)
  obtain ⟨rfl, rfl⟩ := so2_inv hf
  exact r_iret X hP hS dX10_copy_110
set_option maxHeartbeats 4000000 in
theorem a_X10_copy_53 {p : Program} {l : Launch} {e : Env} {R : Room} {s : State} {m : MethodId} {args : Array Value} {below : List Frame} {meth : Method} {c : Code} {G : GT} {τ : Mem} {res : Int} (X : CX p R s m args meth c cX10_copy 8 RX10 (some FieldType.int) 3 104 G) : S_X10_copy_53 (X10_copy_B53) p l e R s m args below meth c G τ res := by
  intro σ H locs ls hP hS hf hl
  unfold X10_copy_B53 at hf
  refine lv_aload_n X.1 X.2.1 dX10_copy_53 rfl (lv_at hl 0 rfl) ?_
  refine r_ldcw X (-1000006) (tb t_987 rfl) (by decide) dX10_copy_54 ?_
  obtain ⟨r1, s2, hr1, hf⟩ := bd2_inv hf
  refine k_X10_tell X hP hS hl.1  hr1 (tb t_431 rfl) (by decide) (Nat.le_of_ble_eq_true rfl) dX10_copy_57 (fun H locs hP hS => ?_)
  obtain ⟨rfl, rfl⟩ := so2_inv hf
  exact r_iret X hP hS dX10_copy_60
set_option maxHeartbeats 4000000 in
theorem a_X10_copy_14 {p : Program} {l : Launch} {e : Env} {R : Room} {s : State} {m : MethodId} {args : Array Value} {below : List Frame} {meth : Method} {c : Code} {G : GT} {τ : Mem} {res : Int} (X : CX p R s m args meth c cX10_copy 8 RX10 (some FieldType.int) 3 104 G) : S_X10_copy_14 (X10_copy_B14) p l e R s m args below meth c G τ res := by
  intro σ H locs ls hP hS hf hl
  unfold X10_copy_B14 at hf
  refine lv_aload_n X.1 X.2.1 dX10_copy_14 rfl (lv_at hl 0 rfl) ?_
  refine r_ldc X (-1000001) (tb t_430 rfl) (by decide) dX10_copy_15 ?_
  obtain ⟨r1, s2, hr1, hf⟩ := bd2_inv hf
  refine k_X10_tell X hP hS hl.1  hr1 (tb t_431 rfl) (by decide) (Nat.le_of_ble_eq_true rfl) dX10_copy_17 (fun H locs hP hS => ?_)
  obtain ⟨rfl, rfl⟩ := so2_inv hf
  exact r_iret X hP hS dX10_copy_20
set_option maxHeartbeats 4000000 in
theorem a_X10_copy_0 {p : Program} {l : Launch} {e : Env} {R : Room} {s : State} {m : MethodId} {args : Array Value} {below : List Frame} {meth : Method} {c : Code} {G : GT} {τ : Mem} {res : Int} (X : CX p R s m args meth c cX10_copy 8 RX10 (some FieldType.int) 3 104 G) : S_X10_copy_0 (X10_copy) p l e R s m args below meth c G τ res := by
  intro σ H locs ls l1 l2 l3 l4 l5 hP hS hf hl
  unfold X10_copy at hf
  refine lv_iload_n X.1 X.2.1 dX10_copy_0 rfl (lv_at hl 1 rfl) ?_
  obtain ⟨r1, hr1, hf⟩ := bd_inv hf
  refine k_X10_isSheet X hP hS hl.1  hr1 (tb t_997 rfl) (by decide) (Nat.le_of_ble_eq_true rfl) dX10_copy_1 (fun H locs hP hS => ?_)
  refine r_if_eq (tgt := 14) X dX10_copy_4 (by decide) (fun q => ?_) (fun q => ?_)
  · replace hf := it_inv q hf
    exact a_X10_copy_14 X σ H locs ls  hP hS hf (lv_sub hl [0] rfl)
  · replace hf := ie_inv q hf
    refine lv_iload_n X.1 X.2.1 dX10_copy_7 rfl (lv_at hl 3 rfl) ?_
    obtain ⟨r2, hr2, hf⟩ := bd_inv hf
    refine k_X10_isSheet X hP hS hl.1  hr2 (tb t_997 rfl) (by decide) (Nat.le_of_ble_eq_true rfl) dX10_copy_8 (fun H locs hP hS => ?_)
    refine r_if_ne (tgt := 21) X dX10_copy_11 (by decide) (fun q => ?_) (fun q => ?_)
    · replace hf := it_inv q hf
      refine lv_aload_n X.1 X.2.1 dX10_copy_21 rfl (lv_at hl 0 rfl) ?_
      refine g_10_4 (r := 50) X hP ks_10 rfl (tb t_392 rfl) dX10_copy_22 ?_
      refine lv_iload_n X.1 X.2.1 dX10_copy_25 rfl (lv_at hl 1 rfl) ?_
      obtain ⟨j3, hij3, hjj3, hlj3, hf⟩ := ag_inv hf
      refine r_aald19 (r := 63 + 2 * j3) X hP (ch_10_4 ks_10).1 (ch_10_4 ks_10).2 hij3 hjj3 rfl dX10_copy_26 ?_
      refine lv_astore (lv' := [(6, .ref (gh G + (63 + 2 * j3))), (0, .ref (gh G + 0)), (1, .int (i32 l1)), (2, .int (i32 l2)), (3, .int (i32 l3)), (4, .int (i32 l4)), (5, .int (i32 l5))]) X.1 X.2.1 dX10_copy_27 hl (by decide) rfl (fun ls hl => ?_)
      refine lv_aload_n X.1 X.2.1 dX10_copy_29 rfl (lv_at hl 1 rfl) ?_
      refine g_10_4 (r := 50) X hP ks_10 rfl (tb t_392 rfl) dX10_copy_30 ?_
      refine lv_iload_n X.1 X.2.1 dX10_copy_33 rfl (lv_at hl 4 rfl) ?_
      obtain ⟨j4, hij4, hjj4, hlj4, hf⟩ := ag_inv hf
      refine r_aald19 (r := 63 + 2 * j4) X hP (ch_10_4 ks_10).1 (ch_10_4 ks_10).2 hij4 hjj4 rfl dX10_copy_34 ?_
      refine lv_astore (lv' := [(7, .ref (gh G + (63 + 2 * j4))), (6, .ref (gh G + (63 + 2 * j3))), (0, .ref (gh G + 0)), (1, .int (i32 l1)), (2, .int (i32 l2)), (3, .int (i32 l3)), (4, .int (i32 l4)), (5, .int (i32 l5))]) X.1 X.2.1 dX10_copy_35 hl (by decide) rfl (fun ls hl => ?_)
      refine lv_aload X.1 X.2.1 dX10_copy_37 (lv_at hl 1 rfl) ?_
      obtain ⟨r5, hr5, hf⟩ := bd_inv hf
      refine k_X6_isMissing X hP hS hl.1 ((ch_19 (ch_10_4 ks_10).1).2 j3 hlj3) hr5 (tb t_1010 rfl) (by decide) (Nat.le_of_ble_eq_true rfl) dX10_copy_39 (fun H locs hP hS => ?_)
      refine r_if_ne (tgt := 53) X dX10_copy_42 (by decide) (fun q => ?_) (fun q => ?_)
      · replace hf := it_inv q hf
        exact a_X10_copy_53 X σ H locs ls  hP hS hf (lv_sub hl [2] rfl)
      · replace hf := ie_inv q hf
        refine lv_aload X.1 X.2.1 dX10_copy_45 (lv_at hl 0 rfl) ?_
        obtain ⟨r6, hr6, hf⟩ := bd_inv hf
        refine k_X6_isMissing X hP hS hl.1 ((ch_19 (ch_10_4 ks_10).1).2 j4 hlj4) hr6 (tb t_1010 rfl) (by decide) (Nat.le_of_ble_eq_true rfl) dX10_copy_47 (fun H locs hP hS => ?_)
        refine r_if_eq (tgt := 61) X dX10_copy_50 (by decide) (fun q => ?_) (fun q => ?_)
        · replace hf := it_inv q hf
          refine lv_aload X.1 X.2.1 dX10_copy_61 (lv_at hl 1 rfl) ?_
          refine g_6_1 X hP ((ch_19 (ch_10_4 ks_10).1).2 j3 hlj3) (tb t_307 rfl) dX10_copy_63 ?_
          refine lv_aload X.1 X.2.1 dX10_copy_66 (lv_at hl 0 rfl) ?_
          refine g_6_1 X hP ((ch_19 (ch_10_4 ks_10).1).2 j4 hlj4) (tb t_307 rfl) dX10_copy_68 ?_
          refine r_icmp_eq (tgt := 81) X dX10_copy_71 (by decide) (fun q => ?_) (fun q => ?_)
          · replace hf := it_inv q hf
            refine lv_aload X.1 X.2.1 dX10_copy_81 (lv_at hl 1 rfl) ?_
            refine lv_iload_n X.1 X.2.1 dX10_copy_83 rfl (lv_at hl 4 rfl) ?_
            refine lv_iload X.1 X.2.1 dX10_copy_84 (lv_at hl 7 rfl) ?_
            obtain ⟨r7, hr7, hf⟩ := bd_inv hf
            refine k_X6_hasStretch X hP hS hl.1 ((ch_19 (ch_10_4 ks_10).1).2 j3 hlj3) hr7 (tb t_1023 rfl) (by decide) (Nat.le_of_ble_eq_true rfl) dX10_copy_86 (fun H locs hP hS => ?_)
            refine r_if_eq (tgt := 104) X dX10_copy_89 (by decide) (fun q => ?_) (fun q => ?_)
            · replace hf := it_inv q hf
              exact a_X10_copy_104 X σ H locs ls  hP hS hf (lv_sub hl [2] rfl)
            · replace hf := ie_inv q hf
              refine lv_aload X.1 X.2.1 dX10_copy_92 (lv_at hl 0 rfl) ?_
              refine lv_iload X.1 X.2.1 dX10_copy_94 (lv_at hl 6 rfl) ?_
              refine lv_iload X.1 X.2.1 dX10_copy_96 (lv_at hl 7 rfl) ?_
              obtain ⟨r8, hr8, hf⟩ := bd_inv hf
              refine k_X6_hasStretch X hP hS hl.1 ((ch_19 (ch_10_4 ks_10).1).2 j4 hlj4) hr8 (tb t_1023 rfl) (by decide) (Nat.le_of_ble_eq_true rfl) dX10_copy_98 (fun H locs hP hS => ?_)
              refine r_if_ne (tgt := 111) X dX10_copy_101 (by decide) (fun q => ?_) (fun q => ?_)
              · replace hf := it_inv q hf
                refine lv_aload X.1 X.2.1 dX10_copy_111 (lv_at hl 1 rfl) ?_
                refine g_6_0 (r := 63 + 2 * j3 + 1) X hP ((ch_19 (ch_10_4 ks_10).1).2 j3 hlj3) rfl (tb t_305 rfl) dX10_copy_113 ?_
                refine lv_iload_n X.1 X.2.1 dX10_copy_116 rfl (lv_at hl 4 rfl) ?_
                refine lv_aload X.1 X.2.1 dX10_copy_117 (lv_at hl 0 rfl) ?_
                refine g_6_0 (r := 63 + 2 * j4 + 1) X hP ((ch_19 (ch_10_4 ks_10).1).2 j4 hlj4) rfl (tb t_305 rfl) dX10_copy_119 ?_
                refine lv_iload X.1 X.2.1 dX10_copy_122 (lv_at hl 6 rfl) ?_
                refine lv_iload X.1 X.2.1 dX10_copy_124 (lv_at hl 7 rfl) ?_
                obtain ⟨hc9, hf⟩ := ac_inv hf
                refine r_acopy X hl.1 hP hS (tb t_1027 rfl) (tb t_618 rfl) (tb t_617 rfl) (tb t_93 rfl) (by decide) (Nat.le_of_ble_eq_true rfl) (ch_6_0 ((ch_19 (ch_10_4 ks_10).1).2 j3 hlj3)).1 (ch_6_0 ((ch_19 (ch_10_4 ks_10).1).2 j3 hlj3)).2 (ch_6_0 ((ch_19 (ch_10_4 ks_10).1).2 j4 hlj4)).1 (ch_6_0 ((ch_19 (ch_10_4 ks_10).1).2 j4 hlj4)).2 hc9 dX10_copy_126 (fun H locs hP hS => ?_)
                obtain ⟨s10, es10, hf⟩ := lt_inv hf
                rw [es10] at hP
                refine lv_iload X.1 X.2.1 dX10_copy_129 (lv_at hl 7 rfl) ?_
                obtain ⟨rfl, rfl⟩ := so2_inv hf
                exact r_iret X hP hS dX10_copy_131
              · replace hf := ie_inv q hf
                exact a_X10_copy_104 X σ H locs ls  hP hS hf (lv_sub hl [2] rfl)
          · replace hf := ie_inv q hf
            refine lv_aload_n X.1 X.2.1 dX10_copy_74 rfl (lv_at hl 2 rfl) ?_
            refine r_ldc X (-1000003) (tb t_719 rfl) (by decide) dX10_copy_75 ?_
            obtain ⟨r11, s12, hr11, hf⟩ := bd2_inv hf
            refine k_X10_tell X hP hS hl.1  hr11 (tb t_431 rfl) (by decide) (Nat.le_of_ble_eq_true rfl) dX10_copy_77 (fun H locs hP hS => ?_)
            obtain ⟨rfl, rfl⟩ := so2_inv hf
            exact r_iret X hP hS dX10_copy_80
        · replace hf := ie_inv q hf
          exact a_X10_copy_53 X σ H locs ls  hP hS hf (lv_sub hl [2] rfl)
    · replace hf := ie_inv q hf
      exact a_X10_copy_14 X σ H locs ls  hP hS hf (lv_sub hl [0] rfl)
set_option maxHeartbeats 4000000 in
theorem c_X10_copy {l : Launch} {G : GT} {σ τ : Mem} {res : Int} {l1 : Int} {l2 : Int} {l3 : Int} {l4 : Int} {l5 : Int} (hf : X10_copy σ l1 l2 l3 l4 l5 = some (res, τ)) : CT l yX10_copy cX10_copy 8 (some FieldType.int) 3 104 G [.ref (gh G + 0), .int (i32 l1), .int (i32 l2), .int (i32 l3), .int (i32 l4), .int (i32 l5)] σ τ (some (.int (i32 res))) := by
  refine CT.mk (own := RX10) (by decide) rfl (Nat.le_of_ble_eq_true rfl) ?_
  intro p e s m below meth c ls X hP hS hl
  have hl : lv_has ls 8 [(0, .ref (gh G + 0)), (1, .int (i32 l1)), (2, .int (i32 l2)), (3, .int (i32 l3)), (4, .int (i32 l4)), (5, .int (i32 l5))] := hl
  exact a_X10_copy_0 X σ s.heap [] ls l1 l2 l3 l4 l5 hP hS hf hl
theorem k_X10_copy {p : Program} {l : Launch} {e : Env} {R : Room} {s : State} {m : MethodId} {args : Array Value} {below : List Frame} {meth : Method} {c : Code} {H : Heap} {locs : List Loc} {Q : State → Prop} {cc : ByteArray} {nL : Nat} {own : String} {ret : Option FieldType} {fF fL : Nat} {G : GT} {pc idx : Nat} {ls : Array Slot} {rest : List Value} {σ τ : Mem} {res : Int} {l1 : Int} {l2 : Int} {l3 : Int} {l4 : Int} {l5 : Int} (X : CX p R s m args meth c cc nL own ret fF fL G) (hP : PW G σ H) (hS : va_S (AA G) s.heap H locs) (hls : ls.size = nL) (hf : X10_copy σ l1 l2 l3 l4 l5 = some (res, τ)) (h1 : Cond.methodLink own idx yX10_copy ∈ TB) (hR : 3 + 1 ≤ fF ∧ 8 + (8 + 11) + 104 ≤ fL) (hW : (rest.map fun v => v.category).sum ≤ 8) (hd : decode cc pc = .ok (.invokevirtual idx, 3)) (kk : ∀ (H1 : Heap) (locs1 : List Loc), PW G τ H1 → va_S (AA G) s.heap H1 locs1 → W p l e R s m args below meth c H1 locs1 0 0 Q (F0 m (pc + 3) ls (.int (i32 res) :: rest))) : W p l e R s m args below meth c H locs 0 0 Q (F0 m pc ls (.int (i32 l5) :: .int (i32 l4) :: .int (i32 l3) :: .int (i32 l2) :: .int (i32 l1) :: .ref (gh G + 0) :: rest)) := r_callV (n := 5) X hP hS hls (c_X10_copy hf) h1 (tb t_1020 rfl) (tb t_1021 rfl) (tb t_75 rfl) (tb t_1022 rfl) (by decide +kernel) hR (r_recv X hP (kd_lt ks_10 (by decide)) (cE_10 ks_10) rfl) rfl rfl hW hd kk
/-! X7_barsInAll -/
theorem dX7_barsInAll_0 : decode cX7_barsInAll 0 = .ok (.iconst 0, 1) := by decide +kernel
theorem dX7_barsInAll_1 : decode cX7_barsInAll 1 = .ok (.istore_n 1, 1) := by decide +kernel
theorem dX7_barsInAll_2 : decode cX7_barsInAll 2 = .ok (.iconst 0, 1) := by decide +kernel
theorem dX7_barsInAll_3 : decode cX7_barsInAll 3 = .ok (.istore_n 2, 1) := by decide +kernel
theorem dX7_barsInAll_4 : decode cX7_barsInAll 4 = .ok (.iload_n 2, 1) := by decide +kernel
theorem dX7_barsInAll_5 : decode cX7_barsInAll 5 = .ok (.iconst 4, 1) := by decide +kernel
theorem dX7_barsInAll_6 : decode cX7_barsInAll 6 = .ok (.if_icmp .ge 21, 3) := by decide +kernel
theorem dX7_barsInAll_9 : decode cX7_barsInAll 9 = .ok (.iload_n 1, 1) := by decide +kernel
theorem dX7_barsInAll_10 : decode cX7_barsInAll 10 = .ok (.aload_n 0, 1) := by decide +kernel
theorem dX7_barsInAll_11 : decode cX7_barsInAll 11 = .ok (.getfield 11, 3) := by decide +kernel
theorem dX7_barsInAll_14 : decode cX7_barsInAll 14 = .ok (.iload_n 2, 1) := by decide +kernel
theorem dX7_barsInAll_15 : decode cX7_barsInAll 15 = .ok (.aaload, 1) := by decide +kernel
theorem dX7_barsInAll_16 : decode cX7_barsInAll 16 = .ok (.getfield 42, 3) := by decide +kernel
theorem dX7_barsInAll_19 : decode cX7_barsInAll 19 = .ok (.iadd, 1) := by decide +kernel
theorem dX7_barsInAll_20 : decode cX7_barsInAll 20 = .ok (.istore_n 1, 1) := by decide +kernel
theorem dX7_barsInAll_21 : decode cX7_barsInAll 21 = .ok (.iinc 2 1, 3) := by decide +kernel
theorem dX7_barsInAll_24 : decode cX7_barsInAll 24 = .ok (.goto (-20), 3) := by decide +kernel
theorem dX7_barsInAll_27 : decode cX7_barsInAll 27 = .ok (.iload_n 1, 1) := by decide +kernel
theorem dX7_barsInAll_28 : decode cX7_barsInAll 28 = .ok (.ireturn, 1) := by decide +kernel
def S_X7_barsInAll_4 (fn : Nat → Int → Int → Option (Int)) (p : Program) (l : Launch) (e : Env) (R : Room) (s : State) (m : MethodId) (args : Array Value) (below : List Frame) (meth : Method) (c : Code) (G : GT) (σ : Mem) (res : Int) : Prop := ∀ (H : Heap) (locs : List Loc) (ls : Array Slot) (l0 : Nat) (l1 : Int) (l2 : Int), kd l0 = 7 → PW G σ H → va_S (AA G) s.heap H locs → fn l0 l1 l2 = some res → lv_has ls 3 [(0, .ref (gh G + l0)), (1, .int (i32 l1)), (2, .int (i32 l2))] → W p l e R s m args below meth c H locs 0 0 (MQ below (QM G (some (.int (i32 res))) σ) args s 0 0 (AA G)) (F0 m 4 ls [])
def X7_barsInAll_B4 (rec4 : Nat → Int → Int → Option (Int)) (σ : Mem) (l0 : Nat) (l1 : Int) (l2 : Int) : Option (Int) :=
  if w32 4 ≤ w32 l2 then
    some l1
  else
  ag 4 l2 fun j1 =>
  lt (l1 + (σ (l0 + 1 + 7 + 3 * j1) 2)) fun l1_2 =>
  lt (l2 + 1) fun l2_3 =>
  rec4 l0 l1_2 l2_3
def X7_barsInAll_L4 (σ : Mem) : Nat → Nat → Int → Int → Option (Int)
  | 0 => fun _ _ _ => none
  | n + 1 => X7_barsInAll_B4 (X7_barsInAll_L4 σ n) σ
def X7_barsInAll (σ : Mem) (l0 : Nat) : Option (Int) :=
  X7_barsInAll_L4 σ 5000 l0 0 0
def S_X7_barsInAll_0 (fn : Nat → Option (Int)) (p : Program) (l : Launch) (e : Env) (R : Room) (s : State) (m : MethodId) (args : Array Value) (below : List Frame) (meth : Method) (c : Code) (G : GT) (σ : Mem) (res : Int) : Prop := ∀ (H : Heap) (locs : List Loc) (ls : Array Slot) (l0 : Nat), kd l0 = 7 → PW G σ H → va_S (AA G) s.heap H locs → fn l0 = some res → lv_has ls 3 [(0, .ref (gh G + l0))] → W p l e R s m args below meth c H locs 0 0 (MQ below (QM G (some (.int (i32 res))) σ) args s 0 0 (AA G)) (F0 m 0 ls [])
set_option maxHeartbeats 4000000 in
theorem a_X7_barsInAll_4 {p : Program} {l : Launch} {e : Env} {R : Room} {s : State} {m : MethodId} {args : Array Value} {below : List Frame} {meth : Method} {c : Code} {G : GT} {σ : Mem} {res : Int} {rec4 : Nat → Int → Int → Option (Int)} (X : CX p R s m args meth c cX7_barsInAll 3 RX7 (some FieldType.int) 1 60 G) (h4 : S_X7_barsInAll_4 rec4 p l e R s m args below meth c G σ res) : S_X7_barsInAll_4 (X7_barsInAll_B4 rec4 σ) p l e R s m args below meth c G σ res := by
  intro H locs ls l0 l1 l2 hk_l0 hP hS hf hl
  unfold X7_barsInAll_B4 at hf
  refine lv_iload_n X.1 X.2.1 dX7_barsInAll_4 rfl (lv_at hl 2 rfl) ?_
  refine r_iconst X 4 dX7_barsInAll_5 ?_
  refine r_icmp_ge (tgt := 27) X dX7_barsInAll_6 (by decide) (fun q => ?_) (fun q => ?_)
  · replace hf := it_inv q hf
    refine lv_iload_n X.1 X.2.1 dX7_barsInAll_27 rfl (lv_at hl 1 rfl) ?_
    cases so_inv hf
    exact r_iret X hP hS dX7_barsInAll_28
  · replace hf := ie_inv q hf
    refine lv_iload_n X.1 X.2.1 dX7_barsInAll_9 rfl (lv_at hl 1 rfl) ?_
    refine lv_aload_n X.1 X.2.1 dX7_barsInAll_10 rfl (lv_at hl 0 rfl) ?_
    refine g_7_0 (r := l0 + 1) X hP hk_l0 rfl (tb t_168 rfl) dX7_barsInAll_11 ?_
    refine lv_iload_n X.1 X.2.1 dX7_barsInAll_14 rfl (lv_at hl 2 rfl) ?_
    obtain ⟨j1, hij1, hjj1, hlj1, hf⟩ := ag_inv hf
    refine r_aald18 (r := l0 + 1 + 7 + 3 * j1) X hP (ch_7_0 hk_l0).1 (ch_7_0 hk_l0).2 hij1 hjj1 rfl dX7_barsInAll_15 ?_
    refine g_5_2 X hP ((ch_18 (ch_7_0 hk_l0).1).2 j1 hlj1) (tb t_158 rfl) dX7_barsInAll_16 ?_
    refine r_iadd X dX7_barsInAll_19 ?_
    obtain ⟨l1_2, el1_2, hf⟩ := lt_inv hf
    refine r_eqi el1_2 ?_
    refine lv_istore_n (lv' := [(1, .int (i32 l1_2)), (0, .ref (gh G + l0)), (2, .int (i32 l2))]) X.1 X.2.1 dX7_barsInAll_20 rfl hl (by decide) rfl (fun ls hl => ?_)
    obtain ⟨l2_3, el2_3, hf⟩ := lt_inv hf
    refine lv_iinc (v := i32 l2_3) (lv' := [(2, .int (i32 l2_3)), (1, .int (i32 l1_2)), (0, .ref (gh G + l0))]) X.1 X.2.1 dX7_barsInAll_21 hl (k := 2) rfl (by rw [← el2_3]; exact i32_add _ _) (by decide) rfl (fun ls hl => ?_)
    refine lv_goto (tgt := 4) X.1 X.2.1 dX7_barsInAll_24 (by decide) ?_
    exact h4  H locs ls l0 l1_2 l2_3 hk_l0 hP hS hf (lv_sub hl [2, 1, 0] rfl)
theorem al_X7_barsInAll_4 {p : Program} {l : Launch} {e : Env} {R : Room} {s : State} {m : MethodId} {args : Array Value} {below : List Frame} {meth : Method} {c : Code} {G : GT} {σ : Mem} {res : Int} (X : CX p R s m args meth c cX7_barsInAll 3 RX7 (some FieldType.int) 1 60 G) : ∀ n, S_X7_barsInAll_4 (X7_barsInAll_L4 σ n) p l e R s m args below meth c G σ res := by
  intro n
  induction n with
  | zero =>
    intro H locs ls l0 l1 l2 hk_l0 hP hS hf hl
    cases hf
  | succ n ih => exact a_X7_barsInAll_4 X ih
set_option maxHeartbeats 4000000 in
theorem a_X7_barsInAll_0 {p : Program} {l : Launch} {e : Env} {R : Room} {s : State} {m : MethodId} {args : Array Value} {below : List Frame} {meth : Method} {c : Code} {G : GT} {σ : Mem} {res : Int} (X : CX p R s m args meth c cX7_barsInAll 3 RX7 (some FieldType.int) 1 60 G) : S_X7_barsInAll_0 (X7_barsInAll σ) p l e R s m args below meth c G σ res := by
  intro H locs ls l0 hk_l0 hP hS hf hl
  unfold X7_barsInAll at hf
  refine r_iconst X 0 dX7_barsInAll_0 ?_
  refine lv_istore_n (lv' := [(1, .int (i32 0)), (0, .ref (gh G + l0))]) X.1 X.2.1 dX7_barsInAll_1 rfl hl (by decide) rfl (fun ls hl => ?_)
  refine r_iconst X 0 dX7_barsInAll_2 ?_
  refine lv_istore_n (lv' := [(2, .int (i32 0)), (1, .int (i32 0)), (0, .ref (gh G + l0))]) X.1 X.2.1 dX7_barsInAll_3 rfl hl (by decide) rfl (fun ls hl => ?_)
  exact al_X7_barsInAll_4 X 5000  H locs ls l0 0 0 hk_l0 hP hS hf (lv_sub hl [2, 1, 0] rfl)
set_option maxHeartbeats 4000000 in
theorem c_X7_barsInAll {l : Launch} {G : GT} {σ : Mem} {res : Int} {l0 : Nat} (hk_l0 : kd l0 = 7) (hf : X7_barsInAll σ l0 = some res) : CT l yX7_barsInAll cX7_barsInAll 3 (some FieldType.int) 1 60 G [.ref (gh G + l0)] σ σ (some (.int (i32 res))) := by
  refine CT.mk (own := RX7) (by decide) rfl (Nat.le_of_ble_eq_true rfl) ?_
  intro p e s m below meth c ls X hP hS hl
  have hl : lv_has ls 3 [(0, .ref (gh G + l0))] := hl
  exact a_X7_barsInAll_0 X  s.heap [] ls l0 hk_l0 hP hS hf hl
theorem k_X7_barsInAll {p : Program} {l : Launch} {e : Env} {R : Room} {s : State} {m : MethodId} {args : Array Value} {below : List Frame} {meth : Method} {c : Code} {H : Heap} {locs : List Loc} {Q : State → Prop} {cc : ByteArray} {nL : Nat} {own : String} {ret : Option FieldType} {fF fL : Nat} {G : GT} {pc idx : Nat} {ls : Array Slot} {rest : List Value} {σ : Mem} {res : Int} {l0 : Nat} (X : CX p R s m args meth c cc nL own ret fF fL G) (hP : PW G σ H) (hS : va_S (AA G) s.heap H locs) (hls : ls.size = nL) (hk_l0 : kd l0 = 7) (hf : X7_barsInAll σ l0 = some res) (h1 : Cond.methodLink own idx yX7_barsInAll ∈ TB) (hR : 1 + 1 ≤ fF ∧ 8 + (3 + 11) + 60 ≤ fL) (hW : (rest.map fun v => v.category).sum ≤ 8) (hd : decode cc pc = .ok (.invokevirtual idx, 3)) (kk : ∀ (H1 : Heap) (locs1 : List Loc), PW G σ H1 → va_S (AA G) s.heap H1 locs1 → W p l e R s m args below meth c H1 locs1 0 0 Q (F0 m (pc + 3) ls (.int (i32 res) :: rest))) : W p l e R s m args below meth c H locs 0 0 Q (F0 m pc ls (.ref (gh G + l0) :: rest)) := r_callV (n := 0) X hP hS hls (c_X7_barsInAll hk_l0 hf) h1 (tb t_1059 rfl) (tb t_1060 rfl) (tb t_76 rfl) (tb t_1061 rfl) (by decide +kernel) hR (r_recv X hP (kd_lt hk_l0 (by decide)) (cE_7 hk_l0) rfl) rfl rfl hW hd kk
/-! X10_count -/
theorem dX10_count_0 : decode cX10_count 0 = .ok (.iload_n 1, 1) := by decide +kernel
theorem dX10_count_1 : decode cX10_count 1 = .ok (.tableswitch 72 0 3 #[31, 39, 50, 61], 31) := by decide +kernel
theorem dX10_count_32 : decode cX10_count 32 = .ok (.aload_n 0, 1) := by decide +kernel
theorem dX10_count_33 : decode cX10_count 33 = .ok (.getfield 10, 3) := by decide +kernel
theorem dX10_count_36 : decode cX10_count 36 = .ok (.invokevirtual 339, 3) := by decide +kernel
theorem dX10_count_39 : decode cX10_count 39 = .ok (.ireturn, 1) := by decide +kernel
theorem dX10_count_40 : decode cX10_count 40 = .ok (.aload_n 0, 1) := by decide +kernel
theorem dX10_count_41 : decode cX10_count 41 = .ok (.getfield 10, 3) := by decide +kernel
theorem dX10_count_44 : decode cX10_count 44 = .ok (.getfield 152, 3) := by decide +kernel
theorem dX10_count_47 : decode cX10_count 47 = .ok (.getfield 287, 3) := by decide +kernel
theorem dX10_count_50 : decode cX10_count 50 = .ok (.ireturn, 1) := by decide +kernel
theorem dX10_count_51 : decode cX10_count 51 = .ok (.aload_n 0, 1) := by decide +kernel
theorem dX10_count_52 : decode cX10_count 52 = .ok (.getfield 22, 3) := by decide +kernel
theorem dX10_count_55 : decode cX10_count 55 = .ok (.getfield 101, 3) := by decide +kernel
theorem dX10_count_58 : decode cX10_count 58 = .ok (.getfield 115, 3) := by decide +kernel
theorem dX10_count_61 : decode cX10_count 61 = .ok (.ireturn, 1) := by decide +kernel
theorem dX10_count_62 : decode cX10_count 62 = .ok (.aload_n 0, 1) := by decide +kernel
theorem dX10_count_63 : decode cX10_count 63 = .ok (.getfield 10, 3) := by decide +kernel
theorem dX10_count_66 : decode cX10_count 66 = .ok (.getfield 152, 3) := by decide +kernel
theorem dX10_count_69 : decode cX10_count 69 = .ok (.invokevirtual 342, 3) := by decide +kernel
theorem dX10_count_72 : decode cX10_count 72 = .ok (.ireturn, 1) := by decide +kernel
theorem dX10_count_73 : decode cX10_count 73 = .ok (.aload_n 0, 1) := by decide +kernel
theorem dX10_count_74 : decode cX10_count 74 = .ok (.ldc 72, 2) := by decide +kernel
theorem dX10_count_76 : decode cX10_count 76 = .ok (.invokevirtual 73, 3) := by decide +kernel
theorem dX10_count_79 : decode cX10_count 79 = .ok (.ireturn, 1) := by decide +kernel
def X10_count (σ : Mem) (l1 : Int) : Option (Int × Mem) :=
  if w32 l1 = 0 then
    bd (X7_barsInAll σ 1) fun r1 =>
    some (r1, σ)
  else
  if w32 l1 = 1 then
    some (σ 4 3, σ)
  else
  if w32 l1 = 2 then
    some (σ 42 1, σ)
  else
  if w32 l1 = 3 then
    bd (X0_heldSpots σ 4) fun r2 =>
    some (r2, σ)
  else
  bd2 (X10_tell σ (-1000001)) fun r3 s4 =>
  some (r3, s4)
def S_X10_count_0 (fn : Mem → Int → Option (Int × Mem)) (p : Program) (l : Launch) (e : Env) (R : Room) (s : State) (m : MethodId) (args : Array Value) (below : List Frame) (meth : Method) (c : Code) (G : GT) (τ : Mem) (res : Int) : Prop := ∀ (σ : Mem) (H : Heap) (locs : List Loc) (ls : Array Slot) (l1 : Int), PW G σ H → va_S (AA G) s.heap H locs → fn σ l1 = some (res, τ) → lv_has ls 2 [(0, .ref (gh G + 0)), (1, .int (i32 l1))] → W p l e R s m args below meth c H locs 0 0 (MQ below (QM G (some (.int (i32 res))) τ) args s 0 0 (AA G)) (F0 m 0 ls [])
set_option maxHeartbeats 4000000 in
theorem a_X10_count_0 {p : Program} {l : Launch} {e : Env} {R : Room} {s : State} {m : MethodId} {args : Array Value} {below : List Frame} {meth : Method} {c : Code} {G : GT} {τ : Mem} {res : Int} (X : CX p R s m args meth c cX10_count 2 RX10 (some FieldType.int) 3 104 G) : S_X10_count_0 (X10_count) p l e R s m args below meth c G τ res := by
  intro σ H locs ls l1 hP hS hf hl
  unfold X10_count at hf
  refine lv_iload_n X.1 X.2.1 dX10_count_0 rfl (lv_at hl 1 rfl) ?_
  by_cases q0 : w32 l1 = 0
  · replace hf := it_inv q0 hf
    refine r_tsI (tgt := 32) (off := 31) X 0 dX10_count_1 q0 (by decide) (by decide) ?_
    refine lv_aload_n X.1 X.2.1 dX10_count_32 rfl (lv_at hl 0 rfl) ?_
    refine g_10_0 (r := 1) X hP ks_10 rfl (tb t_388 rfl) dX10_count_33 ?_
    obtain ⟨r1, hr1, hf⟩ := bd_inv hf
    refine k_X7_barsInAll X hP hS hl.1 (ch_10_0 ks_10).1 hr1 (tb t_1058 rfl) (by decide) (Nat.le_of_ble_eq_true rfl) dX10_count_36 (fun H locs hP hS => ?_)
    obtain ⟨rfl, rfl⟩ := so2_inv hf
    exact r_iret X hP hS dX10_count_39
  replace hf := ie_inv q0 hf
  by_cases q1 : w32 l1 = 1
  · replace hf := it_inv q1 hf
    refine r_tsI (tgt := 40) (off := 39) X 1 dX10_count_1 q1 (by decide) (by decide) ?_
    refine lv_aload_n X.1 X.2.1 dX10_count_40 rfl (lv_at hl 0 rfl) ?_
    refine g_10_0 (r := 1) X hP ks_10 rfl (tb t_388 rfl) dX10_count_41 ?_
    refine g_7_2 (r := 4) X hP (ch_10_0 ks_10).1 rfl (tb t_174 rfl) dX10_count_44 ?_
    refine g_0_3 X hP (ch_7_2 (ch_10_0 ks_10).1).1 (tb t_131 rfl) dX10_count_47 ?_
    obtain ⟨rfl, rfl⟩ := so2_inv hf
    exact r_iret X hP hS dX10_count_50
  replace hf := ie_inv q1 hf
  by_cases q2 : w32 l1 = 2
  · replace hf := it_inv q2 hf
    refine r_tsI (tgt := 51) (off := 50) X 2 dX10_count_1 q2 (by decide) (by decide) ?_
    refine lv_aload_n X.1 X.2.1 dX10_count_51 rfl (lv_at hl 0 rfl) ?_
    refine g_10_3 (r := 41) X hP ks_10 rfl (tb t_391 rfl) dX10_count_52 ?_
    refine g_9_0 (r := 42) X hP ks_9 rfl (tb t_216 rfl) dX10_count_55 ?_
    refine g_8_1 X hP ks_8 (tb t_196 rfl) dX10_count_58 ?_
    obtain ⟨rfl, rfl⟩ := so2_inv hf
    exact r_iret X hP hS dX10_count_61
  replace hf := ie_inv q2 hf
  by_cases q3 : w32 l1 = 3
  · replace hf := it_inv q3 hf
    refine r_tsI (tgt := 62) (off := 61) X 3 dX10_count_1 q3 (by decide) (by decide) ?_
    refine lv_aload_n X.1 X.2.1 dX10_count_62 rfl (lv_at hl 0 rfl) ?_
    refine g_10_0 (r := 1) X hP ks_10 rfl (tb t_388 rfl) dX10_count_63 ?_
    refine g_7_2 (r := 4) X hP (ch_10_0 ks_10).1 rfl (tb t_174 rfl) dX10_count_66 ?_
    obtain ⟨r2, hr2, hf⟩ := bd_inv hf
    refine k_X0_heldSpots X hP hS hl.1 (ch_7_2 (ch_10_0 ks_10).1).1 hr2 (tb t_1070 rfl) (by decide) (Nat.le_of_ble_eq_true rfl) dX10_count_69 (fun H locs hP hS => ?_)
    obtain ⟨rfl, rfl⟩ := so2_inv hf
    exact r_iret X hP hS dX10_count_72
  replace hf := ie_inv q3 hf
  refine r_tsO (tgt := 73) X dX10_count_1 (by omega) (by decide) ?_
  refine lv_aload_n X.1 X.2.1 dX10_count_73 rfl (lv_at hl 0 rfl) ?_
  refine r_ldc X (-1000001) (tb t_430 rfl) (by decide) dX10_count_74 ?_
  obtain ⟨r3, s4, hr3, hf⟩ := bd2_inv hf
  refine k_X10_tell X hP hS hl.1  hr3 (tb t_431 rfl) (by decide) (Nat.le_of_ble_eq_true rfl) dX10_count_76 (fun H locs hP hS => ?_)
  obtain ⟨rfl, rfl⟩ := so2_inv hf
  exact r_iret X hP hS dX10_count_79
set_option maxHeartbeats 4000000 in
theorem c_X10_count {l : Launch} {G : GT} {σ τ : Mem} {res : Int} {l1 : Int} (hf : X10_count σ l1 = some (res, τ)) : CT l yX10_count cX10_count 2 (some FieldType.int) 3 104 G [.ref (gh G + 0), .int (i32 l1)] σ τ (some (.int (i32 res))) := by
  refine CT.mk (own := RX10) (by decide) rfl (Nat.le_of_ble_eq_true rfl) ?_
  intro p e s m below meth c ls X hP hS hl
  have hl : lv_has ls 2 [(0, .ref (gh G + 0)), (1, .int (i32 l1))] := hl
  exact a_X10_count_0 X σ s.heap [] ls l1 hP hS hf hl
theorem k_X10_count {p : Program} {l : Launch} {e : Env} {R : Room} {s : State} {m : MethodId} {args : Array Value} {below : List Frame} {meth : Method} {c : Code} {H : Heap} {locs : List Loc} {Q : State → Prop} {cc : ByteArray} {nL : Nat} {own : String} {ret : Option FieldType} {fF fL : Nat} {G : GT} {pc idx : Nat} {ls : Array Slot} {rest : List Value} {σ τ : Mem} {res : Int} {l1 : Int} (X : CX p R s m args meth c cc nL own ret fF fL G) (hP : PW G σ H) (hS : va_S (AA G) s.heap H locs) (hls : ls.size = nL) (hf : X10_count σ l1 = some (res, τ)) (h1 : Cond.methodLink own idx yX10_count ∈ TB) (hR : 3 + 1 ≤ fF ∧ 8 + (2 + 11) + 104 ≤ fL) (hW : (rest.map fun v => v.category).sum ≤ 8) (hd : decode cc pc = .ok (.invokevirtual idx, 3)) (kk : ∀ (H1 : Heap) (locs1 : List Loc), PW G τ H1 → va_S (AA G) s.heap H1 locs1 → W p l e R s m args below meth c H1 locs1 0 0 Q (F0 m (pc + 3) ls (.int (i32 res) :: rest))) : W p l e R s m args below meth c H locs 0 0 Q (F0 m pc ls (.int (i32 l1) :: .ref (gh G + 0) :: rest)) := r_callV (n := 1) X hP hS hls (c_X10_count hf) h1 (tb t_1067 rfl) (tb t_1068 rfl) (tb t_75 rfl) (tb t_1069 rfl) (by decide +kernel) hR (r_recv X hP (kd_lt ks_10 (by decide)) (cE_10 ks_10) rfl) rfl rfl hW hd kk
/-! X5_drop -/
theorem dX5_drop_0 : decode cX5_drop 0 = .ok (.iload_n 1, 1) := by decide +kernel
theorem dX5_drop_1 : decode cX5_drop 1 = .ok (.iload_n 2, 1) := by decide +kernel
theorem dX5_drop_2 : decode cX5_drop 2 = .ok (.iadd, 1) := by decide +kernel
theorem dX5_drop_3 : decode cX5_drop 3 = .ok (.istore_n 3, 1) := by decide +kernel
theorem dX5_drop_4 : decode cX5_drop 4 = .ok (.aload_n 0, 1) := by decide +kernel
theorem dX5_drop_5 : decode cX5_drop 5 = .ok (.getfield 15, 3) := by decide +kernel
theorem dX5_drop_8 : decode cX5_drop 8 = .ok (.iload_n 3, 1) := by decide +kernel
theorem dX5_drop_9 : decode cX5_drop 9 = .ok (.iconst 4, 1) := by decide +kernel
theorem dX5_drop_10 : decode cX5_drop 10 = .ok (.imul, 1) := by decide +kernel
theorem dX5_drop_11 : decode cX5_drop 11 = .ok (.aload_n 0, 1) := by decide +kernel
theorem dX5_drop_12 : decode cX5_drop 12 = .ok (.getfield 15, 3) := by decide +kernel
theorem dX5_drop_15 : decode cX5_drop 15 = .ok (.iload_n 1, 1) := by decide +kernel
theorem dX5_drop_16 : decode cX5_drop 16 = .ok (.iconst 4, 1) := by decide +kernel
theorem dX5_drop_17 : decode cX5_drop 17 = .ok (.imul, 1) := by decide +kernel
theorem dX5_drop_18 : decode cX5_drop 18 = .ok (.aload_n 0, 1) := by decide +kernel
theorem dX5_drop_19 : decode cX5_drop 19 = .ok (.getfield 18, 3) := by decide +kernel
theorem dX5_drop_22 : decode cX5_drop 22 = .ok (.iload_n 3, 1) := by decide +kernel
theorem dX5_drop_23 : decode cX5_drop 23 = .ok (.isub, 1) := by decide +kernel
theorem dX5_drop_24 : decode cX5_drop 24 = .ok (.iconst 4, 1) := by decide +kernel
theorem dX5_drop_25 : decode cX5_drop 25 = .ok (.imul, 1) := by decide +kernel
theorem dX5_drop_26 : decode cX5_drop 26 = .ok (.invokestatic 22, 3) := by decide +kernel
theorem dX5_drop_29 : decode cX5_drop 29 = .ok (.aload_n 0, 1) := by decide +kernel
theorem dX5_drop_30 : decode cX5_drop 30 = .ok (.dup, 1) := by decide +kernel
theorem dX5_drop_31 : decode cX5_drop 31 = .ok (.getfield 18, 3) := by decide +kernel
theorem dX5_drop_34 : decode cX5_drop 34 = .ok (.iload_n 2, 1) := by decide +kernel
theorem dX5_drop_35 : decode cX5_drop 35 = .ok (.isub, 1) := by decide +kernel
theorem dX5_drop_36 : decode cX5_drop 36 = .ok (.putfield 18, 3) := by decide +kernel
theorem dX5_drop_39 : decode cX5_drop 39 = .ok (.return_, 1) := by decide +kernel
def X5_drop (σ : Mem) (l0 : Nat) (l1 : Int) (l2 : Int) : Option (Mem) :=
  lt (l1 + l2) fun l3_1 =>
  ac 160 160 (l3_1 * 4) (l1 * 4) (((σ l0 2) - l3_1) * 4) <|
  lt (cpy σ (l0 + 2) (w32 (l3_1 * 4)).toNat (l0 + 2) (w32 (l1 * 4)).toNat (w32 (((σ l0 2) - l3_1) * 4)).toNat) fun s3 =>
  lt (st s3 l0 2 ((s3 l0 2) - l2)) fun s4 =>
  some s4
def S_X5_drop_0 (fn : Mem → Nat → Int → Int → Option (Mem)) (p : Program) (l : Launch) (e : Env) (R : Room) (s : State) (m : MethodId) (args : Array Value) (below : List Frame) (meth : Method) (c : Code) (G : GT) (τ : Mem) : Prop := ∀ (σ : Mem) (H : Heap) (locs : List Loc) (ls : Array Slot) (l0 : Nat) (l1 : Int) (l2 : Int), kd l0 = 5 → PW G σ H → va_S (AA G) s.heap H locs → fn σ l0 l1 l2 = some τ → lv_has ls 4 [(0, .ref (gh G + l0)), (1, .int (i32 l1)), (2, .int (i32 l2))] → W p l e R s m args below meth c H locs 0 0 (MQ below (QM G none τ) args s 0 0 (AA G)) (F0 m 0 ls [])
set_option maxHeartbeats 4000000 in
theorem a_X5_drop_0 {p : Program} {l : Launch} {e : Env} {R : Room} {s : State} {m : MethodId} {args : Array Value} {below : List Frame} {meth : Method} {c : Code} {G : GT} {τ : Mem} (X : CX p R s m args meth c cX5_drop 4 RX5 none 1 60 G) : S_X5_drop_0 (X5_drop) p l e R s m args below meth c G τ := by
  intro σ H locs ls l0 l1 l2 hk_l0 hP hS hf hl
  unfold X5_drop at hf
  refine lv_iload_n X.1 X.2.1 dX5_drop_0 rfl (lv_at hl 1 rfl) ?_
  refine lv_iload_n X.1 X.2.1 dX5_drop_1 rfl (lv_at hl 2 rfl) ?_
  refine r_iadd X dX5_drop_2 ?_
  obtain ⟨l3_1, el3_1, hf⟩ := lt_inv hf
  refine r_eqi el3_1 ?_
  refine lv_istore_n (lv' := [(3, .int (i32 l3_1)), (0, .ref (gh G + l0)), (1, .int (i32 l1)), (2, .int (i32 l2))]) X.1 X.2.1 dX5_drop_3 rfl hl (by decide) rfl (fun ls hl => ?_)
  refine lv_aload_n X.1 X.2.1 dX5_drop_4 rfl (lv_at hl 1 rfl) ?_
  refine g_5_1 (r := l0 + 2) X hP hk_l0 rfl (tb t_154 rfl) dX5_drop_5 ?_
  refine lv_iload_n X.1 X.2.1 dX5_drop_8 rfl (lv_at hl 0 rfl) ?_
  refine r_iconst X 4 dX5_drop_9 ?_
  refine r_imul X dX5_drop_10 ?_
  refine lv_aload_n X.1 X.2.1 dX5_drop_11 rfl (lv_at hl 1 rfl) ?_
  refine g_5_1 (r := l0 + 2) X hP hk_l0 rfl (tb t_154 rfl) dX5_drop_12 ?_
  refine lv_iload_n X.1 X.2.1 dX5_drop_15 rfl (lv_at hl 2 rfl) ?_
  refine r_iconst X 4 dX5_drop_16 ?_
  refine r_imul X dX5_drop_17 ?_
  refine lv_aload_n X.1 X.2.1 dX5_drop_18 rfl (lv_at hl 1 rfl) ?_
  refine g_5_2 X hP hk_l0 (tb t_156 rfl) dX5_drop_19 ?_
  refine lv_iload_n X.1 X.2.1 dX5_drop_22 rfl (lv_at hl 0 rfl) ?_
  refine r_isub X dX5_drop_23 ?_
  refine r_iconst X 4 dX5_drop_24 ?_
  refine r_imul X dX5_drop_25 ?_
  obtain ⟨hc2, hf⟩ := ac_inv hf
  refine r_acopy X hl.1 hP hS (tb t_627 rfl) (tb t_618 rfl) (tb t_617 rfl) (tb t_93 rfl) (by decide) (Nat.le_of_ble_eq_true rfl) (ch_5_1 hk_l0).1 (ch_5_1 hk_l0).2 (ch_5_1 hk_l0).1 (ch_5_1 hk_l0).2 hc2 dX5_drop_26 (fun H locs hP hS => ?_)
  obtain ⟨s3, es3, hf⟩ := lt_inv hf
  rw [es3] at hP
  refine lv_aload_n X.1 X.2.1 dX5_drop_29 rfl (lv_at hl 1 rfl) ?_
  refine lv_dup X.1 X.2.1 dX5_drop_30 rfl ?_
  refine g_5_2 X hP hk_l0 (tb t_156 rfl) dX5_drop_31 ?_
  refine lv_iload_n X.1 X.2.1 dX5_drop_34 rfl (lv_at hl 3 rfl) ?_
  refine r_isub X dX5_drop_35 ?_
  refine p_5_2 X hP hS hk_l0 (tb t_156 rfl) dX5_drop_36 (fun H locs hP hS => ?_)
  obtain ⟨s4, es4, hf⟩ := lt_inv hf
  rw [es4] at hP
  cases so_inv hf
  exact r_vret X hP hS dX5_drop_39
set_option maxHeartbeats 4000000 in
theorem c_X5_drop {l : Launch} {G : GT} {σ τ : Mem} {l0 : Nat} {l1 : Int} {l2 : Int} (hk_l0 : kd l0 = 5) (hf : X5_drop σ l0 l1 l2 = some τ) : CT l yX5_drop cX5_drop 4 none 1 60 G [.ref (gh G + l0), .int (i32 l1), .int (i32 l2)] σ τ none := by
  refine CT.mk (own := RX5) (by decide) rfl (Nat.le_of_ble_eq_true rfl) ?_
  intro p e s m below meth c ls X hP hS hl
  have hl : lv_has ls 4 [(0, .ref (gh G + l0)), (1, .int (i32 l1)), (2, .int (i32 l2))] := hl
  exact a_X5_drop_0 X σ s.heap [] ls l0 l1 l2 hk_l0 hP hS hf hl
theorem k_X5_drop {p : Program} {l : Launch} {e : Env} {R : Room} {s : State} {m : MethodId} {args : Array Value} {below : List Frame} {meth : Method} {c : Code} {H : Heap} {locs : List Loc} {Q : State → Prop} {cc : ByteArray} {nL : Nat} {own : String} {ret : Option FieldType} {fF fL : Nat} {G : GT} {pc idx : Nat} {ls : Array Slot} {rest : List Value} {σ τ : Mem} {l0 : Nat} {l1 : Int} {l2 : Int} (X : CX p R s m args meth c cc nL own ret fF fL G) (hP : PW G σ H) (hS : va_S (AA G) s.heap H locs) (hls : ls.size = nL) (hk_l0 : kd l0 = 5) (hf : X5_drop σ l0 l1 l2 = some τ) (h1 : Cond.methodLink own idx yX5_drop ∈ TB) (hR : 1 + 1 ≤ fF ∧ 8 + (4 + 11) + 60 ≤ fL) (hW : (rest.map fun v => v.category).sum ≤ 8) (hd : decode cc pc = .ok (.invokevirtual idx, 3)) (kk : ∀ (H1 : Heap) (locs1 : List Loc), PW G τ H1 → va_S (AA G) s.heap H1 locs1 → W p l e R s m args below meth c H1 locs1 0 0 Q (F0 m (pc + 3) ls (rest))) : W p l e R s m args below meth c H locs 0 0 Q (F0 m pc ls (.int (i32 l2) :: .int (i32 l1) :: .ref (gh G + l0) :: rest)) := r_callV (n := 2) X hP hS hls (c_X5_drop hk_l0 hf) h1 (tb t_662 rfl) (tb t_663 rfl) (tb t_79 rfl) (tb t_664 rfl) (by decide +kernel) hR (r_recv X hP (kd_lt hk_l0 (by decide)) (cE_5 hk_l0) rfl) rfl rfl hW hd kk
