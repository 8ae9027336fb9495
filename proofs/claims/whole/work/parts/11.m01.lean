/-! X10_tableOf -/
theorem dX10_tableOf_0 : decode cX10_tableOf 0 = .ok (.aload_n 0, 1) := by decide +kernel
theorem dX10_tableOf_1 : decode cX10_tableOf 1 = .ok (.getfield 34, 3) := by decide +kernel
theorem dX10_tableOf_4 : decode cX10_tableOf 4 = .ok (.iload_n 1, 1) := by decide +kernel
theorem dX10_tableOf_5 : decode cX10_tableOf 5 = .ok (.aaload, 1) := by decide +kernel
theorem dX10_tableOf_6 : decode cX10_tableOf 6 = .ok (.astore_n 2, 1) := by decide +kernel
theorem dX10_tableOf_7 : decode cX10_tableOf 7 = .ok (.aload_n 2, 1) := by decide +kernel
theorem dX10_tableOf_8 : decode cX10_tableOf 8 = .ok (.getfield 350, 3) := by decide +kernel
theorem dX10_tableOf_11 : decode cX10_tableOf 11 = .ok (.ifCond .ne 30, 3) := by decide +kernel
theorem dX10_tableOf_14 : decode cX10_tableOf 14 = .ok (.aload_n 2, 1) := by decide +kernel
theorem dX10_tableOf_15 : decode cX10_tableOf 15 = .ok (.aload_n 0, 1) := by decide +kernel
theorem dX10_tableOf_16 : decode cX10_tableOf 16 = .ok (.getfield 10, 3) := by decide +kernel
theorem dX10_tableOf_19 : decode cX10_tableOf 19 = .ok (.getfield 77, 3) := by decide +kernel
theorem dX10_tableOf_22 : decode cX10_tableOf 22 = .ok (.iload_n 1, 1) := by decide +kernel
theorem dX10_tableOf_23 : decode cX10_tableOf 23 = .ok (.aaload, 1) := by decide +kernel
theorem dX10_tableOf_24 : decode cX10_tableOf 24 = .ok (.aload_n 0, 1) := by decide +kernel
theorem dX10_tableOf_25 : decode cX10_tableOf 25 = .ok (.getfield 10, 3) := by decide +kernel
theorem dX10_tableOf_28 : decode cX10_tableOf 28 = .ok (.getfield 95, 3) := by decide +kernel
theorem dX10_tableOf_31 : decode cX10_tableOf 31 = .ok (.aload_n 0, 1) := by decide +kernel
theorem dX10_tableOf_32 : decode cX10_tableOf 32 = .ok (.getfield 47, 3) := by decide +kernel
theorem dX10_tableOf_35 : decode cX10_tableOf 35 = .ok (.getfield 178, 3) := by decide +kernel
theorem dX10_tableOf_38 : decode cX10_tableOf 38 = .ok (.invokevirtual 353, 3) := by decide +kernel
theorem dX10_tableOf_41 : decode cX10_tableOf 41 = .ok (.aload_n 2, 1) := by decide +kernel
theorem dX10_tableOf_42 : decode cX10_tableOf 42 = .ok (.areturn, 1) := by decide +kernel
def X10_tableOf (σ : Mem) (l1 : Int) : Option (Nat × Mem) :=
  ag 4 l1 fun j1 =>
  if w32 (σ (71 + 10 * j1) 2) ≠ 0 then
    some (71 + 10 * j1, σ)
  else
  ag 4 l1 fun j2 =>
  bd (X4_fill σ (71 + 10 * j1) (9 + 3 * j2) 3) fun s4 =>
  some (71 + 10 * j1, s4)
def S_X10_tableOf_0 (fn : Mem → Int → Option (Nat × Mem)) (p : Program) (l : Launch) (e : Env) (R : Room) (s : State) (m : MethodId) (args : Array Value) (below : List Frame) (meth : Method) (c : Code) (G : GT) (τ : Mem) (res : Nat) : Prop := ∀ (σ : Mem) (H : Heap) (locs : List Loc) (ls : Array Slot) (l1 : Int), PW G σ H → va_S (AA G) s.heap H locs → fn σ l1 = some (res, τ) → lv_has ls 3 [(0, .ref (gh G + 0)), (1, .int (i32 l1))] → W p l e R s m args below meth c H locs 0 0 (MQ below (QM G (some (.ref (gh G + res))) τ) args s 0 0 (AA G)) (F0 m 0 ls [])
set_option maxHeartbeats 4000000 in
theorem a_X10_tableOf_0 {p : Program} {l : Launch} {e : Env} {R : Room} {s : State} {m : MethodId} {args : Array Value} {below : List Frame} {meth : Method} {c : Code} {G : GT} {τ : Mem} {res : Nat} (X : CX p R s m args meth c cX10_tableOf 3 RX10 (some (FieldType.object "PageTurns$PageTable")) 5 163 G) : S_X10_tableOf_0 (X10_tableOf) p l e R s m args below meth c G τ res := by
  intro σ H locs ls l1 hP hS hf hl
  unfold X10_tableOf at hf
  refine lv_aload_n X.1 X.2.1 dX10_tableOf_0 rfl (lv_at hl 0 rfl) ?_
  refine g_10_5 (r := 51) X hP ks_10 rfl (tb t_393 rfl) dX10_tableOf_1 ?_
  refine lv_iload_n X.1 X.2.1 dX10_tableOf_4 rfl (lv_at hl 1 rfl) ?_
  obtain ⟨j1, hij1, hjj1, hlj1, hf⟩ := ag_inv hf
  refine r_aald17 (r := 71 + 10 * j1) X hP (ch_10_5 ks_10).1 (ch_10_5 ks_10).2 hij1 hjj1 rfl dX10_tableOf_5 ?_
  refine lv_astore_n (lv' := [(2, .ref (gh G + (71 + 10 * j1))), (0, .ref (gh G + 0)), (1, .int (i32 l1))]) X.1 X.2.1 dX10_tableOf_6 rfl hl (by decide) rfl (fun ls hl => ?_)
  refine lv_aload_n X.1 X.2.1 dX10_tableOf_7 rfl (lv_at hl 0 rfl) ?_
  refine g_4_2 X hP ((ch_17 (ch_10_5 ks_10).1).2 j1 hlj1) (tb t_326 rfl) dX10_tableOf_8 ?_
  refine r_if_ne (tgt := 41) X dX10_tableOf_11 (by decide) (fun q => ?_) (fun q => ?_)
  · replace hf := it_inv q hf
    refine lv_aload_n X.1 X.2.1 dX10_tableOf_41 rfl (lv_at hl 0 rfl) ?_
    obtain ⟨rfl, rfl⟩ := so2_inv hf
    exact r_aret X hP hS dX10_tableOf_42
  · replace hf := ie_inv q hf
    refine lv_aload_n X.1 X.2.1 dX10_tableOf_14 rfl (lv_at hl 0 rfl) ?_
    refine lv_aload_n X.1 X.2.1 dX10_tableOf_15 rfl (lv_at hl 1 rfl) ?_
    refine g_10_0 (r := 1) X hP ks_10 rfl (tb t_388 rfl) dX10_tableOf_16 ?_
    refine g_7_0 (r := 2) X hP (ch_10_0 ks_10).1 rfl (tb t_170 rfl) dX10_tableOf_19 ?_
    refine lv_iload_n X.1 X.2.1 dX10_tableOf_22 rfl (lv_at hl 2 rfl) ?_
    obtain ⟨j2, hij2, hjj2, hlj2, hf⟩ := ag_inv hf
    refine r_aald18 (r := 9 + 3 * j2) X hP (ch_7_0 (ch_10_0 ks_10).1).1 (ch_7_0 (ch_10_0 ks_10).1).2 hij2 hjj2 rfl dX10_tableOf_23 ?_
    refine lv_aload_n X.1 X.2.1 dX10_tableOf_24 rfl (lv_at hl 1 rfl) ?_
    refine g_10_0 (r := 1) X hP ks_10 rfl (tb t_388 rfl) dX10_tableOf_25 ?_
    refine g_7_1 (r := 3) X hP (ch_10_0 ks_10).1 rfl (tb t_172 rfl) dX10_tableOf_28 ?_
    refine lv_aload_n X.1 X.2.1 dX10_tableOf_31 rfl (lv_at hl 1 rfl) ?_
    refine g_10_7 (r := 53) X hP ks_10 rfl (tb t_395 rfl) dX10_tableOf_32 ?_
    refine g_1_0 (r := 54) X hP ks_1 rfl (tb t_273 rfl) dX10_tableOf_35 ?_
    obtain ⟨s4, hr3, hf⟩ := bd_inv hf
    refine k_X4_fill X hP hS hl.1 ((ch_17 (ch_10_5 ks_10).1).2 j1 hlj1) ((ch_18 (ch_7_0 (ch_10_0 ks_10).1).1).2 j2 hlj2) (ch_7_1 (ch_10_0 ks_10).1).1 hr3 (tb t_760 rfl) (by decide) (Nat.le_of_ble_eq_true rfl) dX10_tableOf_38 (fun H locs hP hS => ?_)
    refine lv_aload_n X.1 X.2.1 dX10_tableOf_41 rfl (lv_at hl 0 rfl) ?_
    obtain ⟨rfl, rfl⟩ := so2_inv hf
    exact r_aret X hP hS dX10_tableOf_42
set_option maxHeartbeats 4000000 in
theorem c_X10_tableOf {l : Launch} {G : GT} {σ τ : Mem} {res : Nat} {l1 : Int} (hf : X10_tableOf σ l1 = some (res, τ)) : CT l yX10_tableOf cX10_tableOf 3 (some (FieldType.object "PageTurns$PageTable")) 5 163 G [.ref (gh G + 0), .int (i32 l1)] σ τ (some (.ref (gh G + res))) := by
  refine CT.mk (own := RX10) (by decide) rfl (Nat.le_of_ble_eq_true rfl) ?_
  intro p e s m below meth c ls X hP hS hl
  have hl : lv_has ls 3 [(0, .ref (gh G + 0)), (1, .int (i32 l1))] := hl
  exact a_X10_tableOf_0 X σ s.heap [] ls l1 hP hS hf hl
theorem k_X10_tableOf {p : Program} {l : Launch} {e : Env} {R : Room} {s : State} {m : MethodId} {args : Array Value} {below : List Frame} {meth : Method} {c : Code} {H : Heap} {locs : List Loc} {Q : State → Prop} {cc : ByteArray} {nL : Nat} {own : String} {ret : Option FieldType} {fF fL : Nat} {G : GT} {pc idx : Nat} {ls : Array Slot} {rest : List Value} {σ τ : Mem} {res : Nat} {l1 : Int} (X : CX p R s m args meth c cc nL own ret fF fL G) (hP : PW G σ H) (hS : va_S (AA G) s.heap H locs) (hls : ls.size = nL) (hf : X10_tableOf σ l1 = some (res, τ)) (h1 : Cond.methodLink own idx yX10_tableOf ∈ TB) (hR : 5 + 1 ≤ fF ∧ 8 + (3 + 11) + 163 ≤ fL) (hW : (rest.map fun v => v.category).sum ≤ 8) (hd : decode cc pc = .ok (.invokevirtual idx, 3)) (kk : ∀ (H1 : Heap) (locs1 : List Loc), PW G τ H1 → va_S (AA G) s.heap H1 locs1 → W p l e R s m args below meth c H1 locs1 0 0 Q (F0 m (pc + 3) ls (.ref (gh G + res) :: rest))) : W p l e R s m args below meth c H locs 0 0 Q (F0 m pc ls (.int (i32 l1) :: .ref (gh G + 0) :: rest)) := r_callV (n := 1) X hP hS hls (c_X10_tableOf hf) h1 (tb t_758 rfl) (tb t_25 rfl) (tb t_75 rfl) (tb t_759 rfl) (by decide +kernel) hR (r_recv X hP (kd_lt ks_10 (by decide)) (cE_10 ks_10) rfl) rfl rfl hW hd kk
/-! X5_has -/
theorem dX5_has_0 : decode cX5_has 0 = .ok (.iload_n 1, 1) := by decide +kernel
theorem dX5_has_1 : decode cX5_has 1 = .ok (.ifCond .lt 15, 3) := by decide +kernel
theorem dX5_has_4 : decode cX5_has 4 = .ok (.iload_n 1, 1) := by decide +kernel
theorem dX5_has_5 : decode cX5_has 5 = .ok (.aload_n 0, 1) := by decide +kernel
theorem dX5_has_6 : decode cX5_has 6 = .ok (.getfield 18, 3) := by decide +kernel
theorem dX5_has_9 : decode cX5_has 9 = .ok (.if_icmp .ge 7, 3) := by decide +kernel
theorem dX5_has_12 : decode cX5_has 12 = .ok (.iconst 1, 1) := by decide +kernel
theorem dX5_has_13 : decode cX5_has 13 = .ok (.goto 4, 3) := by decide +kernel
theorem dX5_has_16 : decode cX5_has 16 = .ok (.iconst 0, 1) := by decide +kernel
theorem dX5_has_17 : decode cX5_has 17 = .ok (.ireturn, 1) := by decide +kernel
def X5_has (σ : Mem) (l0 : Nat) (l1 : Int) : Option (Int) :=
  if w32 l1 < 0 then
    some 0
  else
  if w32 (σ l0 2) ≤ w32 l1 then
    some 0
  else
  some 1
def S_X5_has_0 (fn : Nat → Int → Option (Int)) (p : Program) (l : Launch) (e : Env) (R : Room) (s : State) (m : MethodId) (args : Array Value) (below : List Frame) (meth : Method) (c : Code) (G : GT) (σ : Mem) (res : Int) : Prop := ∀ (H : Heap) (locs : List Loc) (ls : Array Slot) (l0 : Nat) (l1 : Int), kd l0 = 5 → PW G σ H → va_S (AA G) s.heap H locs → fn l0 l1 = some res → lv_has ls 2 [(0, .ref (gh G + l0)), (1, .int (i32 l1))] → W p l e R s m args below meth c H locs 0 0 (MQ below (QM G (some (.int (i32 res))) σ) args s 0 0 (AA G)) (F0 m 0 ls [])
set_option maxHeartbeats 4000000 in
theorem a_X5_has_0 {p : Program} {l : Launch} {e : Env} {R : Room} {s : State} {m : MethodId} {args : Array Value} {below : List Frame} {meth : Method} {c : Code} {G : GT} {σ : Mem} {res : Int} (X : CX p R s m args meth c cX5_has 2 RX5 (some FieldType.boolean) 1 60 G) : S_X5_has_0 (X5_has σ) p l e R s m args below meth c G σ res := by
  intro H locs ls l0 l1 hk_l0 hP hS hf hl
  unfold X5_has at hf
  refine lv_iload_n X.1 X.2.1 dX5_has_0 rfl (lv_at hl 1 rfl) ?_
  refine r_if_lt (tgt := 16) X dX5_has_1 (by decide) (fun q => ?_) (fun q => ?_)
  · replace hf := it_inv q hf
    refine r_iconst X 0 dX5_has_16 ?_
    cases so_inv hf
    exact r_zret X hP hS (Or.inl rfl) dX5_has_17
  · replace hf := ie_inv q hf
    refine lv_iload_n X.1 X.2.1 dX5_has_4 rfl (lv_at hl 1 rfl) ?_
    refine lv_aload_n X.1 X.2.1 dX5_has_5 rfl (lv_at hl 0 rfl) ?_
    refine g_5_2 X hP hk_l0 (tb t_156 rfl) dX5_has_6 ?_
    refine r_icmp_ge (tgt := 16) X dX5_has_9 (by decide) (fun q => ?_) (fun q => ?_)
    · replace hf := it_inv q hf
      refine r_iconst X 0 dX5_has_16 ?_
      cases so_inv hf
      exact r_zret X hP hS (Or.inl rfl) dX5_has_17
    · replace hf := ie_inv q hf
      refine r_iconst X 1 dX5_has_12 ?_
      refine lv_goto (tgt := 17) X.1 X.2.1 dX5_has_13 (by decide) ?_
      cases so_inv hf
      exact r_zret X hP hS (Or.inr rfl) dX5_has_17
set_option maxHeartbeats 4000000 in
theorem c_X5_has {l : Launch} {G : GT} {σ : Mem} {res : Int} {l0 : Nat} {l1 : Int} (hk_l0 : kd l0 = 5) (hf : X5_has σ l0 l1 = some res) : CT l yX5_has cX5_has 2 (some FieldType.boolean) 1 60 G [.ref (gh G + l0), .int (i32 l1)] σ σ (some (.int (i32 res))) := by
  refine CT.mk (own := RX5) (by decide) rfl (Nat.le_of_ble_eq_true rfl) ?_
  intro p e s m below meth c ls X hP hS hl
  have hl : lv_has ls 2 [(0, .ref (gh G + l0)), (1, .int (i32 l1))] := hl
  exact a_X5_has_0 X  s.heap [] ls l0 l1 hk_l0 hP hS hf hl
theorem k_X5_has {p : Program} {l : Launch} {e : Env} {R : Room} {s : State} {m : MethodId} {args : Array Value} {below : List Frame} {meth : Method} {c : Code} {H : Heap} {locs : List Loc} {Q : State → Prop} {cc : ByteArray} {nL : Nat} {own : String} {ret : Option FieldType} {fF fL : Nat} {G : GT} {pc idx : Nat} {ls : Array Slot} {rest : List Value} {σ : Mem} {res : Int} {l0 : Nat} {l1 : Int} (X : CX p R s m args meth c cc nL own ret fF fL G) (hP : PW G σ H) (hS : va_S (AA G) s.heap H locs) (hls : ls.size = nL) (hk_l0 : kd l0 = 5) (hf : X5_has σ l0 l1 = some res) (h1 : Cond.methodLink own idx yX5_has ∈ TB) (hR : 1 + 1 ≤ fF ∧ 8 + (2 + 11) + 60 ≤ fL) (hW : (rest.map fun v => v.category).sum ≤ 8) (hd : decode cc pc = .ok (.invokevirtual idx, 3)) (kk : ∀ (H1 : Heap) (locs1 : List Loc), PW G σ H1 → va_S (AA G) s.heap H1 locs1 → W p l e R s m args below meth c H1 locs1 0 0 Q (F0 m (pc + 3) ls (.int (i32 res) :: rest))) : W p l e R s m args below meth c H locs 0 0 Q (F0 m pc ls (.int (i32 l1) :: .ref (gh G + l0) :: rest)) := r_callV (n := 1) X hP hS hls (c_X5_has hk_l0 hf) h1 (tb t_637 rfl) (tb t_638 rfl) (tb t_79 rfl) (tb t_639 rfl) (by decide +kernel) hR (r_recv X hP (kd_lt hk_l0 (by decide)) (cE_5 hk_l0) rfl) rfl rfl hW hd kk
/-! X5_fact -/
theorem dX5_fact_0 : decode cX5_fact 0 = .ok (.aload_n 0, 1) := by decide +kernel
theorem dX5_fact_1 : decode cX5_fact 1 = .ok (.getfield 15, 3) := by decide +kernel
theorem dX5_fact_4 : decode cX5_fact 4 = .ok (.iload_n 1, 1) := by decide +kernel
theorem dX5_fact_5 : decode cX5_fact 5 = .ok (.iconst 4, 1) := by decide +kernel
theorem dX5_fact_6 : decode cX5_fact 6 = .ok (.imul, 1) := by decide +kernel
theorem dX5_fact_7 : decode cX5_fact 7 = .ok (.iload_n 2, 1) := by decide +kernel
theorem dX5_fact_8 : decode cX5_fact 8 = .ok (.iadd, 1) := by decide +kernel
theorem dX5_fact_9 : decode cX5_fact 9 = .ok (.iaload, 1) := by decide +kernel
theorem dX5_fact_10 : decode cX5_fact 10 = .ok (.ireturn, 1) := by decide +kernel
def X5_fact (σ : Mem) (l0 : Nat) (l1 : Int) (l2 : Int) : Option (Int) :=
  ag 160 ((l1 * 4) + l2) fun j1 =>
  some (σ (l0 + 2) j1)
def S_X5_fact_0 (fn : Nat → Int → Int → Option (Int)) (p : Program) (l : Launch) (e : Env) (R : Room) (s : State) (m : MethodId) (args : Array Value) (below : List Frame) (meth : Method) (c : Code) (G : GT) (σ : Mem) (res : Int) : Prop := ∀ (H : Heap) (locs : List Loc) (ls : Array Slot) (l0 : Nat) (l1 : Int) (l2 : Int), kd l0 = 5 → PW G σ H → va_S (AA G) s.heap H locs → fn l0 l1 l2 = some res → lv_has ls 3 [(0, .ref (gh G + l0)), (1, .int (i32 l1)), (2, .int (i32 l2))] → W p l e R s m args below meth c H locs 0 0 (MQ below (QM G (some (.int (i32 res))) σ) args s 0 0 (AA G)) (F0 m 0 ls [])
set_option maxHeartbeats 4000000 in
theorem a_X5_fact_0 {p : Program} {l : Launch} {e : Env} {R : Room} {s : State} {m : MethodId} {args : Array Value} {below : List Frame} {meth : Method} {c : Code} {G : GT} {σ : Mem} {res : Int} (X : CX p R s m args meth c cX5_fact 3 RX5 (some FieldType.int) 1 60 G) : S_X5_fact_0 (X5_fact σ) p l e R s m args below meth c G σ res := by
  intro H locs ls l0 l1 l2 hk_l0 hP hS hf hl
  unfold X5_fact at hf
  refine lv_aload_n X.1 X.2.1 dX5_fact_0 rfl (lv_at hl 0 rfl) ?_
  refine g_5_1 (r := l0 + 2) X hP hk_l0 rfl (tb t_154 rfl) dX5_fact_1 ?_
  refine lv_iload_n X.1 X.2.1 dX5_fact_4 rfl (lv_at hl 1 rfl) ?_
  refine r_iconst X 4 dX5_fact_5 ?_
  refine r_imul X dX5_fact_6 ?_
  refine lv_iload_n X.1 X.2.1 dX5_fact_7 rfl (lv_at hl 2 rfl) ?_
  refine r_iadd X dX5_fact_8 ?_
  obtain ⟨j1, hij1, hjj1, hlj1, hf⟩ := ag_inv hf
  refine r_iald X hP (ch_5_1 hk_l0).1 (ch_5_1 hk_l0).2 hij1 hjj1 dX5_fact_9 ?_
  cases so_inv hf
  exact r_iret X hP hS dX5_fact_10
set_option maxHeartbeats 4000000 in
theorem c_X5_fact {l : Launch} {G : GT} {σ : Mem} {res : Int} {l0 : Nat} {l1 : Int} {l2 : Int} (hk_l0 : kd l0 = 5) (hf : X5_fact σ l0 l1 l2 = some res) : CT l yX5_fact cX5_fact 3 (some FieldType.int) 1 60 G [.ref (gh G + l0), .int (i32 l1), .int (i32 l2)] σ σ (some (.int (i32 res))) := by
  refine CT.mk (own := RX5) (by decide) rfl (Nat.le_of_ble_eq_true rfl) ?_
  intro p e s m below meth c ls X hP hS hl
  have hl : lv_has ls 3 [(0, .ref (gh G + l0)), (1, .int (i32 l1)), (2, .int (i32 l2))] := hl
  exact a_X5_fact_0 X  s.heap [] ls l0 l1 l2 hk_l0 hP hS hf hl
theorem k_X5_fact {p : Program} {l : Launch} {e : Env} {R : Room} {s : State} {m : MethodId} {args : Array Value} {below : List Frame} {meth : Method} {c : Code} {H : Heap} {locs : List Loc} {Q : State → Prop} {cc : ByteArray} {nL : Nat} {own : String} {ret : Option FieldType} {fF fL : Nat} {G : GT} {pc idx : Nat} {ls : Array Slot} {rest : List Value} {σ : Mem} {res : Int} {l0 : Nat} {l1 : Int} {l2 : Int} (X : CX p R s m args meth c cc nL own ret fF fL G) (hP : PW G σ H) (hS : va_S (AA G) s.heap H locs) (hls : ls.size = nL) (hk_l0 : kd l0 = 5) (hf : X5_fact σ l0 l1 l2 = some res) (h1 : Cond.methodLink own idx yX5_fact ∈ TB) (hR : 1 + 1 ≤ fF ∧ 8 + (3 + 11) + 60 ≤ fL) (hW : (rest.map fun v => v.category).sum ≤ 8) (hd : decode cc pc = .ok (.invokevirtual idx, 3)) (kk : ∀ (H1 : Heap) (locs1 : List Loc), PW G σ H1 → va_S (AA G) s.heap H1 locs1 → W p l e R s m args below meth c H1 locs1 0 0 Q (F0 m (pc + 3) ls (.int (i32 res) :: rest))) : W p l e R s m args below meth c H locs 0 0 Q (F0 m pc ls (.int (i32 l2) :: .int (i32 l1) :: .ref (gh G + l0) :: rest)) := r_callV (n := 2) X hP hS hls (c_X5_fact hk_l0 hf) h1 (tb t_641 rfl) (tb t_642 rfl) (tb t_79 rfl) (tb t_643 rfl) (by decide +kernel) hR (r_recv X hP (kd_lt hk_l0 (by decide)) (cE_5 hk_l0) rfl) rfl rfl hW hd kk
/-! X5_freeBeats -/
theorem dX5_freeBeats_0 : decode cX5_freeBeats 0 = .ok (.iconst 0, 1) := by decide +kernel
theorem dX5_freeBeats_1 : decode cX5_freeBeats 1 = .ok (.istore 4, 2) := by decide +kernel
theorem dX5_freeBeats_3 : decode cX5_freeBeats 3 = .ok (.iconst 0, 1) := by decide +kernel
theorem dX5_freeBeats_4 : decode cX5_freeBeats 4 = .ok (.istore 5, 2) := by decide +kernel
theorem dX5_freeBeats_6 : decode cX5_freeBeats 6 = .ok (.iload 5, 2) := by decide +kernel
theorem dX5_freeBeats_8 : decode cX5_freeBeats 8 = .ok (.bipush 40, 2) := by decide +kernel
theorem dX5_freeBeats_10 : decode cX5_freeBeats 10 = .ok (.if_icmp .ge 90, 3) := by decide +kernel
theorem dX5_freeBeats_13 : decode cX5_freeBeats 13 = .ok (.iload_n 1, 1) := by decide +kernel
theorem dX5_freeBeats_14 : decode cX5_freeBeats 14 = .ok (.iload 5, 2) := by decide +kernel
theorem dX5_freeBeats_16 : decode cX5_freeBeats 16 = .ok (.iload_n 2, 1) := by decide +kernel
theorem dX5_freeBeats_17 : decode cX5_freeBeats 17 = .ok (.imul, 1) := by decide +kernel
theorem dX5_freeBeats_18 : decode cX5_freeBeats 18 = .ok (.iadd, 1) := by decide +kernel
theorem dX5_freeBeats_19 : decode cX5_freeBeats 19 = .ok (.istore 6, 2) := by decide +kernel
theorem dX5_freeBeats_21 : decode cX5_freeBeats 21 = .ok (.aload_n 0, 1) := by decide +kernel
theorem dX5_freeBeats_22 : decode cX5_freeBeats 22 = .ok (.iload 6, 2) := by decide +kernel
theorem dX5_freeBeats_24 : decode cX5_freeBeats 24 = .ok (.invokevirtual 41, 3) := by decide +kernel
theorem dX5_freeBeats_27 : decode cX5_freeBeats 27 = .ok (.ifCond .ne 6, 3) := by decide +kernel
theorem dX5_freeBeats_30 : decode cX5_freeBeats 30 = .ok (.goto 70, 3) := by decide +kernel
theorem dX5_freeBeats_33 : decode cX5_freeBeats 33 = .ok (.iload 5, 2) := by decide +kernel
theorem dX5_freeBeats_35 : decode cX5_freeBeats 35 = .ok (.iload_n 3, 1) := by decide +kernel
theorem dX5_freeBeats_36 : decode cX5_freeBeats 36 = .ok (.if_icmp .ge 7, 3) := by decide +kernel
theorem dX5_freeBeats_39 : decode cX5_freeBeats 39 = .ok (.iconst 2, 1) := by decide +kernel
theorem dX5_freeBeats_40 : decode cX5_freeBeats 40 = .ok (.goto 10, 3) := by decide +kernel
theorem dX5_freeBeats_43 : decode cX5_freeBeats 43 = .ok (.aload_n 0, 1) := by decide +kernel
theorem dX5_freeBeats_44 : decode cX5_freeBeats 44 = .ok (.iload 6, 2) := by decide +kernel
theorem dX5_freeBeats_46 : decode cX5_freeBeats 46 = .ok (.iconst 1, 1) := by decide +kernel
theorem dX5_freeBeats_47 : decode cX5_freeBeats 47 = .ok (.invokevirtual 28, 3) := by decide +kernel
theorem dX5_freeBeats_50 : decode cX5_freeBeats 50 = .ok (.istore 7, 2) := by decide +kernel
theorem dX5_freeBeats_52 : decode cX5_freeBeats 52 = .ok (.iload 7, 2) := by decide +kernel
theorem dX5_freeBeats_54 : decode cX5_freeBeats 54 = .ok (.iconst 2, 1) := by decide +kernel
theorem dX5_freeBeats_55 : decode cX5_freeBeats 55 = .ok (.if_icmp .eq 27, 3) := by decide +kernel
theorem dX5_freeBeats_58 : decode cX5_freeBeats 58 = .ok (.iload 7, 2) := by decide +kernel
theorem dX5_freeBeats_60 : decode cX5_freeBeats 60 = .ok (.iconst 1, 1) := by decide +kernel
theorem dX5_freeBeats_61 : decode cX5_freeBeats 61 = .ok (.if_icmp .ne 18, 3) := by decide +kernel
theorem dX5_freeBeats_64 : decode cX5_freeBeats 64 = .ok (.iload 4, 2) := by decide +kernel
theorem dX5_freeBeats_66 : decode cX5_freeBeats 66 = .ok (.aload_n 0, 1) := by decide +kernel
theorem dX5_freeBeats_67 : decode cX5_freeBeats 67 = .ok (.iload 6, 2) := by decide +kernel
theorem dX5_freeBeats_69 : decode cX5_freeBeats 69 = .ok (.iconst 2, 1) := by decide +kernel
theorem dX5_freeBeats_70 : decode cX5_freeBeats 70 = .ok (.invokevirtual 28, 3) := by decide +kernel
theorem dX5_freeBeats_73 : decode cX5_freeBeats 73 = .ok (.iconst 2, 1) := by decide +kernel
theorem dX5_freeBeats_74 : decode cX5_freeBeats 74 = .ok (.idiv, 1) := by decide +kernel
theorem dX5_freeBeats_75 : decode cX5_freeBeats 75 = .ok (.iadd, 1) := by decide +kernel
theorem dX5_freeBeats_76 : decode cX5_freeBeats 76 = .ok (.goto 5, 3) := by decide +kernel
theorem dX5_freeBeats_79 : decode cX5_freeBeats 79 = .ok (.iload 4, 2) := by decide +kernel
theorem dX5_freeBeats_81 : decode cX5_freeBeats 81 = .ok (.ireturn, 1) := by decide +kernel
theorem dX5_freeBeats_82 : decode cX5_freeBeats 82 = .ok (.iload 4, 2) := by decide +kernel
theorem dX5_freeBeats_84 : decode cX5_freeBeats 84 = .ok (.aload_n 0, 1) := by decide +kernel
theorem dX5_freeBeats_85 : decode cX5_freeBeats 85 = .ok (.iload 6, 2) := by decide +kernel
theorem dX5_freeBeats_87 : decode cX5_freeBeats 87 = .ok (.iconst 2, 1) := by decide +kernel
theorem dX5_freeBeats_88 : decode cX5_freeBeats 88 = .ok (.invokevirtual 28, 3) := by decide +kernel
theorem dX5_freeBeats_91 : decode cX5_freeBeats 91 = .ok (.iadd, 1) := by decide +kernel
theorem dX5_freeBeats_92 : decode cX5_freeBeats 92 = .ok (.istore 4, 2) := by decide +kernel
theorem dX5_freeBeats_94 : decode cX5_freeBeats 94 = .ok (.iinc 5 1, 3) := by decide +kernel
theorem dX5_freeBeats_97 : decode cX5_freeBeats 97 = .ok (.goto (-91), 3) := by decide +kernel
theorem dX5_freeBeats_100 : decode cX5_freeBeats 100 = .ok (.iload 4, 2) := by decide +kernel
theorem dX5_freeBeats_102 : decode cX5_freeBeats 102 = .ok (.ireturn, 1) := by decide +kernel
def S_X5_freeBeats_6 (fn : Nat → Int → Int → Int → Int → Int → Option (Int)) (p : Program) (l : Launch) (e : Env) (R : Room) (s : State) (m : MethodId) (args : Array Value) (below : List Frame) (meth : Method) (c : Code) (G : GT) (σ : Mem) (res : Int) : Prop := ∀ (H : Heap) (locs : List Loc) (ls : Array Slot) (l0 : Nat) (l1 : Int) (l2 : Int) (l3 : Int) (l4 : Int) (l5 : Int), kd l0 = 5 → PW G σ H → va_S (AA G) s.heap H locs → fn l0 l1 l2 l3 l4 l5 = some res → lv_has ls 8 [(0, .ref (gh G + l0)), (1, .int (i32 l1)), (2, .int (i32 l2)), (3, .int (i32 l3)), (4, .int (i32 l4)), (5, .int (i32 l5))] → W p l e R s m args below meth c H locs 0 0 (MQ below (QM G (some (.int (i32 res))) σ) args s 0 0 (AA G)) (F0 m 6 ls [])
def X5_freeBeats_B50 (rec6 : Nat → Int → Int → Int → Int → Int → Option (Int)) (σ : Mem) (l0 : Nat) (l1 : Int) (l2 : Int) (l3 : Int) (l4 : Int) (l5 : Int) (l6 : Int) (k0 : Int) : Option (Int) :=
  if w32 k0 = w32 2 then
    bd (X5_fact σ l0 l6 2) fun r1 =>
    lt (l4 + r1) fun l4_2 =>
    lt (l5 + 1) fun l5_3 =>
    rec6 l0 l1 l2 l3 l4_2 l5_3
  else
  if w32 k0 ≠ w32 1 then
    some l4
  else
  bd (X5_fact σ l0 l6 2) fun r4 =>
  dg 2 <|
  some (l4 + (idv r4 2))
def S_X5_freeBeats_50 (fn : Nat → Int → Int → Int → Int → Int → Int → Int → Option (Int)) (p : Program) (l : Launch) (e : Env) (R : Room) (s : State) (m : MethodId) (args : Array Value) (below : List Frame) (meth : Method) (c : Code) (G : GT) (σ : Mem) (res : Int) : Prop := ∀ (H : Heap) (locs : List Loc) (ls : Array Slot) (l0 : Nat) (l1 : Int) (l2 : Int) (l3 : Int) (l4 : Int) (l5 : Int) (l6 : Int) (k0 : Int), kd l0 = 5 → PW G σ H → va_S (AA G) s.heap H locs → fn l0 l1 l2 l3 l4 l5 l6 k0 = some res → lv_has ls 8 [(0, .ref (gh G + l0)), (1, .int (i32 l1)), (2, .int (i32 l2)), (3, .int (i32 l3)), (4, .int (i32 l4)), (5, .int (i32 l5)), (6, .int (i32 l6))] → W p l e R s m args below meth c H locs 0 0 (MQ below (QM G (some (.int (i32 res))) σ) args s 0 0 (AA G)) (F0 m 50 ls [.int (i32 k0)])
def X5_freeBeats_B6 (rec6 : Nat → Int → Int → Int → Int → Int → Option (Int)) (σ : Mem) (l0 : Nat) (l1 : Int) (l2 : Int) (l3 : Int) (l4 : Int) (l5 : Int) : Option (Int) :=
  if w32 40 ≤ w32 l5 then
    some l4
  else
  lt (l1 + (l5 * l2)) fun l6_1 =>
  bd (X5_has σ l0 l6_1) fun r2 =>
  if w32 r2 ≠ 0 then
    if w32 l3 ≤ w32 l5 then
      bd (X5_fact σ l0 l6_1 1) fun r3 =>
      X5_freeBeats_B50 rec6 σ l0 l1 l2 l3 l4 l5 l6_1 r3
    else
    X5_freeBeats_B50 rec6 σ l0 l1 l2 l3 l4 l5 l6_1 2
  else
  some l4
def X5_freeBeats_L6 (σ : Mem) : Nat → Nat → Int → Int → Int → Int → Int → Option (Int)
  | 0 => fun _ _ _ _ _ _ => none
  | n + 1 => X5_freeBeats_B6 (X5_freeBeats_L6 σ n) σ
def X5_freeBeats (σ : Mem) (l0 : Nat) (l1 : Int) (l2 : Int) (l3 : Int) : Option (Int) :=
  X5_freeBeats_L6 σ 5000 l0 l1 l2 l3 0 0
def S_X5_freeBeats_0 (fn : Nat → Int → Int → Int → Option (Int)) (p : Program) (l : Launch) (e : Env) (R : Room) (s : State) (m : MethodId) (args : Array Value) (below : List Frame) (meth : Method) (c : Code) (G : GT) (σ : Mem) (res : Int) : Prop := ∀ (H : Heap) (locs : List Loc) (ls : Array Slot) (l0 : Nat) (l1 : Int) (l2 : Int) (l3 : Int), kd l0 = 5 → PW G σ H → va_S (AA G) s.heap H locs → fn l0 l1 l2 l3 = some res → lv_has ls 8 [(0, .ref (gh G + l0)), (1, .int (i32 l1)), (2, .int (i32 l2)), (3, .int (i32 l3))] → W p l e R s m args below meth c H locs 0 0 (MQ below (QM G (some (.int (i32 res))) σ) args s 0 0 (AA G)) (F0 m 0 ls [])
set_option maxHeartbeats 4000000 in
theorem a_X5_freeBeats_50 {p : Program} {l : Launch} {e : Env} {R : Room} {s : State} {m : MethodId} {args : Array Value} {below : List Frame} {meth : Method} {c : Code} {G : GT} {σ : Mem} {res : Int} {rec6 : Nat → Int → Int → Int → Int → Int → Option (Int)} (X : CX p R s m args meth c cX5_freeBeats 8 RX5 (some FieldType.int) 2 82 G) (h6 : S_X5_freeBeats_6 rec6 p l e R s m args below meth c G σ res) : S_X5_freeBeats_50 (X5_freeBeats_B50 rec6 σ) p l e R s m args below meth c G σ res := by
  intro H locs ls l0 l1 l2 l3 l4 l5 l6 k0 hk_l0 hP hS hf hl
  unfold X5_freeBeats_B50 at hf
  refine lv_istore (lv' := [(7, .int (i32 k0)), (0, .ref (gh G + l0)), (1, .int (i32 l1)), (2, .int (i32 l2)), (3, .int (i32 l3)), (4, .int (i32 l4)), (5, .int (i32 l5)), (6, .int (i32 l6))]) X.1 X.2.1 dX5_freeBeats_50 hl (by decide) rfl (fun ls hl => ?_)
  refine lv_iload X.1 X.2.1 dX5_freeBeats_52 (lv_at hl 0 rfl) ?_
  refine r_iconst X 2 dX5_freeBeats_54 ?_
  refine r_icmp_eq (tgt := 82) X dX5_freeBeats_55 (by decide) (fun q => ?_) (fun q => ?_)
  · replace hf := it_inv q hf
    refine lv_iload X.1 X.2.1 dX5_freeBeats_82 (lv_at hl 5 rfl) ?_
    refine lv_aload_n X.1 X.2.1 dX5_freeBeats_84 rfl (lv_at hl 1 rfl) ?_
    refine lv_iload X.1 X.2.1 dX5_freeBeats_85 (lv_at hl 7 rfl) ?_
    refine r_iconst X 2 dX5_freeBeats_87 ?_
    obtain ⟨r1, hr1, hf⟩ := bd_inv hf
    refine k_X5_fact X hP hS hl.1 hk_l0 hr1 (tb t_678 rfl) (by decide) (Nat.le_of_ble_eq_true rfl) dX5_freeBeats_88 (fun H locs hP hS => ?_)
    refine r_iadd X dX5_freeBeats_91 ?_
    obtain ⟨l4_2, el4_2, hf⟩ := lt_inv hf
    refine r_eqi el4_2 ?_
    refine lv_istore (lv' := [(4, .int (i32 l4_2)), (7, .int (i32 k0)), (0, .ref (gh G + l0)), (1, .int (i32 l1)), (2, .int (i32 l2)), (3, .int (i32 l3)), (5, .int (i32 l5)), (6, .int (i32 l6))]) X.1 X.2.1 dX5_freeBeats_92 hl (by decide) rfl (fun ls hl => ?_)
    obtain ⟨l5_3, el5_3, hf⟩ := lt_inv hf
    refine lv_iinc (v := i32 l5_3) (lv' := [(5, .int (i32 l5_3)), (4, .int (i32 l4_2)), (7, .int (i32 k0)), (0, .ref (gh G + l0)), (1, .int (i32 l1)), (2, .int (i32 l2)), (3, .int (i32 l3)), (6, .int (i32 l6))]) X.1 X.2.1 dX5_freeBeats_94 hl (k := 6) rfl (by rw [← el5_3]; exact i32_add _ _) (by decide) rfl (fun ls hl => ?_)
    refine lv_goto (tgt := 6) X.1 X.2.1 dX5_freeBeats_97 (by decide) ?_
    exact h6  H locs ls l0 l1 l2 l3 l4_2 l5_3 hk_l0 hP hS hf (lv_sub hl [3, 4, 5, 6, 1, 0] rfl)
  · replace hf := ie_inv q hf
    refine lv_iload X.1 X.2.1 dX5_freeBeats_58 (lv_at hl 0 rfl) ?_
    refine r_iconst X 1 dX5_freeBeats_60 ?_
    refine r_icmp_ne (tgt := 79) X dX5_freeBeats_61 (by decide) (fun q => ?_) (fun q => ?_)
    · replace hf := it_inv q hf
      refine lv_iload X.1 X.2.1 dX5_freeBeats_79 (lv_at hl 5 rfl) ?_
      cases so_inv hf
      exact r_iret X hP hS dX5_freeBeats_81
    · replace hf := ie_inv q hf
      refine lv_iload X.1 X.2.1 dX5_freeBeats_64 (lv_at hl 5 rfl) ?_
      refine lv_aload_n X.1 X.2.1 dX5_freeBeats_66 rfl (lv_at hl 1 rfl) ?_
      refine lv_iload X.1 X.2.1 dX5_freeBeats_67 (lv_at hl 7 rfl) ?_
      refine r_iconst X 2 dX5_freeBeats_69 ?_
      obtain ⟨r4, hr4, hf⟩ := bd_inv hf
      refine k_X5_fact X hP hS hl.1 hk_l0 hr4 (tb t_678 rfl) (by decide) (Nat.le_of_ble_eq_true rfl) dX5_freeBeats_70 (fun H locs hP hS => ?_)
      refine r_iconst X 2 dX5_freeBeats_73 ?_
      obtain ⟨hz5, hf⟩ := dg_inv hf
      refine r_idiv X hz5 dX5_freeBeats_74 ?_
      refine r_iadd X dX5_freeBeats_75 ?_
      refine lv_goto (tgt := 81) X.1 X.2.1 dX5_freeBeats_76 (by decide) ?_
      cases so_inv hf
      exact r_iret X hP hS dX5_freeBeats_81
set_option maxHeartbeats 4000000 in
theorem a_X5_freeBeats_6 {p : Program} {l : Launch} {e : Env} {R : Room} {s : State} {m : MethodId} {args : Array Value} {below : List Frame} {meth : Method} {c : Code} {G : GT} {σ : Mem} {res : Int} {rec6 : Nat → Int → Int → Int → Int → Int → Option (Int)} (X : CX p R s m args meth c cX5_freeBeats 8 RX5 (some FieldType.int) 2 82 G) (h6 : S_X5_freeBeats_6 rec6 p l e R s m args below meth c G σ res) : S_X5_freeBeats_6 (X5_freeBeats_B6 rec6 σ) p l e R s m args below meth c G σ res := by
  intro H locs ls l0 l1 l2 l3 l4 l5 hk_l0 hP hS hf hl
  unfold X5_freeBeats_B6 at hf
  refine lv_iload X.1 X.2.1 dX5_freeBeats_6 (lv_at hl 5 rfl) ?_
  refine r_bipush X 40 (by decide) dX5_freeBeats_8 ?_
  refine r_icmp_ge (tgt := 100) X dX5_freeBeats_10 (by decide) (fun q => ?_) (fun q => ?_)
  · replace hf := it_inv q hf
    refine lv_iload X.1 X.2.1 dX5_freeBeats_100 (lv_at hl 4 rfl) ?_
    cases so_inv hf
    exact r_iret X hP hS dX5_freeBeats_102
  · replace hf := ie_inv q hf
    refine lv_iload_n X.1 X.2.1 dX5_freeBeats_13 rfl (lv_at hl 1 rfl) ?_
    refine lv_iload X.1 X.2.1 dX5_freeBeats_14 (lv_at hl 5 rfl) ?_
    refine lv_iload_n X.1 X.2.1 dX5_freeBeats_16 rfl (lv_at hl 2 rfl) ?_
    refine r_imul X dX5_freeBeats_17 ?_
    refine r_iadd X dX5_freeBeats_18 ?_
    obtain ⟨l6_1, el6_1, hf⟩ := lt_inv hf
    refine r_eqi el6_1 ?_
    refine lv_istore (lv' := [(6, .int (i32 l6_1)), (0, .ref (gh G + l0)), (1, .int (i32 l1)), (2, .int (i32 l2)), (3, .int (i32 l3)), (4, .int (i32 l4)), (5, .int (i32 l5))]) X.1 X.2.1 dX5_freeBeats_19 hl (by decide) rfl (fun ls hl => ?_)
    refine lv_aload_n X.1 X.2.1 dX5_freeBeats_21 rfl (lv_at hl 1 rfl) ?_
    refine lv_iload X.1 X.2.1 dX5_freeBeats_22 (lv_at hl 0 rfl) ?_
    obtain ⟨r2, hr2, hf⟩ := bd_inv hf
    refine k_X5_has X hP hS hl.1 hk_l0 hr2 (tb t_677 rfl) (by decide) (Nat.le_of_ble_eq_true rfl) dX5_freeBeats_24 (fun H locs hP hS => ?_)
    refine r_if_ne (tgt := 33) X dX5_freeBeats_27 (by decide) (fun q => ?_) (fun q => ?_)
    · replace hf := it_inv q hf
      refine lv_iload X.1 X.2.1 dX5_freeBeats_33 (lv_at hl 6 rfl) ?_
      refine lv_iload_n X.1 X.2.1 dX5_freeBeats_35 rfl (lv_at hl 4 rfl) ?_
      refine r_icmp_ge (tgt := 43) X dX5_freeBeats_36 (by decide) (fun q => ?_) (fun q => ?_)
      · replace hf := it_inv q hf
        refine lv_aload_n X.1 X.2.1 dX5_freeBeats_43 rfl (lv_at hl 1 rfl) ?_
        refine lv_iload X.1 X.2.1 dX5_freeBeats_44 (lv_at hl 0 rfl) ?_
        refine r_iconst X 1 dX5_freeBeats_46 ?_
        obtain ⟨r3, hr3, hf⟩ := bd_inv hf
        refine k_X5_fact X hP hS hl.1 hk_l0 hr3 (tb t_678 rfl) (by decide) (Nat.le_of_ble_eq_true rfl) dX5_freeBeats_47 (fun H locs hP hS => ?_)
        exact a_X5_freeBeats_50 X h6  H locs ls l0 l1 l2 l3 l4 l5 l6_1 r3 hk_l0 hP hS hf (lv_sub hl [1, 2, 3, 4, 5, 6, 0] rfl)
      · replace hf := ie_inv q hf
        refine r_iconst X 2 dX5_freeBeats_39 ?_
        refine lv_goto (tgt := 50) X.1 X.2.1 dX5_freeBeats_40 (by decide) ?_
        exact a_X5_freeBeats_50 X h6  H locs ls l0 l1 l2 l3 l4 l5 l6_1 2 hk_l0 hP hS hf (lv_sub hl [1, 2, 3, 4, 5, 6, 0] rfl)
    · replace hf := ie_inv q hf
      refine lv_goto (tgt := 100) X.1 X.2.1 dX5_freeBeats_30 (by decide) ?_
      refine lv_iload X.1 X.2.1 dX5_freeBeats_100 (lv_at hl 5 rfl) ?_
      cases so_inv hf
      exact r_iret X hP hS dX5_freeBeats_102
theorem al_X5_freeBeats_6 {p : Program} {l : Launch} {e : Env} {R : Room} {s : State} {m : MethodId} {args : Array Value} {below : List Frame} {meth : Method} {c : Code} {G : GT} {σ : Mem} {res : Int} (X : CX p R s m args meth c cX5_freeBeats 8 RX5 (some FieldType.int) 2 82 G) : ∀ n, S_X5_freeBeats_6 (X5_freeBeats_L6 σ n) p l e R s m args below meth c G σ res := by
  intro n
  induction n with
  | zero =>
    intro H locs ls l0 l1 l2 l3 l4 l5 hk_l0 hP hS hf hl
    cases hf
  | succ n ih => exact a_X5_freeBeats_6 X ih
set_option maxHeartbeats 4000000 in
theorem a_X5_freeBeats_0 {p : Program} {l : Launch} {e : Env} {R : Room} {s : State} {m : MethodId} {args : Array Value} {below : List Frame} {meth : Method} {c : Code} {G : GT} {σ : Mem} {res : Int} (X : CX p R s m args meth c cX5_freeBeats 8 RX5 (some FieldType.int) 2 82 G) : S_X5_freeBeats_0 (X5_freeBeats σ) p l e R s m args below meth c G σ res := by
  intro H locs ls l0 l1 l2 l3 hk_l0 hP hS hf hl
  unfold X5_freeBeats at hf
  refine r_iconst X 0 dX5_freeBeats_0 ?_
  refine lv_istore (lv' := [(4, .int (i32 0)), (0, .ref (gh G + l0)), (1, .int (i32 l1)), (2, .int (i32 l2)), (3, .int (i32 l3))]) X.1 X.2.1 dX5_freeBeats_1 hl (by decide) rfl (fun ls hl => ?_)
  refine r_iconst X 0 dX5_freeBeats_3 ?_
  refine lv_istore (lv' := [(5, .int (i32 0)), (4, .int (i32 0)), (0, .ref (gh G + l0)), (1, .int (i32 l1)), (2, .int (i32 l2)), (3, .int (i32 l3))]) X.1 X.2.1 dX5_freeBeats_4 hl (by decide) rfl (fun ls hl => ?_)
  exact al_X5_freeBeats_6 X 5000  H locs ls l0 l1 l2 l3 0 0 hk_l0 hP hS hf (lv_sub hl [2, 3, 4, 5, 1, 0] rfl)
set_option maxHeartbeats 4000000 in
theorem c_X5_freeBeats {l : Launch} {G : GT} {σ : Mem} {res : Int} {l0 : Nat} {l1 : Int} {l2 : Int} {l3 : Int} (hk_l0 : kd l0 = 5) (hf : X5_freeBeats σ l0 l1 l2 l3 = some res) : CT l yX5_freeBeats cX5_freeBeats 8 (some FieldType.int) 2 82 G [.ref (gh G + l0), .int (i32 l1), .int (i32 l2), .int (i32 l3)] σ σ (some (.int (i32 res))) := by
  refine CT.mk (own := RX5) (by decide) rfl (Nat.le_of_ble_eq_true rfl) ?_
  intro p e s m below meth c ls X hP hS hl
  have hl : lv_has ls 8 [(0, .ref (gh G + l0)), (1, .int (i32 l1)), (2, .int (i32 l2)), (3, .int (i32 l3))] := hl
  exact a_X5_freeBeats_0 X  s.heap [] ls l0 l1 l2 l3 hk_l0 hP hS hf hl
theorem k_X5_freeBeats {p : Program} {l : Launch} {e : Env} {R : Room} {s : State} {m : MethodId} {args : Array Value} {below : List Frame} {meth : Method} {c : Code} {H : Heap} {locs : List Loc} {Q : State → Prop} {cc : ByteArray} {nL : Nat} {own : String} {ret : Option FieldType} {fF fL : Nat} {G : GT} {pc idx : Nat} {ls : Array Slot} {rest : List Value} {σ : Mem} {res : Int} {l0 : Nat} {l1 : Int} {l2 : Int} {l3 : Int} (X : CX p R s m args meth c cc nL own ret fF fL G) (hP : PW G σ H) (hS : va_S (AA G) s.heap H locs) (hls : ls.size = nL) (hk_l0 : kd l0 = 5) (hf : X5_freeBeats σ l0 l1 l2 l3 = some res) (h1 : Cond.methodLink own idx yX5_freeBeats ∈ TB) (hR : 2 + 1 ≤ fF ∧ 8 + (8 + 11) + 82 ≤ fL) (hW : (rest.map fun v => v.category).sum ≤ 8) (hd : decode cc pc = .ok (.invokevirtual idx, 3)) (kk : ∀ (H1 : Heap) (locs1 : List Loc), PW G σ H1 → va_S (AA G) s.heap H1 locs1 → W p l e R s m args below meth c H1 locs1 0 0 Q (F0 m (pc + 3) ls (.int (i32 res) :: rest))) : W p l e R s m args below meth c H locs 0 0 Q (F0 m pc ls (.int (i32 l3) :: .int (i32 l2) :: .int (i32 l1) :: .ref (gh G + l0) :: rest)) := r_callV (n := 3) X hP hS hls (c_X5_freeBeats hk_l0 hf) h1 (tb t_675 rfl) (tb t_21 rfl) (tb t_79 rfl) (tb t_676 rfl) (by decide +kernel) hR (r_recv X hP (kd_lt hk_l0 (by decide)) (cE_5 hk_l0) rfl) rfl rfl hW hd kk
/-! X5_freeBehind -/
theorem dX5_freeBehind_0 : decode cX5_freeBehind 0 = .ok (.aload_n 0, 1) := by decide +kernel
theorem dX5_freeBehind_1 : decode cX5_freeBehind 1 = .ok (.iload_n 1, 1) := by decide +kernel
theorem dX5_freeBehind_2 : decode cX5_freeBehind 2 = .ok (.iconst (-1), 1) := by decide +kernel
theorem dX5_freeBehind_3 : decode cX5_freeBehind 3 = .ok (.iconst 0, 1) := by decide +kernel
theorem dX5_freeBehind_4 : decode cX5_freeBehind 4 = .ok (.invokevirtual 32, 3) := by decide +kernel
theorem dX5_freeBehind_7 : decode cX5_freeBehind 7 = .ok (.aload_n 0, 1) := by decide +kernel
theorem dX5_freeBehind_8 : decode cX5_freeBehind 8 = .ok (.iload_n 1, 1) := by decide +kernel
theorem dX5_freeBehind_9 : decode cX5_freeBehind 9 = .ok (.iconst 1, 1) := by decide +kernel
theorem dX5_freeBehind_10 : decode cX5_freeBehind 10 = .ok (.iadd, 1) := by decide +kernel
theorem dX5_freeBehind_11 : decode cX5_freeBehind 11 = .ok (.iconst 1, 1) := by decide +kernel
theorem dX5_freeBehind_12 : decode cX5_freeBehind 12 = .ok (.iload_n 2, 1) := by decide +kernel
theorem dX5_freeBehind_13 : decode cX5_freeBehind 13 = .ok (.invokevirtual 32, 3) := by decide +kernel
theorem dX5_freeBehind_16 : decode cX5_freeBehind 16 = .ok (.iadd, 1) := by decide +kernel
theorem dX5_freeBehind_17 : decode cX5_freeBehind 17 = .ok (.istore_n 3, 1) := by decide +kernel
theorem dX5_freeBehind_18 : decode cX5_freeBehind 18 = .ok (.iload_n 3, 1) := by decide +kernel
theorem dX5_freeBehind_19 : decode cX5_freeBehind 19 = .ok (.sipush 6000, 3) := by decide +kernel
theorem dX5_freeBehind_22 : decode cX5_freeBehind 22 = .ok (.imul, 1) := by decide +kernel
theorem dX5_freeBehind_23 : decode cX5_freeBehind 23 = .ok (.iconst 1, 1) := by decide +kernel
theorem dX5_freeBehind_24 : decode cX5_freeBehind 24 = .ok (.aload_n 0, 1) := by decide +kernel
theorem dX5_freeBehind_25 : decode cX5_freeBehind 25 = .ok (.getfield 9, 3) := by decide +kernel
theorem dX5_freeBehind_28 : decode cX5_freeBehind 28 = .ok (.iconst 0, 1) := by decide +kernel
theorem dX5_freeBehind_29 : decode cX5_freeBehind 29 = .ok (.iaload, 1) := by decide +kernel
theorem dX5_freeBehind_30 : decode cX5_freeBehind 30 = .ok (.invokestatic 36, 3) := by decide +kernel
theorem dX5_freeBehind_33 : decode cX5_freeBehind 33 = .ok (.idiv, 1) := by decide +kernel
theorem dX5_freeBehind_34 : decode cX5_freeBehind 34 = .ok (.ireturn, 1) := by decide +kernel
def X5_freeBehind (σ : Mem) (l0 : Nat) (l1 : Int) (l2 : Int) : Option (Int) :=
  bd (X5_freeBeats σ l0 l1 (-1) 0) fun r1 =>
  bd (X5_freeBeats σ l0 (l1 + 1) 1 l2) fun r2 =>
  lt (r1 + r2) fun l3_3 =>
  ag 4 0 fun j4 =>
  dg (imx 1 (σ (l0 + 1) j4)) <|
  some (idv (l3_3 * 6000) (imx 1 (σ (l0 + 1) j4)))
def S_X5_freeBehind_0 (fn : Nat → Int → Int → Option (Int)) (p : Program) (l : Launch) (e : Env) (R : Room) (s : State) (m : MethodId) (args : Array Value) (below : List Frame) (meth : Method) (c : Code) (G : GT) (σ : Mem) (res : Int) : Prop := ∀ (H : Heap) (locs : List Loc) (ls : Array Slot) (l0 : Nat) (l1 : Int) (l2 : Int), kd l0 = 5 → PW G σ H → va_S (AA G) s.heap H locs → fn l0 l1 l2 = some res → lv_has ls 4 [(0, .ref (gh G + l0)), (1, .int (i32 l1)), (2, .int (i32 l2))] → W p l e R s m args below meth c H locs 0 0 (MQ below (QM G (some (.int (i32 res))) σ) args s 0 0 (AA G)) (F0 m 0 ls [])
set_option maxHeartbeats 4000000 in
theorem a_X5_freeBehind_0 {p : Program} {l : Launch} {e : Env} {R : Room} {s : State} {m : MethodId} {args : Array Value} {below : List Frame} {meth : Method} {c : Code} {G : GT} {σ : Mem} {res : Int} (X : CX p R s m args meth c cX5_freeBehind 4 RX5 (some FieldType.int) 3 109 G) : S_X5_freeBehind_0 (X5_freeBehind σ) p l e R s m args below meth c G σ res := by
  intro H locs ls l0 l1 l2 hk_l0 hP hS hf hl
  unfold X5_freeBehind at hf
  refine lv_aload_n X.1 X.2.1 dX5_freeBehind_0 rfl (lv_at hl 0 rfl) ?_
  refine lv_iload_n X.1 X.2.1 dX5_freeBehind_1 rfl (lv_at hl 1 rfl) ?_
  refine r_iconst X (-1) dX5_freeBehind_2 ?_
  refine r_iconst X 0 dX5_freeBehind_3 ?_
  obtain ⟨r1, hr1, hf⟩ := bd_inv hf
  refine k_X5_freeBeats X hP hS hl.1 hk_l0 hr1 (tb t_673 rfl) (by decide) (Nat.le_of_ble_eq_true rfl) dX5_freeBehind_4 (fun H locs hP hS => ?_)
  refine lv_aload_n X.1 X.2.1 dX5_freeBehind_7 rfl (lv_at hl 0 rfl) ?_
  refine lv_iload_n X.1 X.2.1 dX5_freeBehind_8 rfl (lv_at hl 1 rfl) ?_
  refine r_iconst X 1 dX5_freeBehind_9 ?_
  refine r_iadd X dX5_freeBehind_10 ?_
  refine r_iconst X 1 dX5_freeBehind_11 ?_
  refine lv_iload_n X.1 X.2.1 dX5_freeBehind_12 rfl (lv_at hl 2 rfl) ?_
  obtain ⟨r2, hr2, hf⟩ := bd_inv hf
  refine k_X5_freeBeats X hP hS hl.1 hk_l0 hr2 (tb t_673 rfl) (by decide) (Nat.le_of_ble_eq_true rfl) dX5_freeBehind_13 (fun H locs hP hS => ?_)
  refine r_iadd X dX5_freeBehind_16 ?_
  obtain ⟨l3_3, el3_3, hf⟩ := lt_inv hf
  refine r_eqi el3_3 ?_
  refine lv_istore_n (lv' := [(3, .int (i32 l3_3)), (0, .ref (gh G + l0)), (1, .int (i32 l1)), (2, .int (i32 l2))]) X.1 X.2.1 dX5_freeBehind_17 rfl hl (by decide) rfl (fun ls hl => ?_)
  refine lv_iload_n X.1 X.2.1 dX5_freeBehind_18 rfl (lv_at hl 0 rfl) ?_
  refine r_sipush X 6000 (by decide) dX5_freeBehind_19 ?_
  refine r_imul X dX5_freeBehind_22 ?_
  refine r_iconst X 1 dX5_freeBehind_23 ?_
  refine lv_aload_n X.1 X.2.1 dX5_freeBehind_24 rfl (lv_at hl 1 rfl) ?_
  refine g_5_0 (r := l0 + 1) X hP hk_l0 rfl (tb t_151 rfl) dX5_freeBehind_25 ?_
  refine r_iconst X 0 dX5_freeBehind_28 ?_
  obtain ⟨j4, hij4, hjj4, hlj4, hf⟩ := ag_inv hf
  refine r_iald X hP (ch_5_0 hk_l0).1 (ch_5_0 hk_l0).2 hij4 hjj4 dX5_freeBehind_29 ?_
  refine r_mmax X hl.1 (tb t_679 rfl) (tb t_680 rfl) (tb t_92 rfl) (tb t_681 rfl) (by decide) (Nat.le_of_ble_eq_true rfl) dX5_freeBehind_30 ?_
  obtain ⟨hz5, hf⟩ := dg_inv hf
  refine r_idiv X hz5 dX5_freeBehind_33 ?_
  cases so_inv hf
  exact r_iret X hP hS dX5_freeBehind_34
set_option maxHeartbeats 4000000 in
theorem c_X5_freeBehind {l : Launch} {G : GT} {σ : Mem} {res : Int} {l0 : Nat} {l1 : Int} {l2 : Int} (hk_l0 : kd l0 = 5) (hf : X5_freeBehind σ l0 l1 l2 = some res) : CT l yX5_freeBehind cX5_freeBehind 4 (some FieldType.int) 3 109 G [.ref (gh G + l0), .int (i32 l1), .int (i32 l2)] σ σ (some (.int (i32 res))) := by
  refine CT.mk (own := RX5) (by decide) rfl (Nat.le_of_ble_eq_true rfl) ?_
  intro p e s m below meth c ls X hP hS hl
  have hl : lv_has ls 4 [(0, .ref (gh G + l0)), (1, .int (i32 l1)), (2, .int (i32 l2))] := hl
  exact a_X5_freeBehind_0 X  s.heap [] ls l0 l1 l2 hk_l0 hP hS hf hl
theorem k_X5_freeBehind {p : Program} {l : Launch} {e : Env} {R : Room} {s : State} {m : MethodId} {args : Array Value} {below : List Frame} {meth : Method} {c : Code} {H : Heap} {locs : List Loc} {Q : State → Prop} {cc : ByteArray} {nL : Nat} {own : String} {ret : Option FieldType} {fF fL : Nat} {G : GT} {pc idx : Nat} {ls : Array Slot} {rest : List Value} {σ : Mem} {res : Int} {l0 : Nat} {l1 : Int} {l2 : Int} (X : CX p R s m args meth c cc nL own ret fF fL G) (hP : PW G σ H) (hS : va_S (AA G) s.heap H locs) (hls : ls.size = nL) (hk_l0 : kd l0 = 5) (hf : X5_freeBehind σ l0 l1 l2 = some res) (h1 : Cond.methodLink own idx yX5_freeBehind ∈ TB) (hR : 3 + 1 ≤ fF ∧ 8 + (4 + 11) + 109 ≤ fL) (hW : (rest.map fun v => v.category).sum ≤ 8) (hd : decode cc pc = .ok (.invokevirtual idx, 3)) (kk : ∀ (H1 : Heap) (locs1 : List Loc), PW G σ H1 → va_S (AA G) s.heap H1 locs1 → W p l e R s m args below meth c H1 locs1 0 0 Q (F0 m (pc + 3) ls (.int (i32 res) :: rest))) : W p l e R s m args below meth c H locs 0 0 Q (F0 m pc ls (.int (i32 l2) :: .int (i32 l1) :: .ref (gh G + l0) :: rest)) := r_callV (n := 2) X hP hS hls (c_X5_freeBehind hk_l0 hf) h1 (tb t_670 rfl) (tb t_671 rfl) (tb t_79 rfl) (tb t_672 rfl) (by decide +kernel) hR (r_recv X hP (kd_lt hk_l0 (by decide)) (cE_5 hk_l0) rfl) rfl rfl hW hd kk
/-! X10_isPart -/
theorem dX10_isPart_0 : decode cX10_isPart 0 = .ok (.iload_n 0, 1) := by decide +kernel
theorem dX10_isPart_1 : decode cX10_isPart 1 = .ok (.iconst 0, 1) := by decide +kernel
theorem dX10_isPart_2 : decode cX10_isPart 2 = .ok (.iconst 3, 1) := by decide +kernel
theorem dX10_isPart_3 : decode cX10_isPart 3 = .ok (.invokestatic 62, 3) := by decide +kernel
theorem dX10_isPart_6 : decode cX10_isPart 6 = .ok (.ireturn, 1) := by decide +kernel
def X10_isPart (σ : Mem) (l0 : Int) : Option (Int) :=
  bd (X10_within σ l0 0 3) fun r1 =>
  bg r1 <|
  some r1
def S_X10_isPart_0 (fn : Int → Option (Int)) (p : Program) (l : Launch) (e : Env) (R : Room) (s : State) (m : MethodId) (args : Array Value) (below : List Frame) (meth : Method) (c : Code) (G : GT) (σ : Mem) (res : Int) : Prop := ∀ (H : Heap) (locs : List Loc) (ls : Array Slot) (l0 : Int), PW G σ H → va_S (AA G) s.heap H locs → fn l0 = some res → lv_has ls 1 [(0, .int (i32 l0))] → W p l e R s m args below meth c H locs 0 0 (MQ below (QM G (some (.int (i32 res))) σ) args s 0 0 (AA G)) (F0 m 0 ls [])
set_option maxHeartbeats 4000000 in
theorem a_X10_isPart_0 {p : Program} {l : Launch} {e : Env} {R : Room} {s : State} {m : MethodId} {args : Array Value} {below : List Frame} {meth : Method} {c : Code} {G : GT} {σ : Mem} {res : Int} (X : CX p R s m args meth c cX10_isPart 1 RX10 (some FieldType.boolean) 2 82 G) : S_X10_isPart_0 (X10_isPart σ) p l e R s m args below meth c G σ res := by
  intro H locs ls l0 hP hS hf hl
  unfold X10_isPart at hf
  refine lv_iload_n X.1 X.2.1 dX10_isPart_0 rfl (lv_at hl 0 rfl) ?_
  refine r_iconst X 0 dX10_isPart_1 ?_
  refine r_iconst X 3 dX10_isPart_2 ?_
  obtain ⟨r1, hr1, hf⟩ := bd_inv hf
  refine k_X10_within X hP hS hl.1  hr1 (tb t_423 rfl) (by decide) (Nat.le_of_ble_eq_true rfl) dX10_isPart_3 (fun H locs hP hS => ?_)
  obtain ⟨hb2, hf⟩ := bg_inv hf
  cases so_inv hf
  exact r_zret X hP hS hb2 dX10_isPart_6
set_option maxHeartbeats 4000000 in
theorem c_X10_isPart {l : Launch} {G : GT} {σ : Mem} {res : Int} {l0 : Int} (hf : X10_isPart σ l0 = some res) : CT l yX10_isPart cX10_isPart 1 (some FieldType.boolean) 2 82 G [.int (i32 l0)] σ σ (some (.int (i32 res))) := by
  refine CT.mk (own := RX10) (by decide) rfl (Nat.le_of_ble_eq_true rfl) ?_
  intro p e s m below meth c ls X hP hS hl
  have hl : lv_has ls 1 [(0, .int (i32 l0))] := hl
  exact a_X10_isPart_0 X  s.heap [] ls l0 hP hS hf hl
theorem k_X10_isPart {p : Program} {l : Launch} {e : Env} {R : Room} {s : State} {m : MethodId} {args : Array Value} {below : List Frame} {meth : Method} {c : Code} {H : Heap} {locs : List Loc} {Q : State → Prop} {cc : ByteArray} {nL : Nat} {own : String} {ret : Option FieldType} {fF fL : Nat} {G : GT} {pc idx : Nat} {ls : Array Slot} {rest : List Value} {σ : Mem} {res : Int} {l0 : Int} (X : CX p R s m args meth c cc nL own ret fF fL G) (hP : PW G σ H) (hS : va_S (AA G) s.heap H locs) (hls : ls.size = nL) (hf : X10_isPart σ l0 = some res) (h1 : Cond.methodLink own idx yX10_isPart ∈ TB) (hR : 2 + 1 ≤ fF ∧ 8 + (1 + 11) + 82 ≤ fL) (hW : (rest.map fun v => v.category).sum ≤ 8) (hd : decode cc pc = .ok (.invokestatic idx, 3)) (kk : ∀ (H1 : Heap) (locs1 : List Loc), PW G σ H1 → va_S (AA G) s.heap H1 locs1 → W p l e R s m args below meth c H1 locs1 0 0 Q (F0 m (pc + 3) ls (.int (i32 res) :: rest))) : W p l e R s m args below meth c H locs 0 0 Q (F0 m pc ls (.int (i32 l0) :: rest)) := r_callS (n := 1) X hP hS hls (c_X10_isPart hf) h1 (tb t_421 rfl) (tb t_75 rfl) (tb t_422 rfl) (by decide +kernel) hR rfl rfl hW hd kk
theorem kn_X10_isPart {p : Program} {l : Launch} {e : Env} {R : Room} {s : State} {m : MethodId} {args : Array Value} {below : List Frame} {meth : Method} {c : Code} {H : Heap} {locs : List Loc} {Q : State → Prop} {cc : ByteArray} {nL : Nat} {own : String} {ret : Option FieldType} {fF fL : Nat} {G : GT} {pc idx : Nat} {ls : Array Slot} {rest : List Value} {σ : Mem} {res : Int} {l0 : Int} (X : CX p R s m args meth c cc nL own ret fF fL G) (hP : PW G σ H) (hS : va_S (AA G) s.heap H locs) (hls : ls.size = nL) (hf : X10_isPart σ l0 = some res) {host : String} (h1 : Cond.methodLinkNest own idx yX10_isPart host ∈ NWl) (hR : 2 + 1 ≤ fF ∧ 8 + (1 + 11) + 82 ≤ fL) (hW : (rest.map fun v => v.category).sum ≤ 8) (hd : decode cc pc = .ok (.invokestatic idx, 3)) (kk : ∀ (H1 : Heap) (locs1 : List Loc), PW G σ H1 → va_S (AA G) s.heap H1 locs1 → W p l e R s m args below meth c H1 locs1 0 0 Q (F0 m (pc + 3) ls (.int (i32 res) :: rest))) : W p l e R s m args below meth c H locs 0 0 Q (F0 m pc ls (.int (i32 l0) :: rest)) := r_callSN (n := 1) X hP hS hls (c_X10_isPart hf) h1 (tb t_421 rfl) (tb t_75 rfl) (tb t_422 rfl) (by decide +kernel) hR rfl rfl hW hd kk
/-! X7_neighbourFree -/
theorem dX7_neighbourFree_0 : decode cX7_neighbourFree 0 = .ok (.aload_n 0, 1) := by decide +kernel
theorem dX7_neighbourFree_1 : decode cX7_neighbourFree 1 = .ok (.getfield 11, 3) := by decide +kernel
theorem dX7_neighbourFree_4 : decode cX7_neighbourFree 4 = .ok (.iload_n 1, 1) := by decide +kernel
theorem dX7_neighbourFree_5 : decode cX7_neighbourFree 5 = .ok (.aaload, 1) := by decide +kernel
theorem dX7_neighbourFree_6 : decode cX7_neighbourFree 6 = .ok (.getfield 46, 3) := by decide +kernel
theorem dX7_neighbourFree_9 : decode cX7_neighbourFree 9 = .ok (.iconst 2, 1) := by decide +kernel
theorem dX7_neighbourFree_10 : decode cX7_neighbourFree 10 = .ok (.iaload, 1) := by decide +kernel
theorem dX7_neighbourFree_11 : decode cX7_neighbourFree 11 = .ok (.istore_n 3, 1) := by decide +kernel
theorem dX7_neighbourFree_12 : decode cX7_neighbourFree 12 = .ok (.iload_n 3, 1) := by decide +kernel
theorem dX7_neighbourFree_13 : decode cX7_neighbourFree 13 = .ok (.invokestatic 49, 3) := by decide +kernel
theorem dX7_neighbourFree_16 : decode cX7_neighbourFree 16 = .ok (.ifCond .eq 16, 3) := by decide +kernel
theorem dX7_neighbourFree_19 : decode cX7_neighbourFree 19 = .ok (.aload_n 0, 1) := by decide +kernel
theorem dX7_neighbourFree_20 : decode cX7_neighbourFree 20 = .ok (.getfield 11, 3) := by decide +kernel
theorem dX7_neighbourFree_23 : decode cX7_neighbourFree 23 = .ok (.iload_n 3, 1) := by decide +kernel
theorem dX7_neighbourFree_24 : decode cX7_neighbourFree 24 = .ok (.aaload, 1) := by decide +kernel
theorem dX7_neighbourFree_25 : decode cX7_neighbourFree 25 = .ok (.iload_n 2, 1) := by decide +kernel
theorem dX7_neighbourFree_26 : decode cX7_neighbourFree 26 = .ok (.invokevirtual 53, 3) := by decide +kernel
theorem dX7_neighbourFree_29 : decode cX7_neighbourFree 29 = .ok (.ifCond .ne 5, 3) := by decide +kernel
theorem dX7_neighbourFree_32 : decode cX7_neighbourFree 32 = .ok (.iconst (-1), 1) := by decide +kernel
theorem dX7_neighbourFree_33 : decode cX7_neighbourFree 33 = .ok (.ireturn, 1) := by decide +kernel
theorem dX7_neighbourFree_34 : decode cX7_neighbourFree 34 = .ok (.aload_n 0, 1) := by decide +kernel
theorem dX7_neighbourFree_35 : decode cX7_neighbourFree 35 = .ok (.getfield 11, 3) := by decide +kernel
theorem dX7_neighbourFree_38 : decode cX7_neighbourFree 38 = .ok (.iload_n 3, 1) := by decide +kernel
theorem dX7_neighbourFree_39 : decode cX7_neighbourFree 39 = .ok (.aaload, 1) := by decide +kernel
theorem dX7_neighbourFree_40 : decode cX7_neighbourFree 40 = .ok (.iload_n 2, 1) := by decide +kernel
theorem dX7_neighbourFree_41 : decode cX7_neighbourFree 41 = .ok (.iconst 0, 1) := by decide +kernel
theorem dX7_neighbourFree_42 : decode cX7_neighbourFree 42 = .ok (.invokevirtual 56, 3) := by decide +kernel
theorem dX7_neighbourFree_45 : decode cX7_neighbourFree 45 = .ok (.ireturn, 1) := by decide +kernel
def X7_neighbourFree (σ : Mem) (l0 : Nat) (l1 : Int) (l2 : Int) : Option (Int) :=
  ag 4 l1 fun j1 =>
  ag 4 2 fun j2 =>
  lt (σ (l0 + 1 + 7 + 3 * j1 + 1) j2) fun l3_3 =>
  bd (X10_isPart σ l3_3) fun r4 =>
  if w32 r4 = 0 then
    some (-1)
  else
  ag 4 l3_3 fun j5 =>
  bd (X5_has σ (l0 + 1 + 7 + 3 * j5) l2) fun r6 =>
  if w32 r6 ≠ 0 then
    ag 4 l3_3 fun j7 =>
    bd (X5_freeBehind σ (l0 + 1 + 7 + 3 * j7) l2 0) fun r8 =>
    some r8
  else
  some (-1)
def S_X7_neighbourFree_0 (fn : Nat → Int → Int → Option (Int)) (p : Program) (l : Launch) (e : Env) (R : Room) (s : State) (m : MethodId) (args : Array Value) (below : List Frame) (meth : Method) (c : Code) (G : GT) (σ : Mem) (res : Int) : Prop := ∀ (H : Heap) (locs : List Loc) (ls : Array Slot) (l0 : Nat) (l1 : Int) (l2 : Int), kd l0 = 7 → PW G σ H → va_S (AA G) s.heap H locs → fn l0 l1 l2 = some res → lv_has ls 4 [(0, .ref (gh G + l0)), (1, .int (i32 l1)), (2, .int (i32 l2))] → W p l e R s m args below meth c H locs 0 0 (MQ below (QM G (some (.int (i32 res))) σ) args s 0 0 (AA G)) (F0 m 0 ls [])
set_option maxHeartbeats 4000000 in
theorem a_X7_neighbourFree_0 {p : Program} {l : Launch} {e : Env} {R : Room} {s : State} {m : MethodId} {args : Array Value} {below : List Frame} {meth : Method} {c : Code} {G : GT} {σ : Mem} {res : Int} (X : CX p R s m args meth c cX7_neighbourFree 4 RX7 (some FieldType.int) 4 132 G) : S_X7_neighbourFree_0 (X7_neighbourFree σ) p l e R s m args below meth c G σ res := by
  intro H locs ls l0 l1 l2 hk_l0 hP hS hf hl
  unfold X7_neighbourFree at hf
  refine lv_aload_n X.1 X.2.1 dX7_neighbourFree_0 rfl (lv_at hl 0 rfl) ?_
  refine g_7_0 (r := l0 + 1) X hP hk_l0 rfl (tb t_168 rfl) dX7_neighbourFree_1 ?_
  refine lv_iload_n X.1 X.2.1 dX7_neighbourFree_4 rfl (lv_at hl 1 rfl) ?_
  obtain ⟨j1, hij1, hjj1, hlj1, hf⟩ := ag_inv hf
  refine r_aald18 (r := l0 + 1 + 7 + 3 * j1) X hP (ch_7_0 hk_l0).1 (ch_7_0 hk_l0).2 hij1 hjj1 rfl dX7_neighbourFree_5 ?_
  refine g_5_0 (r := l0 + 1 + 7 + 3 * j1 + 1) X hP ((ch_18 (ch_7_0 hk_l0).1).2 j1 hlj1) rfl (tb t_153 rfl) dX7_neighbourFree_6 ?_
  refine r_iconst X 2 dX7_neighbourFree_9 ?_
  obtain ⟨j2, hij2, hjj2, hlj2, hf⟩ := ag_inv hf
  refine r_iald X hP (ch_5_0 ((ch_18 (ch_7_0 hk_l0).1).2 j1 hlj1)).1 (ch_5_0 ((ch_18 (ch_7_0 hk_l0).1).2 j1 hlj1)).2 hij2 hjj2 dX7_neighbourFree_10 ?_
  obtain ⟨l3_3, el3_3, hf⟩ := lt_inv hf
  refine r_eqi el3_3 ?_
  refine lv_istore_n (lv' := [(3, .int (i32 l3_3)), (0, .ref (gh G + l0)), (1, .int (i32 l1)), (2, .int (i32 l2))]) X.1 X.2.1 dX7_neighbourFree_11 rfl hl (by decide) rfl (fun ls hl => ?_)
  refine lv_iload_n X.1 X.2.1 dX7_neighbourFree_12 rfl (lv_at hl 0 rfl) ?_
  obtain ⟨r4, hr4, hf⟩ := bd_inv hf
  refine kn_X10_isPart X hP hS hl.1  hr4 (host := RX10) (by decide +kernel) (by decide) (Nat.le_of_ble_eq_true rfl) dX7_neighbourFree_13 (fun H locs hP hS => ?_)
  refine r_if_eq (tgt := 32) X dX7_neighbourFree_16 (by decide) (fun q => ?_) (fun q => ?_)
  · replace hf := it_inv q hf
    refine r_iconst X (-1) dX7_neighbourFree_32 ?_
    cases so_inv hf
    exact r_iret X hP hS dX7_neighbourFree_33
  · replace hf := ie_inv q hf
    refine lv_aload_n X.1 X.2.1 dX7_neighbourFree_19 rfl (lv_at hl 1 rfl) ?_
    refine g_7_0 (r := l0 + 1) X hP hk_l0 rfl (tb t_168 rfl) dX7_neighbourFree_20 ?_
    refine lv_iload_n X.1 X.2.1 dX7_neighbourFree_23 rfl (lv_at hl 0 rfl) ?_
    obtain ⟨j5, hij5, hjj5, hlj5, hf⟩ := ag_inv hf
    refine r_aald18 (r := l0 + 1 + 7 + 3 * j5) X hP (ch_7_0 hk_l0).1 (ch_7_0 hk_l0).2 hij5 hjj5 rfl dX7_neighbourFree_24 ?_
    refine lv_iload_n X.1 X.2.1 dX7_neighbourFree_25 rfl (lv_at hl 3 rfl) ?_
    obtain ⟨r6, hr6, hf⟩ := bd_inv hf
    refine k_X5_has X hP hS hl.1 ((ch_18 (ch_7_0 hk_l0).1).2 j5 hlj5) hr6 (tb t_785 rfl) (by decide) (Nat.le_of_ble_eq_true rfl) dX7_neighbourFree_26 (fun H locs hP hS => ?_)
    refine r_if_ne (tgt := 34) X dX7_neighbourFree_29 (by decide) (fun q => ?_) (fun q => ?_)
    · replace hf := it_inv q hf
      refine lv_aload_n X.1 X.2.1 dX7_neighbourFree_34 rfl (lv_at hl 1 rfl) ?_
      refine g_7_0 (r := l0 + 1) X hP hk_l0 rfl (tb t_168 rfl) dX7_neighbourFree_35 ?_
      refine lv_iload_n X.1 X.2.1 dX7_neighbourFree_38 rfl (lv_at hl 0 rfl) ?_
      obtain ⟨j7, hij7, hjj7, hlj7, hf⟩ := ag_inv hf
      refine r_aald18 (r := l0 + 1 + 7 + 3 * j7) X hP (ch_7_0 hk_l0).1 (ch_7_0 hk_l0).2 hij7 hjj7 rfl dX7_neighbourFree_39 ?_
      refine lv_iload_n X.1 X.2.1 dX7_neighbourFree_40 rfl (lv_at hl 3 rfl) ?_
      refine r_iconst X 0 dX7_neighbourFree_41 ?_
      obtain ⟨r8, hr8, hf⟩ := bd_inv hf
      refine k_X5_freeBehind X hP hS hl.1 ((ch_18 (ch_7_0 hk_l0).1).2 j7 hlj7) hr8 (tb t_786 rfl) (by decide) (Nat.le_of_ble_eq_true rfl) dX7_neighbourFree_42 (fun H locs hP hS => ?_)
      cases so_inv hf
      exact r_iret X hP hS dX7_neighbourFree_45
    · replace hf := ie_inv q hf
      refine r_iconst X (-1) dX7_neighbourFree_32 ?_
      cases so_inv hf
      exact r_iret X hP hS dX7_neighbourFree_33
set_option maxHeartbeats 4000000 in
theorem c_X7_neighbourFree {l : Launch} {G : GT} {σ : Mem} {res : Int} {l0 : Nat} {l1 : Int} {l2 : Int} (hk_l0 : kd l0 = 7) (hf : X7_neighbourFree σ l0 l1 l2 = some res) : CT l yX7_neighbourFree cX7_neighbourFree 4 (some FieldType.int) 4 132 G [.ref (gh G + l0), .int (i32 l1), .int (i32 l2)] σ σ (some (.int (i32 res))) := by
  refine CT.mk (own := RX7) (by decide) rfl (Nat.le_of_ble_eq_true rfl) ?_
  intro p e s m below meth c ls X hP hS hl
  have hl : lv_has ls 4 [(0, .ref (gh G + l0)), (1, .int (i32 l1)), (2, .int (i32 l2))] := hl
  exact a_X7_neighbourFree_0 X  s.heap [] ls l0 l1 l2 hk_l0 hP hS hf hl
theorem k_X7_neighbourFree {p : Program} {l : Launch} {e : Env} {R : Room} {s : State} {m : MethodId} {args : Array Value} {below : List Frame} {meth : Method} {c : Code} {H : Heap} {locs : List Loc} {Q : State → Prop} {cc : ByteArray} {nL : Nat} {own : String} {ret : Option FieldType} {fF fL : Nat} {G : GT} {pc idx : Nat} {ls : Array Slot} {rest : List Value} {σ : Mem} {res : Int} {l0 : Nat} {l1 : Int} {l2 : Int} (X : CX p R s m args meth c cc nL own ret fF fL G) (hP : PW G σ H) (hS : va_S (AA G) s.heap H locs) (hls : ls.size = nL) (hk_l0 : kd l0 = 7) (hf : X7_neighbourFree σ l0 l1 l2 = some res) (h1 : Cond.methodLink own idx yX7_neighbourFree ∈ TB) (hR : 4 + 1 ≤ fF ∧ 8 + (4 + 11) + 132 ≤ fL) (hW : (rest.map fun v => v.category).sum ≤ 8) (hd : decode cc pc = .ok (.invokevirtual idx, 3)) (kk : ∀ (H1 : Heap) (locs1 : List Loc), PW G σ H1 → va_S (AA G) s.heap H1 locs1 → W p l e R s m args below meth c H1 locs1 0 0 Q (F0 m (pc + 3) ls (.int (i32 res) :: rest))) : W p l e R s m args below meth c H locs 0 0 Q (F0 m pc ls (.int (i32 l2) :: .int (i32 l1) :: .ref (gh G + l0) :: rest)) := r_callV (n := 2) X hP hS hls (c_X7_neighbourFree hk_l0 hf) h1 (tb t_781 rfl) (tb t_782 rfl) (tb t_76 rfl) (tb t_783 rfl) (by decide +kernel) hR (r_recv X hP (kd_lt hk_l0 (by decide)) (cE_7 hk_l0) rfl) rfl rfl hW hd kk
/-! X1_findEase -/
theorem dX1_findEase_0 : decode cX1_findEase 0 = .ok (.aload_n 1, 1) := by decide +kernel
theorem dX1_findEase_1 : decode cX1_findEase 1 = .ok (.getfield 33, 3) := by decide +kernel
theorem dX1_findEase_4 : decode cX1_findEase 4 = .ok (.iload_n 2, 1) := by decide +kernel
theorem dX1_findEase_5 : decode cX1_findEase 5 = .ok (.aaload, 1) := by decide +kernel
theorem dX1_findEase_6 : decode cX1_findEase 6 = .ok (.astore 4, 2) := by decide +kernel
theorem dX1_findEase_8 : decode cX1_findEase 8 = .ok (.iconst 0, 1) := by decide +kernel
theorem dX1_findEase_9 : decode cX1_findEase 9 = .ok (.istore 5, 2) := by decide +kernel
theorem dX1_findEase_11 : decode cX1_findEase 11 = .ok (.iload 5, 2) := by decide +kernel
theorem dX1_findEase_13 : decode cX1_findEase 13 = .ok (.aload 4, 2) := by decide +kernel
theorem dX1_findEase_15 : decode cX1_findEase 15 = .ok (.getfield 39, 3) := by decide +kernel
theorem dX1_findEase_18 : decode cX1_findEase 18 = .ok (.if_icmp .ge 34, 3) := by decide +kernel
theorem dX1_findEase_21 : decode cX1_findEase 21 = .ok (.aload_n 0, 1) := by decide +kernel
theorem dX1_findEase_22 : decode cX1_findEase 22 = .ok (.getfield 18, 3) := by decide +kernel
theorem dX1_findEase_25 : decode cX1_findEase 25 = .ok (.iload 5, 2) := by decide +kernel
theorem dX1_findEase_27 : decode cX1_findEase 27 = .ok (.aload 4, 2) := by decide +kernel
theorem dX1_findEase_29 : decode cX1_findEase 29 = .ok (.iload 5, 2) := by decide +kernel
theorem dX1_findEase_31 : decode cX1_findEase 31 = .ok (.iload_n 3, 1) := by decide +kernel
theorem dX1_findEase_32 : decode cX1_findEase 32 = .ok (.invokevirtual 45, 3) := by decide +kernel
theorem dX1_findEase_35 : decode cX1_findEase 35 = .ok (.aload_n 1, 1) := by decide +kernel
theorem dX1_findEase_36 : decode cX1_findEase 36 = .ok (.iload_n 2, 1) := by decide +kernel
theorem dX1_findEase_37 : decode cX1_findEase 37 = .ok (.iload 5, 2) := by decide +kernel
theorem dX1_findEase_39 : decode cX1_findEase 39 = .ok (.invokevirtual 49, 3) := by decide +kernel
theorem dX1_findEase_42 : decode cX1_findEase 42 = .ok (.invokestatic 52, 3) := by decide +kernel
theorem dX1_findEase_45 : decode cX1_findEase 45 = .ok (.iastore, 1) := by decide +kernel
theorem dX1_findEase_46 : decode cX1_findEase 46 = .ok (.iinc 5 1, 3) := by decide +kernel
theorem dX1_findEase_49 : decode cX1_findEase 49 = .ok (.goto (-38), 3) := by decide +kernel
theorem dX1_findEase_52 : decode cX1_findEase 52 = .ok (.return_, 1) := by decide +kernel
def S_X1_findEase_11 (fn : Mem → Nat → Int → Int → Nat → Int → Option (Mem)) (p : Program) (l : Launch) (e : Env) (R : Room) (s : State) (m : MethodId) (args : Array Value) (below : List Frame) (meth : Method) (c : Code) (G : GT) (τ : Mem) : Prop := ∀ (σ : Mem) (H : Heap) (locs : List Loc) (ls : Array Slot) (l1 : Nat) (l2 : Int) (l3 : Int) (l4 : Nat) (l5 : Int), kd l1 = 7 → kd l4 = 5 → PW G σ H → va_S (AA G) s.heap H locs → fn σ l1 l2 l3 l4 l5 = some τ → lv_has ls 6 [(0, .ref (gh G + 53)), (1, .ref (gh G + l1)), (2, .int (i32 l2)), (3, .int (i32 l3)), (4, .ref (gh G + l4)), (5, .int (i32 l5))] → W p l e R s m args below meth c H locs 0 0 (MQ below (QM G none τ) args s 0 0 (AA G)) (F0 m 11 ls [])
def X1_findEase_B11 (rec11 : Mem → Nat → Int → Int → Nat → Int → Option (Mem)) (σ : Mem) (l1 : Nat) (l2 : Int) (l3 : Int) (l4 : Nat) (l5 : Int) : Option (Mem) :=
  if w32 (σ l4 2) ≤ w32 l5 then
    some σ
  else
  bd (X5_freeBehind σ l4 l5 l3) fun r1 =>
  bd (X7_neighbourFree σ l1 l2 l5) fun r2 =>
  ag 40 l5 fun j3 =>
  lt (st σ 58 j3 (imx r1 r2)) fun s4 =>
  lt (l5 + 1) fun l5_5 =>
  rec11 s4 l1 l2 l3 l4 l5_5
def X1_findEase_L11 : Nat → Mem → Nat → Int → Int → Nat → Int → Option (Mem)
  | 0 => fun _ _ _ _ _ _ => none
  | n + 1 => X1_findEase_B11 (X1_findEase_L11 n)
def X1_findEase (σ : Mem) (l1 : Nat) (l2 : Int) (l3 : Int) : Option (Mem) :=
  ag 4 l2 fun j1 =>
  X1_findEase_L11 5000 σ l1 l2 l3 (l1 + 1 + 7 + 3 * j1) 0
def S_X1_findEase_0 (fn : Mem → Nat → Int → Int → Option (Mem)) (p : Program) (l : Launch) (e : Env) (R : Room) (s : State) (m : MethodId) (args : Array Value) (below : List Frame) (meth : Method) (c : Code) (G : GT) (τ : Mem) : Prop := ∀ (σ : Mem) (H : Heap) (locs : List Loc) (ls : Array Slot) (l1 : Nat) (l2 : Int) (l3 : Int), kd l1 = 7 → PW G σ H → va_S (AA G) s.heap H locs → fn σ l1 l2 l3 = some τ → lv_has ls 6 [(0, .ref (gh G + 53)), (1, .ref (gh G + l1)), (2, .int (i32 l2)), (3, .int (i32 l3))] → W p l e R s m args below meth c H locs 0 0 (MQ below (QM G none τ) args s 0 0 (AA G)) (F0 m 0 ls [])
set_option maxHeartbeats 4000000 in
theorem a_X1_findEase_11 {p : Program} {l : Launch} {e : Env} {R : Room} {s : State} {m : MethodId} {args : Array Value} {below : List Frame} {meth : Method} {c : Code} {G : GT} {τ : Mem} {rec11 : Mem → Nat → Int → Int → Nat → Int → Option (Mem)} (X : CX p R s m args meth c cX1_findEase 6 RX1 none 5 155 G) (h11 : S_X1_findEase_11 rec11 p l e R s m args below meth c G τ) : S_X1_findEase_11 (X1_findEase_B11 rec11) p l e R s m args below meth c G τ := by
  intro σ H locs ls l1 l2 l3 l4 l5 hk_l1 hk_l4 hP hS hf hl
  unfold X1_findEase_B11 at hf
  refine lv_iload X.1 X.2.1 dX1_findEase_11 (lv_at hl 5 rfl) ?_
  refine lv_aload X.1 X.2.1 dX1_findEase_13 (lv_at hl 4 rfl) ?_
  refine g_5_2 X hP hk_l4 (tb t_157 rfl) dX1_findEase_15 ?_
  refine r_icmp_ge (tgt := 52) X dX1_findEase_18 (by decide) (fun q => ?_) (fun q => ?_)
  · replace hf := it_inv q hf
    cases so_inv hf
    exact r_vret X hP hS dX1_findEase_52
  · replace hf := ie_inv q hf
    refine lv_aload_n X.1 X.2.1 dX1_findEase_21 rfl (lv_at hl 0 rfl) ?_
    refine g_1_1 (r := 58) X hP ks_1 rfl (tb t_274 rfl) dX1_findEase_22 ?_
    refine lv_iload X.1 X.2.1 dX1_findEase_25 (lv_at hl 5 rfl) ?_
    refine lv_aload X.1 X.2.1 dX1_findEase_27 (lv_at hl 4 rfl) ?_
    refine lv_iload X.1 X.2.1 dX1_findEase_29 (lv_at hl 5 rfl) ?_
    refine lv_iload_n X.1 X.2.1 dX1_findEase_31 rfl (lv_at hl 3 rfl) ?_
    obtain ⟨r1, hr1, hf⟩ := bd_inv hf
    refine k_X5_freeBehind X hP hS hl.1 hk_l4 hr1 (tb t_779 rfl) (by decide) (Nat.le_of_ble_eq_true rfl) dX1_findEase_32 (fun H locs hP hS => ?_)
    refine lv_aload_n X.1 X.2.1 dX1_findEase_35 rfl (lv_at hl 1 rfl) ?_
    refine lv_iload_n X.1 X.2.1 dX1_findEase_36 rfl (lv_at hl 2 rfl) ?_
    refine lv_iload X.1 X.2.1 dX1_findEase_37 (lv_at hl 5 rfl) ?_
    obtain ⟨r2, hr2, hf⟩ := bd_inv hf
    refine k_X7_neighbourFree X hP hS hl.1 hk_l1 hr2 (tb t_780 rfl) (by decide) (Nat.le_of_ble_eq_true rfl) dX1_findEase_39 (fun H locs hP hS => ?_)
    refine r_mmax X hl.1 (tb t_787 rfl) (tb t_680 rfl) (tb t_92 rfl) (tb t_681 rfl) (by decide) (Nat.le_of_ble_eq_true rfl) dX1_findEase_42 ?_
    obtain ⟨j3, hij3, hjj3, hlj3, hf⟩ := ag_inv hf
    refine r_iast X hP hS (ch_1_1 ks_1).1 (ch_1_1 ks_1).2 hij3 hjj3 dX1_findEase_45 (fun H locs hP hS => ?_)
    obtain ⟨s4, es4, hf⟩ := lt_inv hf
    rw [es4] at hP
    obtain ⟨l5_5, el5_5, hf⟩ := lt_inv hf
    refine lv_iinc (v := i32 l5_5) (lv' := [(5, .int (i32 l5_5)), (0, .ref (gh G + 53)), (1, .ref (gh G + l1)), (2, .int (i32 l2)), (3, .int (i32 l3)), (4, .ref (gh G + l4))]) X.1 X.2.1 dX1_findEase_46 hl (k := 5) rfl (by rw [← el5_5]; exact i32_add _ _) (by decide) rfl (fun ls hl => ?_)
    refine lv_goto (tgt := 11) X.1 X.2.1 dX1_findEase_49 (by decide) ?_
    exact h11 s4 H locs ls l1 l2 l3 l4 l5_5 hk_l1 hk_l4 hP hS hf (lv_sub hl [1, 2, 3, 4, 5, 0] rfl)
theorem al_X1_findEase_11 {p : Program} {l : Launch} {e : Env} {R : Room} {s : State} {m : MethodId} {args : Array Value} {below : List Frame} {meth : Method} {c : Code} {G : GT} {τ : Mem} (X : CX p R s m args meth c cX1_findEase 6 RX1 none 5 155 G) : ∀ n, S_X1_findEase_11 (X1_findEase_L11 n) p l e R s m args below meth c G τ := by
  intro n
  induction n with
  | zero =>
    intro σ H locs ls l1 l2 l3 l4 l5 hk_l1 hk_l4 hP hS hf hl
    cases hf
  | succ n ih => exact a_X1_findEase_11 X ih
set_option maxHeartbeats 4000000 in
theorem a_X1_findEase_0 {p : Program} {l : Launch} {e : Env} {R : Room} {s : State} {m : MethodId} {args : Array Value} {below : List Frame} {meth : Method} {c : Code} {G : GT} {τ : Mem} (X : CX p R s m args meth c cX1_findEase 6 RX1 none 5 155 G) : S_X1_findEase_0 (X1_findEase) p l e R s m args below meth c G τ := by
  intro σ H locs ls l1 l2 l3 hk_l1 hP hS hf hl
  unfold X1_findEase at hf
  refine lv_aload_n X.1 X.2.1 dX1_findEase_0 rfl (lv_at hl 1 rfl) ?_
  refine g_7_0 (r := l1 + 1) X hP hk_l1 rfl (tb t_169 rfl) dX1_findEase_1 ?_
  refine lv_iload_n X.1 X.2.1 dX1_findEase_4 rfl (lv_at hl 2 rfl) ?_
  obtain ⟨j1, hij1, hjj1, hlj1, hf⟩ := ag_inv hf
  refine r_aald18 (r := l1 + 1 + 7 + 3 * j1) X hP (ch_7_0 hk_l1).1 (ch_7_0 hk_l1).2 hij1 hjj1 rfl dX1_findEase_5 ?_
  refine lv_astore (lv' := [(4, .ref (gh G + (l1 + 1 + 7 + 3 * j1))), (0, .ref (gh G + 53)), (1, .ref (gh G + l1)), (2, .int (i32 l2)), (3, .int (i32 l3))]) X.1 X.2.1 dX1_findEase_6 hl (by decide) rfl (fun ls hl => ?_)
  refine r_iconst X 0 dX1_findEase_8 ?_
  refine lv_istore (lv' := [(5, .int (i32 0)), (4, .ref (gh G + (l1 + 1 + 7 + 3 * j1))), (0, .ref (gh G + 53)), (1, .ref (gh G + l1)), (2, .int (i32 l2)), (3, .int (i32 l3))]) X.1 X.2.1 dX1_findEase_9 hl (by decide) rfl (fun ls hl => ?_)
  exact al_X1_findEase_11 X 5000 σ H locs ls l1 l2 l3 (l1 + 1 + 7 + 3 * j1) 0 hk_l1 ((ch_18 (ch_7_0 hk_l1).1).2 j1 hlj1) hP hS hf (lv_sub hl [2, 3, 4, 5, 1, 0] rfl)
set_option maxHeartbeats 4000000 in
theorem c_X1_findEase {l : Launch} {G : GT} {σ τ : Mem} {l1 : Nat} {l2 : Int} {l3 : Int} (hk_l1 : kd l1 = 7) (hf : X1_findEase σ l1 l2 l3 = some τ) : CT l yX1_findEase cX1_findEase 6 none 5 155 G [.ref (gh G + 53), .ref (gh G + l1), .int (i32 l2), .int (i32 l3)] σ τ none := by
  refine CT.mk (own := RX1) (by decide) rfl (Nat.le_of_ble_eq_true rfl) ?_
  intro p e s m below meth c ls X hP hS hl
  have hl : lv_has ls 6 [(0, .ref (gh G + 53)), (1, .ref (gh G + l1)), (2, .int (i32 l2)), (3, .int (i32 l3))] := hl
  exact a_X1_findEase_0 X σ s.heap [] ls l1 l2 l3 hk_l1 hP hS hf hl
theorem k_X1_findEase {p : Program} {l : Launch} {e : Env} {R : Room} {s : State} {m : MethodId} {args : Array Value} {below : List Frame} {meth : Method} {c : Code} {H : Heap} {locs : List Loc} {Q : State → Prop} {cc : ByteArray} {nL : Nat} {own : String} {ret : Option FieldType} {fF fL : Nat} {G : GT} {pc idx : Nat} {ls : Array Slot} {rest : List Value} {σ τ : Mem} {l1 : Nat} {l2 : Int} {l3 : Int} (X : CX p R s m args meth c cc nL own ret fF fL G) (hP : PW G σ H) (hS : va_S (AA G) s.heap H locs) (hls : ls.size = nL) (hk_l1 : kd l1 = 7) (hf : X1_findEase σ l1 l2 l3 = some τ) (h1 : Cond.methodLink own idx yX1_findEase ∈ TB) (hR : 5 + 1 ≤ fF ∧ 8 + (6 + 11) + 155 ≤ fL) (hW : (rest.map fun v => v.category).sum ≤ 8) (hd : decode cc pc = .ok (.invokevirtual idx, 3)) (kk : ∀ (H1 : Heap) (locs1 : List Loc), PW G τ H1 → va_S (AA G) s.heap H1 locs1 → W p l e R s m args below meth c H1 locs1 0 0 Q (F0 m (pc + 3) ls (rest))) : W p l e R s m args below meth c H locs 0 0 Q (F0 m pc ls (.int (i32 l3) :: .int (i32 l2) :: .ref (gh G + l1) :: .ref (gh G + 53) :: rest)) := r_callV (n := 3) X hP hS hls (c_X1_findEase hk_l1 hf) h1 (tb t_776 rfl) (tb t_777 rfl) (tb t_82 rfl) (tb t_778 rfl) (by decide +kernel) hR (r_recv X hP (kd_lt ks_1 (by decide)) (cE_1 ks_1) rfl) rfl rfl hW hd kk
/-! X4_hasPage -/
theorem dX4_hasPage_0 : decode cX4_hasPage 0 = .ok (.aload_n 0, 1) := by decide +kernel
theorem dX4_hasPage_1 : decode cX4_hasPage 1 = .ok (.getfield 9, 3) := by decide +kernel
theorem dX4_hasPage_4 : decode cX4_hasPage 4 = .ok (.iload_n 1, 1) := by decide +kernel
theorem dX4_hasPage_5 : decode cX4_hasPage 5 = .ok (.bipush 40, 2) := by decide +kernel
theorem dX4_hasPage_7 : decode cX4_hasPage 7 = .ok (.imul, 1) := by decide +kernel
theorem dX4_hasPage_8 : decode cX4_hasPage 8 = .ok (.iload_n 2, 1) := by decide +kernel
theorem dX4_hasPage_9 : decode cX4_hasPage 9 = .ok (.iadd, 1) := by decide +kernel
theorem dX4_hasPage_10 : decode cX4_hasPage 10 = .ok (.iaload, 1) := by decide +kernel
theorem dX4_hasPage_11 : decode cX4_hasPage 11 = .ok (.ldc 26, 2) := by decide +kernel
theorem dX4_hasPage_13 : decode cX4_hasPage 13 = .ok (.if_icmp .eq 7, 3) := by decide +kernel
theorem dX4_hasPage_16 : decode cX4_hasPage 16 = .ok (.iconst 1, 1) := by decide +kernel
theorem dX4_hasPage_17 : decode cX4_hasPage 17 = .ok (.goto 4, 3) := by decide +kernel
theorem dX4_hasPage_20 : decode cX4_hasPage 20 = .ok (.iconst 0, 1) := by decide +kernel
theorem dX4_hasPage_21 : decode cX4_hasPage 21 = .ok (.ireturn, 1) := by decide +kernel
def X4_hasPage (σ : Mem) (l0 : Nat) (l1 : Int) (l2 : Int) : Option (Int) :=
  ag 1600 ((l1 * 40) + l2) fun j1 =>
  if w32 (σ (l0 + 1) j1) = w32 2147483647 then
    some 0
  else
  some 1
def S_X4_hasPage_0 (fn : Nat → Int → Int → Option (Int)) (p : Program) (l : Launch) (e : Env) (R : Room) (s : State) (m : MethodId) (args : Array Value) (below : List Frame) (meth : Method) (c : Code) (G : GT) (σ : Mem) (res : Int) : Prop := ∀ (H : Heap) (locs : List Loc) (ls : Array Slot) (l0 : Nat) (l1 : Int) (l2 : Int), kd l0 = 4 → PW G σ H → va_S (AA G) s.heap H locs → fn l0 l1 l2 = some res → lv_has ls 3 [(0, .ref (gh G + l0)), (1, .int (i32 l1)), (2, .int (i32 l2))] → W p l e R s m args below meth c H locs 0 0 (MQ below (QM G (some (.int (i32 res))) σ) args s 0 0 (AA G)) (F0 m 0 ls [])
set_option maxHeartbeats 4000000 in
theorem a_X4_hasPage_0 {p : Program} {l : Launch} {e : Env} {R : Room} {s : State} {m : MethodId} {args : Array Value} {below : List Frame} {meth : Method} {c : Code} {G : GT} {σ : Mem} {res : Int} (X : CX p R s m args meth c cX4_hasPage 3 RX4 (some FieldType.boolean) 1 60 G) : S_X4_hasPage_0 (X4_hasPage σ) p l e R s m args below meth c G σ res := by
  intro H locs ls l0 l1 l2 hk_l0 hP hS hf hl
  unfold X4_hasPage at hf
  refine lv_aload_n X.1 X.2.1 dX4_hasPage_0 rfl (lv_at hl 0 rfl) ?_
  refine g_4_0 (r := l0 + 1) X hP hk_l0 rfl (tb t_322 rfl) dX4_hasPage_1 ?_
  refine lv_iload_n X.1 X.2.1 dX4_hasPage_4 rfl (lv_at hl 1 rfl) ?_
  refine r_bipush X 40 (by decide) dX4_hasPage_5 ?_
  refine r_imul X dX4_hasPage_7 ?_
  refine lv_iload_n X.1 X.2.1 dX4_hasPage_8 rfl (lv_at hl 2 rfl) ?_
  refine r_iadd X dX4_hasPage_9 ?_
  obtain ⟨j1, hij1, hjj1, hlj1, hf⟩ := ag_inv hf
  refine r_iald X hP (ch_4_0 hk_l0).1 (ch_4_0 hk_l0).2 hij1 hjj1 dX4_hasPage_10 ?_
  refine r_ldc X 2147483647 (tb t_764 rfl) (by decide) dX4_hasPage_11 ?_
  refine r_icmp_eq (tgt := 20) X dX4_hasPage_13 (by decide) (fun q => ?_) (fun q => ?_)
  · replace hf := it_inv q hf
    refine r_iconst X 0 dX4_hasPage_20 ?_
    cases so_inv hf
    exact r_zret X hP hS (Or.inl rfl) dX4_hasPage_21
  · replace hf := ie_inv q hf
    refine r_iconst X 1 dX4_hasPage_16 ?_
    refine lv_goto (tgt := 21) X.1 X.2.1 dX4_hasPage_17 (by decide) ?_
    cases so_inv hf
    exact r_zret X hP hS (Or.inr rfl) dX4_hasPage_21
set_option maxHeartbeats 4000000 in
theorem c_X4_hasPage {l : Launch} {G : GT} {σ : Mem} {res : Int} {l0 : Nat} {l1 : Int} {l2 : Int} (hk_l0 : kd l0 = 4) (hf : X4_hasPage σ l0 l1 l2 = some res) : CT l yX4_hasPage cX4_hasPage 3 (some FieldType.boolean) 1 60 G [.ref (gh G + l0), .int (i32 l1), .int (i32 l2)] σ σ (some (.int (i32 res))) := by
  refine CT.mk (own := RX4) (by decide) rfl (Nat.le_of_ble_eq_true rfl) ?_
  intro p e s m below meth c ls X hP hS hl
  have hl : lv_has ls 3 [(0, .ref (gh G + l0)), (1, .int (i32 l1)), (2, .int (i32 l2))] := hl
  exact a_X4_hasPage_0 X  s.heap [] ls l0 l1 l2 hk_l0 hP hS hf hl
theorem k_X4_hasPage {p : Program} {l : Launch} {e : Env} {R : Room} {s : State} {m : MethodId} {args : Array Value} {below : List Frame} {meth : Method} {c : Code} {H : Heap} {locs : List Loc} {Q : State → Prop} {cc : ByteArray} {nL : Nat} {own : String} {ret : Option FieldType} {fF fL : Nat} {G : GT} {pc idx : Nat} {ls : Array Slot} {rest : List Value} {σ : Mem} {res : Int} {l0 : Nat} {l1 : Int} {l2 : Int} (X : CX p R s m args meth c cc nL own ret fF fL G) (hP : PW G σ H) (hS : va_S (AA G) s.heap H locs) (hls : ls.size = nL) (hk_l0 : kd l0 = 4) (hf : X4_hasPage σ l0 l1 l2 = some res) (h1 : Cond.methodLink own idx yX4_hasPage ∈ TB) (hR : 1 + 1 ≤ fF ∧ 8 + (3 + 11) + 60 ≤ fL) (hW : (rest.map fun v => v.category).sum ≤ 8) (hd : decode cc pc = .ok (.invokevirtual idx, 3)) (kk : ∀ (H1 : Heap) (locs1 : List Loc), PW G σ H1 → va_S (AA G) s.heap H1 locs1 → W p l e R s m args below meth c H1 locs1 0 0 Q (F0 m (pc + 3) ls (.int (i32 res) :: rest))) : W p l e R s m args below meth c H locs 0 0 Q (F0 m pc ls (.int (i32 l2) :: .int (i32 l1) :: .ref (gh G + l0) :: rest)) := r_callV (n := 2) X hP hS hls (c_X4_hasPage hk_l0 hf) h1 (tb t_800 rfl) (tb t_801 rfl) (tb t_85 rfl) (tb t_802 rfl) (by decide +kernel) hR (r_recv X hP (kd_lt hk_l0 (by decide)) (cE_4 hk_l0) rfl) rfl rfl hW hd kk
/-! X4_costOf -/
theorem dX4_costOf_0 : decode cX4_costOf 0 = .ok (.aload_n 0, 1) := by decide +kernel
theorem dX4_costOf_1 : decode cX4_costOf 1 = .ok (.getfield 9, 3) := by decide +kernel
theorem dX4_costOf_4 : decode cX4_costOf 4 = .ok (.iload_n 1, 1) := by decide +kernel
theorem dX4_costOf_5 : decode cX4_costOf 5 = .ok (.bipush 40, 2) := by decide +kernel
theorem dX4_costOf_7 : decode cX4_costOf 7 = .ok (.imul, 1) := by decide +kernel
theorem dX4_costOf_8 : decode cX4_costOf 8 = .ok (.iload_n 2, 1) := by decide +kernel
theorem dX4_costOf_9 : decode cX4_costOf 9 = .ok (.iadd, 1) := by decide +kernel
theorem dX4_costOf_10 : decode cX4_costOf 10 = .ok (.iaload, 1) := by decide +kernel
theorem dX4_costOf_11 : decode cX4_costOf 11 = .ok (.iconst 2, 1) := by decide +kernel
theorem dX4_costOf_12 : decode cX4_costOf 12 = .ok (.ishr, 1) := by decide +kernel
theorem dX4_costOf_13 : decode cX4_costOf 13 = .ok (.ireturn, 1) := by decide +kernel
def X4_costOf (σ : Mem) (l0 : Nat) (l1 : Int) (l2 : Int) : Option (Int) :=
  ag 1600 ((l1 * 40) + l2) fun j1 =>
  some (isr (σ (l0 + 1) j1) 2)
def S_X4_costOf_0 (fn : Nat → Int → Int → Option (Int)) (p : Program) (l : Launch) (e : Env) (R : Room) (s : State) (m : MethodId) (args : Array Value) (below : List Frame) (meth : Method) (c : Code) (G : GT) (σ : Mem) (res : Int) : Prop := ∀ (H : Heap) (locs : List Loc) (ls : Array Slot) (l0 : Nat) (l1 : Int) (l2 : Int), kd l0 = 4 → PW G σ H → va_S (AA G) s.heap H locs → fn l0 l1 l2 = some res → lv_has ls 3 [(0, .ref (gh G + l0)), (1, .int (i32 l1)), (2, .int (i32 l2))] → W p l e R s m args below meth c H locs 0 0 (MQ below (QM G (some (.int (i32 res))) σ) args s 0 0 (AA G)) (F0 m 0 ls [])
set_option maxHeartbeats 4000000 in
theorem a_X4_costOf_0 {p : Program} {l : Launch} {e : Env} {R : Room} {s : State} {m : MethodId} {args : Array Value} {below : List Frame} {meth : Method} {c : Code} {G : GT} {σ : Mem} {res : Int} (X : CX p R s m args meth c cX4_costOf 3 RX4 (some FieldType.int) 1 60 G) : S_X4_costOf_0 (X4_costOf σ) p l e R s m args below meth c G σ res := by
  intro H locs ls l0 l1 l2 hk_l0 hP hS hf hl
  unfold X4_costOf at hf
  refine lv_aload_n X.1 X.2.1 dX4_costOf_0 rfl (lv_at hl 0 rfl) ?_
  refine g_4_0 (r := l0 + 1) X hP hk_l0 rfl (tb t_322 rfl) dX4_costOf_1 ?_
  refine lv_iload_n X.1 X.2.1 dX4_costOf_4 rfl (lv_at hl 1 rfl) ?_
  refine r_bipush X 40 (by decide) dX4_costOf_5 ?_
  refine r_imul X dX4_costOf_7 ?_
  refine lv_iload_n X.1 X.2.1 dX4_costOf_8 rfl (lv_at hl 2 rfl) ?_
  refine r_iadd X dX4_costOf_9 ?_
  obtain ⟨j1, hij1, hjj1, hlj1, hf⟩ := ag_inv hf
  refine r_iald X hP (ch_4_0 hk_l0).1 (ch_4_0 hk_l0).2 hij1 hjj1 dX4_costOf_10 ?_
  refine r_iconst X 2 dX4_costOf_11 ?_
  refine r_ishr X dX4_costOf_12 ?_
  cases so_inv hf
  exact r_iret X hP hS dX4_costOf_13
set_option maxHeartbeats 4000000 in
theorem c_X4_costOf {l : Launch} {G : GT} {σ : Mem} {res : Int} {l0 : Nat} {l1 : Int} {l2 : Int} (hk_l0 : kd l0 = 4) (hf : X4_costOf σ l0 l1 l2 = some res) : CT l yX4_costOf cX4_costOf 3 (some FieldType.int) 1 60 G [.ref (gh G + l0), .int (i32 l1), .int (i32 l2)] σ σ (some (.int (i32 res))) := by
  refine CT.mk (own := RX4) (by decide) rfl (Nat.le_of_ble_eq_true rfl) ?_
  intro p e s m below meth c ls X hP hS hl
  have hl : lv_has ls 3 [(0, .ref (gh G + l0)), (1, .int (i32 l1)), (2, .int (i32 l2))] := hl
  exact a_X4_costOf_0 X  s.heap [] ls l0 l1 l2 hk_l0 hP hS hf hl
theorem k_X4_costOf {p : Program} {l : Launch} {e : Env} {R : Room} {s : State} {m : MethodId} {args : Array Value} {below : List Frame} {meth : Method} {c : Code} {H : Heap} {locs : List Loc} {Q : State → Prop} {cc : ByteArray} {nL : Nat} {own : String} {ret : Option FieldType} {fF fL : Nat} {G : GT} {pc idx : Nat} {ls : Array Slot} {rest : List Value} {σ : Mem} {res : Int} {l0 : Nat} {l1 : Int} {l2 : Int} (X : CX p R s m args meth c cc nL own ret fF fL G) (hP : PW G σ H) (hS : va_S (AA G) s.heap H locs) (hls : ls.size = nL) (hk_l0 : kd l0 = 4) (hf : X4_costOf σ l0 l1 l2 = some res) (h1 : Cond.methodLink own idx yX4_costOf ∈ TB) (hR : 1 + 1 ≤ fF ∧ 8 + (3 + 11) + 60 ≤ fL) (hW : (rest.map fun v => v.category).sum ≤ 8) (hd : decode cc pc = .ok (.invokevirtual idx, 3)) (kk : ∀ (H1 : Heap) (locs1 : List Loc), PW G σ H1 → va_S (AA G) s.heap H1 locs1 → W p l e R s m args below meth c H1 locs1 0 0 Q (F0 m (pc + 3) ls (.int (i32 res) :: rest))) : W p l e R s m args below meth c H locs 0 0 Q (F0 m pc ls (.int (i32 l2) :: .int (i32 l1) :: .ref (gh G + l0) :: rest)) := r_callV (n := 2) X hP hS hls (c_X4_costOf hk_l0 hf) h1 (tb t_808 rfl) (tb t_809 rfl) (tb t_85 rfl) (tb t_810 rfl) (by decide +kernel) hR (r_recv X hP (kd_lt hk_l0 (by decide)) (cE_4 hk_l0) rfl) rfl rfl hW hd kk
/-! X1_following -/
theorem dX1_following_0 : decode cX1_following 0 = .ok (.iload_n 0, 1) := by decide +kernel
theorem dX1_following_1 : decode cX1_following 1 = .ok (.bipush 11, 2) := by decide +kernel
theorem dX1_following_3 : decode cX1_following 3 = .ok (.if_icmp .ge 9, 3) := by decide +kernel
theorem dX1_following_6 : decode cX1_following 6 = .ok (.iload_n 0, 1) := by decide +kernel
theorem dX1_following_7 : decode cX1_following 7 = .ok (.iconst 1, 1) := by decide +kernel
theorem dX1_following_8 : decode cX1_following 8 = .ok (.iadd, 1) := by decide +kernel
theorem dX1_following_9 : decode cX1_following 9 = .ok (.goto 5, 3) := by decide +kernel
theorem dX1_following_12 : decode cX1_following 12 = .ok (.bipush 10, 2) := by decide +kernel
theorem dX1_following_14 : decode cX1_following 14 = .ok (.ireturn, 1) := by decide +kernel
def X1_following (σ : Mem) (l0 : Int) : Option (Int) :=
  if w32 11 ≤ w32 l0 then
    some 10
  else
  some (l0 + 1)
def S_X1_following_0 (fn : Int → Option (Int)) (p : Program) (l : Launch) (e : Env) (R : Room) (s : State) (m : MethodId) (args : Array Value) (below : List Frame) (meth : Method) (c : Code) (G : GT) (σ : Mem) (res : Int) : Prop := ∀ (H : Heap) (locs : List Loc) (ls : Array Slot) (l0 : Int), PW G σ H → va_S (AA G) s.heap H locs → fn l0 = some res → lv_has ls 1 [(0, .int (i32 l0))] → W p l e R s m args below meth c H locs 0 0 (MQ below (QM G (some (.int (i32 res))) σ) args s 0 0 (AA G)) (F0 m 0 ls [])
set_option maxHeartbeats 4000000 in
theorem a_X1_following_0 {p : Program} {l : Launch} {e : Env} {R : Room} {s : State} {m : MethodId} {args : Array Value} {below : List Frame} {meth : Method} {c : Code} {G : GT} {σ : Mem} {res : Int} (X : CX p R s m args meth c cX1_following 1 RX1 (some FieldType.int) 1 60 G) : S_X1_following_0 (X1_following σ) p l e R s m args below meth c G σ res := by
  intro H locs ls l0 hP hS hf hl
  unfold X1_following at hf
  refine lv_iload_n X.1 X.2.1 dX1_following_0 rfl (lv_at hl 0 rfl) ?_
  refine r_bipush X 11 (by decide) dX1_following_1 ?_
  refine r_icmp_ge (tgt := 12) X dX1_following_3 (by decide) (fun q => ?_) (fun q => ?_)
  · replace hf := it_inv q hf
    refine r_bipush X 10 (by decide) dX1_following_12 ?_
    cases so_inv hf
    exact r_iret X hP hS dX1_following_14
  · replace hf := ie_inv q hf
    refine lv_iload_n X.1 X.2.1 dX1_following_6 rfl (lv_at hl 0 rfl) ?_
    refine r_iconst X 1 dX1_following_7 ?_
    refine r_iadd X dX1_following_8 ?_
    refine lv_goto (tgt := 14) X.1 X.2.1 dX1_following_9 (by decide) ?_
    cases so_inv hf
    exact r_iret X hP hS dX1_following_14
set_option maxHeartbeats 4000000 in
theorem c_X1_following {l : Launch} {G : GT} {σ : Mem} {res : Int} {l0 : Int} (hf : X1_following σ l0 = some res) : CT l yX1_following cX1_following 1 (some FieldType.int) 1 60 G [.int (i32 l0)] σ σ (some (.int (i32 res))) := by
  refine CT.mk (own := RX1) (by decide) rfl (Nat.le_of_ble_eq_true rfl) ?_
  intro p e s m below meth c ls X hP hS hl
  have hl : lv_has ls 1 [(0, .int (i32 l0))] := hl
  exact a_X1_following_0 X  s.heap [] ls l0 hP hS hf hl
theorem k_X1_following {p : Program} {l : Launch} {e : Env} {R : Room} {s : State} {m : MethodId} {args : Array Value} {below : List Frame} {meth : Method} {c : Code} {H : Heap} {locs : List Loc} {Q : State → Prop} {cc : ByteArray} {nL : Nat} {own : String} {ret : Option FieldType} {fF fL : Nat} {G : GT} {pc idx : Nat} {ls : Array Slot} {rest : List Value} {σ : Mem} {res : Int} {l0 : Int} (X : CX p R s m args meth c cc nL own ret fF fL G) (hP : PW G σ H) (hS : va_S (AA G) s.heap H locs) (hls : ls.size = nL) (hf : X1_following σ l0 = some res) (h1 : Cond.methodLink own idx yX1_following ∈ TB) (hR : 1 + 1 ≤ fF ∧ 8 + (1 + 11) + 60 ≤ fL) (hW : (rest.map fun v => v.category).sum ≤ 8) (hd : decode cc pc = .ok (.invokestatic idx, 3)) (kk : ∀ (H1 : Heap) (locs1 : List Loc), PW G σ H1 → va_S (AA G) s.heap H1 locs1 → W p l e R s m args below meth c H1 locs1 0 0 Q (F0 m (pc + 3) ls (.int (i32 res) :: rest))) : W p l e R s m args below meth c H locs 0 0 Q (F0 m pc ls (.int (i32 l0) :: rest)) := r_callS (n := 1) X hP hS hls (c_X1_following hf) h1 (tb t_813 rfl) (tb t_82 rfl) (tb t_814 rfl) (by decide +kernel) hR rfl rfl hW hd kk
theorem kn_X1_following {p : Program} {l : Launch} {e : Env} {R : Room} {s : State} {m : MethodId} {args : Array Value} {below : List Frame} {meth : Method} {c : Code} {H : Heap} {locs : List Loc} {Q : State → Prop} {cc : ByteArray} {nL : Nat} {own : String} {ret : Option FieldType} {fF fL : Nat} {G : GT} {pc idx : Nat} {ls : Array Slot} {rest : List Value} {σ : Mem} {res : Int} {l0 : Int} (X : CX p R s m args meth c cc nL own ret fF fL G) (hP : PW G σ H) (hS : va_S (AA G) s.heap H locs) (hls : ls.size = nL) (hf : X1_following σ l0 = some res) {host : String} (h1 : Cond.methodLinkNest own idx yX1_following host ∈ NWl) (hR : 1 + 1 ≤ fF ∧ 8 + (1 + 11) + 60 ≤ fL) (hW : (rest.map fun v => v.category).sum ≤ 8) (hd : decode cc pc = .ok (.invokestatic idx, 3)) (kk : ∀ (H1 : Heap) (locs1 : List Loc), PW G σ H1 → va_S (AA G) s.heap H1 locs1 → W p l e R s m args below meth c H1 locs1 0 0 Q (F0 m (pc + 3) ls (.int (i32 res) :: rest))) : W p l e R s m args below meth c H locs 0 0 Q (F0 m pc ls (.int (i32 l0) :: rest)) := r_callSN (n := 1) X hP hS hls (c_X1_following hf) h1 (tb t_813 rfl) (tb t_82 rfl) (tb t_814 rfl) (by decide +kernel) hR rfl rfl hW hd kk
/-! X1_takeBetter -/
theorem dX1_takeBetter_0 : decode cX1_takeBetter 0 = .ok (.aload_n 1, 1) := by decide +kernel
theorem dX1_takeBetter_1 : decode cX1_takeBetter 1 = .ok (.iload_n 2, 1) := by decide +kernel
theorem dX1_takeBetter_2 : decode cX1_takeBetter 2 = .ok (.iload_n 3, 1) := by decide +kernel
theorem dX1_takeBetter_3 : decode cX1_takeBetter 3 = .ok (.invokevirtual 92, 3) := by decide +kernel
theorem dX1_takeBetter_6 : decode cX1_takeBetter 6 = .ok (.aload_n 0, 1) := by decide +kernel
theorem dX1_takeBetter_7 : decode cX1_takeBetter 7 = .ok (.getfield 80, 3) := by decide +kernel
theorem dX1_takeBetter_10 : decode cX1_takeBetter 10 = .ok (.iadd, 1) := by decide +kernel
theorem dX1_takeBetter_11 : decode cX1_takeBetter 11 = .ok (.i2l, 1) := by decide +kernel
theorem dX1_takeBetter_12 : decode cX1_takeBetter 12 = .ok (.ldc2_w 95, 3) := by decide +kernel
theorem dX1_takeBetter_15 : decode cX1_takeBetter 15 = .ok (.lmul, 1) := by decide +kernel
theorem dX1_takeBetter_16 : decode cX1_takeBetter 16 = .ok (.lconst 1, 1) := by decide +kernel
theorem dX1_takeBetter_17 : decode cX1_takeBetter 17 = .ok (.ladd, 1) := by decide +kernel
theorem dX1_takeBetter_18 : decode cX1_takeBetter 18 = .ok (.lstore 4, 2) := by decide +kernel
theorem dX1_takeBetter_20 : decode cX1_takeBetter 20 = .ok (.iload_n 3, 1) := by decide +kernel
theorem dX1_takeBetter_21 : decode cX1_takeBetter 21 = .ok (.aload_n 1, 1) := by decide +kernel
theorem dX1_takeBetter_22 : decode cX1_takeBetter 22 = .ok (.getfield 57, 3) := by decide +kernel
theorem dX1_takeBetter_25 : decode cX1_takeBetter 25 = .ok (.iconst 1, 1) := by decide +kernel
theorem dX1_takeBetter_26 : decode cX1_takeBetter 26 = .ok (.isub, 1) := by decide +kernel
theorem dX1_takeBetter_27 : decode cX1_takeBetter 27 = .ok (.if_icmp .eq 16, 3) := by decide +kernel
theorem dX1_takeBetter_30 : decode cX1_takeBetter 30 = .ok (.aload_n 0, 1) := by decide +kernel
theorem dX1_takeBetter_31 : decode cX1_takeBetter 31 = .ok (.getfield 18, 3) := by decide +kernel
theorem dX1_takeBetter_34 : decode cX1_takeBetter 34 = .ok (.iload_n 3, 1) := by decide +kernel
theorem dX1_takeBetter_35 : decode cX1_takeBetter 35 = .ok (.iaload, 1) := by decide +kernel
theorem dX1_takeBetter_36 : decode cX1_takeBetter 36 = .ok (.aload_n 0, 1) := by decide +kernel
theorem dX1_takeBetter_37 : decode cX1_takeBetter 37 = .ok (.getfield 77, 3) := by decide +kernel
theorem dX1_takeBetter_40 : decode cX1_takeBetter 40 = .ok (.if_icmp .lt 7, 3) := by decide +kernel
theorem dX1_takeBetter_43 : decode cX1_takeBetter 43 = .ok (.iconst 1, 1) := by decide +kernel
theorem dX1_takeBetter_44 : decode cX1_takeBetter 44 = .ok (.goto 4, 3) := by decide +kernel
theorem dX1_takeBetter_47 : decode cX1_takeBetter 47 = .ok (.iconst 0, 1) := by decide +kernel
theorem dX1_takeBetter_48 : decode cX1_takeBetter 48 = .ok (.istore 6, 2) := by decide +kernel
theorem dX1_takeBetter_50 : decode cX1_takeBetter 50 = .ok (.iconst 0, 1) := by decide +kernel
theorem dX1_takeBetter_51 : decode cX1_takeBetter 51 = .ok (.istore 7, 2) := by decide +kernel
theorem dX1_takeBetter_53 : decode cX1_takeBetter 53 = .ok (.iload 7, 2) := by decide +kernel
theorem dX1_takeBetter_55 : decode cX1_takeBetter 55 = .ok (.bipush 12, 2) := by decide +kernel
theorem dX1_takeBetter_57 : decode cX1_takeBetter 57 = .ok (.if_icmp .ge 118, 3) := by decide +kernel
theorem dX1_takeBetter_60 : decode cX1_takeBetter 60 = .ok (.aload_n 0, 1) := by decide +kernel
theorem dX1_takeBetter_61 : decode cX1_takeBetter 61 = .ok (.getfield 25, 3) := by decide +kernel
theorem dX1_takeBetter_64 : decode cX1_takeBetter 64 = .ok (.iload_n 3, 1) := by decide +kernel
theorem dX1_takeBetter_65 : decode cX1_takeBetter 65 = .ok (.iconst 1, 1) := by decide +kernel
theorem dX1_takeBetter_66 : decode cX1_takeBetter 66 = .ok (.iadd, 1) := by decide +kernel
theorem dX1_takeBetter_67 : decode cX1_takeBetter 67 = .ok (.bipush 12, 2) := by decide +kernel
theorem dX1_takeBetter_69 : decode cX1_takeBetter 69 = .ok (.imul, 1) := by decide +kernel
theorem dX1_takeBetter_70 : decode cX1_takeBetter 70 = .ok (.iload 7, 2) := by decide +kernel
theorem dX1_takeBetter_72 : decode cX1_takeBetter 72 = .ok (.invokestatic 97, 3) := by decide +kernel
theorem dX1_takeBetter_75 : decode cX1_takeBetter 75 = .ok (.iadd, 1) := by decide +kernel
theorem dX1_takeBetter_76 : decode cX1_takeBetter 76 = .ok (.laload, 1) := by decide +kernel
theorem dX1_takeBetter_77 : decode cX1_takeBetter 77 = .ok (.lstore 8, 2) := by decide +kernel
theorem dX1_takeBetter_79 : decode cX1_takeBetter 79 = .ok (.lload 8, 2) := by decide +kernel
theorem dX1_takeBetter_81 : decode cX1_takeBetter 81 = .ok (.ldc2_w 86, 3) := by decide +kernel
theorem dX1_takeBetter_84 : decode cX1_takeBetter 84 = .ok (.lcmp, 1) := by decide +kernel
theorem dX1_takeBetter_85 : decode cX1_takeBetter 85 = .ok (.ifCond .ne 6, 3) := by decide +kernel
theorem dX1_takeBetter_88 : decode cX1_takeBetter 88 = .ok (.goto 81, 3) := by decide +kernel
theorem dX1_takeBetter_91 : decode cX1_takeBetter 91 = .ok (.iload 6, 2) := by decide +kernel
theorem dX1_takeBetter_93 : decode cX1_takeBetter 93 = .ok (.ifCond .ne 15, 3) := by decide +kernel
theorem dX1_takeBetter_96 : decode cX1_takeBetter 96 = .ok (.aload_n 0, 1) := by decide +kernel
theorem dX1_takeBetter_97 : decode cX1_takeBetter 97 = .ok (.getfield 74, 3) := by decide +kernel
theorem dX1_takeBetter_100 : decode cX1_takeBetter 100 = .ok (.iload 7, 2) := by decide +kernel
theorem dX1_takeBetter_102 : decode cX1_takeBetter 102 = .ok (.ishr, 1) := by decide +kernel
theorem dX1_takeBetter_103 : decode cX1_takeBetter 103 = .ok (.iconst 1, 1) := by decide +kernel
theorem dX1_takeBetter_104 : decode cX1_takeBetter 104 = .ok (.iand, 1) := by decide +kernel
theorem dX1_takeBetter_105 : decode cX1_takeBetter 105 = .ok (.ifCond .ne 7, 3) := by decide +kernel
theorem dX1_takeBetter_108 : decode cX1_takeBetter 108 = .ok (.lconst 0, 1) := by decide +kernel
theorem dX1_takeBetter_109 : decode cX1_takeBetter 109 = .ok (.goto 6, 3) := by decide +kernel
theorem dX1_takeBetter_112 : decode cX1_takeBetter 112 = .ok (.ldc2_w 100, 3) := by decide +kernel
theorem dX1_takeBetter_115 : decode cX1_takeBetter 115 = .ok (.lstore 10, 2) := by decide +kernel
theorem dX1_takeBetter_117 : decode cX1_takeBetter 117 = .ok (.iload_n 2, 1) := by decide +kernel
theorem dX1_takeBetter_118 : decode cX1_takeBetter 118 = .ok (.bipush 12, 2) := by decide +kernel
theorem dX1_takeBetter_120 : decode cX1_takeBetter 120 = .ok (.imul, 1) := by decide +kernel
theorem dX1_takeBetter_121 : decode cX1_takeBetter 121 = .ok (.iload 7, 2) := by decide +kernel
theorem dX1_takeBetter_123 : decode cX1_takeBetter 123 = .ok (.iadd, 1) := by decide +kernel
theorem dX1_takeBetter_124 : decode cX1_takeBetter 124 = .ok (.istore 12, 2) := by decide +kernel
theorem dX1_takeBetter_126 : decode cX1_takeBetter 126 = .ok (.lload 8, 2) := by decide +kernel
theorem dX1_takeBetter_128 : decode cX1_takeBetter 128 = .ok (.lload 4, 2) := by decide +kernel
theorem dX1_takeBetter_130 : decode cX1_takeBetter 130 = .ok (.ladd, 1) := by decide +kernel
theorem dX1_takeBetter_131 : decode cX1_takeBetter 131 = .ok (.lload 10, 2) := by decide +kernel
theorem dX1_takeBetter_133 : decode cX1_takeBetter 133 = .ok (.ladd, 1) := by decide +kernel
theorem dX1_takeBetter_134 : decode cX1_takeBetter 134 = .ok (.aload_n 0, 1) := by decide +kernel
theorem dX1_takeBetter_135 : decode cX1_takeBetter 135 = .ok (.getfield 25, 3) := by decide +kernel
theorem dX1_takeBetter_138 : decode cX1_takeBetter 138 = .ok (.iload 12, 2) := by decide +kernel
theorem dX1_takeBetter_140 : decode cX1_takeBetter 140 = .ok (.laload, 1) := by decide +kernel
theorem dX1_takeBetter_141 : decode cX1_takeBetter 141 = .ok (.lcmp, 1) := by decide +kernel
theorem dX1_takeBetter_142 : decode cX1_takeBetter 142 = .ok (.ifCond .ge 27, 3) := by decide +kernel
theorem dX1_takeBetter_145 : decode cX1_takeBetter 145 = .ok (.aload_n 0, 1) := by decide +kernel
theorem dX1_takeBetter_146 : decode cX1_takeBetter 146 = .ok (.getfield 25, 3) := by decide +kernel
theorem dX1_takeBetter_149 : decode cX1_takeBetter 149 = .ok (.iload 12, 2) := by decide +kernel
theorem dX1_takeBetter_151 : decode cX1_takeBetter 151 = .ok (.lload 8, 2) := by decide +kernel
theorem dX1_takeBetter_153 : decode cX1_takeBetter 153 = .ok (.lload 4, 2) := by decide +kernel
theorem dX1_takeBetter_155 : decode cX1_takeBetter 155 = .ok (.ladd, 1) := by decide +kernel
theorem dX1_takeBetter_156 : decode cX1_takeBetter 156 = .ok (.lload 10, 2) := by decide +kernel
theorem dX1_takeBetter_158 : decode cX1_takeBetter 158 = .ok (.ladd, 1) := by decide +kernel
theorem dX1_takeBetter_159 : decode cX1_takeBetter 159 = .ok (.lastore, 1) := by decide +kernel
theorem dX1_takeBetter_160 : decode cX1_takeBetter 160 = .ok (.aload_n 0, 1) := by decide +kernel
theorem dX1_takeBetter_161 : decode cX1_takeBetter 161 = .ok (.getfield 29, 3) := by decide +kernel
theorem dX1_takeBetter_164 : decode cX1_takeBetter 164 = .ok (.iload 12, 2) := by decide +kernel
theorem dX1_takeBetter_166 : decode cX1_takeBetter 166 = .ok (.iload_n 3, 1) := by decide +kernel
theorem dX1_takeBetter_167 : decode cX1_takeBetter 167 = .ok (.i2b, 1) := by decide +kernel
theorem dX1_takeBetter_168 : decode cX1_takeBetter 168 = .ok (.bastore, 1) := by decide +kernel
theorem dX1_takeBetter_169 : decode cX1_takeBetter 169 = .ok (.iinc 7 1, 3) := by decide +kernel
theorem dX1_takeBetter_172 : decode cX1_takeBetter 172 = .ok (.goto (-119), 3) := by decide +kernel
theorem dX1_takeBetter_175 : decode cX1_takeBetter 175 = .ok (.return_, 1) := by decide +kernel
def S_X1_takeBetter_53 (fn : Mem → Int → Int → Int → Int → Int → Option (Mem)) (p : Program) (l : Launch) (e : Env) (R : Room) (s : State) (m : MethodId) (args : Array Value) (below : List Frame) (meth : Method) (c : Code) (G : GT) (τ : Mem) : Prop := ∀ (σ : Mem) (H : Heap) (locs : List Loc) (ls : Array Slot) (l2 : Int) (l3 : Int) (l4 : Int) (l6 : Int) (l7 : Int), PW G σ H → va_S (AA G) s.heap H locs → fn σ l2 l3 l4 l6 l7 = some τ → lv_has ls 13 [(0, .ref (gh G + 53)), (2, .int (i32 l2)), (3, .int (i32 l3)), (4, .long (i64 l4)), (6, .int (i32 l6)), (7, .int (i32 l7))] → W p l e R s m args below meth c H locs 0 0 (MQ below (QM G none τ) args s 0 0 (AA G)) (F0 m 53 ls [])
def X1_takeBetter_B169 (rec53 : Mem → Int → Int → Int → Int → Int → Option (Mem)) (σ : Mem) (l2 : Int) (l3 : Int) (l4 : Int) (l6 : Int) (l7 : Int) : Option (Mem) :=
  lt (l7 + 1) fun l7_1 =>
  rec53 σ l2 l3 l4 l6 l7_1
def S_X1_takeBetter_169 (fn : Mem → Int → Int → Int → Int → Int → Option (Mem)) (p : Program) (l : Launch) (e : Env) (R : Room) (s : State) (m : MethodId) (args : Array Value) (below : List Frame) (meth : Method) (c : Code) (G : GT) (τ : Mem) : Prop := ∀ (σ : Mem) (H : Heap) (locs : List Loc) (ls : Array Slot) (l2 : Int) (l3 : Int) (l4 : Int) (l6 : Int) (l7 : Int), PW G σ H → va_S (AA G) s.heap H locs → fn σ l2 l3 l4 l6 l7 = some τ → lv_has ls 13 [(0, .ref (gh G + 53)), (2, .int (i32 l2)), (3, .int (i32 l3)), (4, .long (i64 l4)), (6, .int (i32 l6)), (7, .int (i32 l7))] → W p l e R s m args below meth c H locs 0 0 (MQ below (QM G none τ) args s 0 0 (AA G)) (F0 m 169 ls [])
def X1_takeBetter_B115 (rec53 : Mem → Int → Int → Int → Int → Int → Option (Mem)) (σ : Mem) (l2 : Int) (l3 : Int) (l4 : Int) (l6 : Int) (l7 : Int) (l8 : Int) (k0 : Int) : Option (Mem) :=
  lt ((l2 * 12) + l7) fun l12_1 =>
  ag 492 l12_1 fun j2 =>
  if w64 (σ 60 j2) ≤ w64 ((l8 + l4) + k0) then
    X1_takeBetter_B169 rec53 σ l2 l3 l4 l6 l7
  else
  ag 492 l12_1 fun j3 =>
  lt (st σ 60 j3 ((l8 + l4) + k0)) fun s4 =>
  ag 480 l12_1 fun j5 =>
  lt (st s4 61 j5 (ib8 (ib8 l3))) fun s6 =>
  X1_takeBetter_B169 rec53 s6 l2 l3 l4 l6 l7
def S_X1_takeBetter_115 (fn : Mem → Int → Int → Int → Int → Int → Int → Int → Option (Mem)) (p : Program) (l : Launch) (e : Env) (R : Room) (s : State) (m : MethodId) (args : Array Value) (below : List Frame) (meth : Method) (c : Code) (G : GT) (τ : Mem) : Prop := ∀ (σ : Mem) (H : Heap) (locs : List Loc) (ls : Array Slot) (l2 : Int) (l3 : Int) (l4 : Int) (l6 : Int) (l7 : Int) (l8 : Int) (k0 : Int), PW G σ H → va_S (AA G) s.heap H locs → fn σ l2 l3 l4 l6 l7 l8 k0 = some τ → lv_has ls 13 [(0, .ref (gh G + 53)), (2, .int (i32 l2)), (3, .int (i32 l3)), (4, .long (i64 l4)), (6, .int (i32 l6)), (7, .int (i32 l7)), (8, .long (i64 l8))] → W p l e R s m args below meth c H locs 0 0 (MQ below (QM G none τ) args s 0 0 (AA G)) (F0 m 115 ls [.long (i64 k0)])
def X1_takeBetter_B108 (rec53 : Mem → Int → Int → Int → Int → Int → Option (Mem)) (σ : Mem) (l2 : Int) (l3 : Int) (l4 : Int) (l6 : Int) (l7 : Int) (l8 : Int) : Option (Mem) :=
  X1_takeBetter_B115 rec53 σ l2 l3 l4 l6 l7 l8 0
def S_X1_takeBetter_108 (fn : Mem → Int → Int → Int → Int → Int → Int → Option (Mem)) (p : Program) (l : Launch) (e : Env) (R : Room) (s : State) (m : MethodId) (args : Array Value) (below : List Frame) (meth : Method) (c : Code) (G : GT) (τ : Mem) : Prop := ∀ (σ : Mem) (H : Heap) (locs : List Loc) (ls : Array Slot) (l2 : Int) (l3 : Int) (l4 : Int) (l6 : Int) (l7 : Int) (l8 : Int), PW G σ H → va_S (AA G) s.heap H locs → fn σ l2 l3 l4 l6 l7 l8 = some τ → lv_has ls 13 [(0, .ref (gh G + 53)), (2, .int (i32 l2)), (3, .int (i32 l3)), (4, .long (i64 l4)), (6, .int (i32 l6)), (7, .int (i32 l7)), (8, .long (i64 l8))] → W p l e R s m args below meth c H locs 0 0 (MQ below (QM G none τ) args s 0 0 (AA G)) (F0 m 108 ls [])
def X1_takeBetter_B53 (rec53 : Mem → Int → Int → Int → Int → Int → Option (Mem)) (σ : Mem) (l2 : Int) (l3 : Int) (l4 : Int) (l6 : Int) (l7 : Int) : Option (Mem) :=
  if w32 12 ≤ w32 l7 then
    some σ
  else
  bd (X1_following σ l7) fun r1 =>
  ag 492 (((l3 + 1) * 12) + r1) fun j2 =>
  lt (σ 60 j2) fun l8_3 =>
  if w64 l8_3 ≠ w64 9223372036854775807 then
    if w32 l6 ≠ 0 then
      X1_takeBetter_B108 rec53 σ l2 l3 l4 l6 l7 l8_3
    else
    if w32 (ian (isr (σ 53 5) l7) 1) ≠ 0 then
      X1_takeBetter_B115 rec53 σ l2 l3 l4 l6 l7 l8_3 1099511627776
    else
    X1_takeBetter_B108 rec53 σ l2 l3 l4 l6 l7 l8_3
  else
  X1_takeBetter_B169 rec53 σ l2 l3 l4 l6 l7
def X1_takeBetter_L53 : Nat → Mem → Int → Int → Int → Int → Int → Option (Mem)
  | 0 => fun _ _ _ _ _ _ => none
  | n + 1 => X1_takeBetter_B53 (X1_takeBetter_L53 n)
def X1_takeBetter_B48 (σ : Mem) (l2 : Int) (l3 : Int) (l4 : Int) (k0 : Int) : Option (Mem) :=
  X1_takeBetter_L53 5000 σ l2 l3 l4 k0 0
def S_X1_takeBetter_48 (fn : Mem → Int → Int → Int → Int → Option (Mem)) (p : Program) (l : Launch) (e : Env) (R : Room) (s : State) (m : MethodId) (args : Array Value) (below : List Frame) (meth : Method) (c : Code) (G : GT) (τ : Mem) : Prop := ∀ (σ : Mem) (H : Heap) (locs : List Loc) (ls : Array Slot) (l2 : Int) (l3 : Int) (l4 : Int) (k0 : Int), PW G σ H → va_S (AA G) s.heap H locs → fn σ l2 l3 l4 k0 = some τ → lv_has ls 13 [(0, .ref (gh G + 53)), (2, .int (i32 l2)), (3, .int (i32 l3)), (4, .long (i64 l4))] → W p l e R s m args below meth c H locs 0 0 (MQ below (QM G none τ) args s 0 0 (AA G)) (F0 m 48 ls [.int (i32 k0)])
def X1_takeBetter_B43 (σ : Mem) (l2 : Int) (l3 : Int) (l4 : Int) : Option (Mem) :=
  X1_takeBetter_B48 σ l2 l3 l4 1
def S_X1_takeBetter_43 (fn : Mem → Int → Int → Int → Option (Mem)) (p : Program) (l : Launch) (e : Env) (R : Room) (s : State) (m : MethodId) (args : Array Value) (below : List Frame) (meth : Method) (c : Code) (G : GT) (τ : Mem) : Prop := ∀ (σ : Mem) (H : Heap) (locs : List Loc) (ls : Array Slot) (l2 : Int) (l3 : Int) (l4 : Int), PW G σ H → va_S (AA G) s.heap H locs → fn σ l2 l3 l4 = some τ → lv_has ls 13 [(0, .ref (gh G + 53)), (2, .int (i32 l2)), (3, .int (i32 l3)), (4, .long (i64 l4))] → W p l e R s m args below meth c H locs 0 0 (MQ below (QM G none τ) args s 0 0 (AA G)) (F0 m 43 ls [])
def X1_takeBetter (σ : Mem) (l1 : Nat) (l2 : Int) (l3 : Int) : Option (Mem) :=
  bd (X4_costOf σ l1 l2 l3) fun r1 =>
  lt (((w32 (r1 + (σ 53 7))) * 64) + 1) fun l4_2 =>
  if w32 l3 = w32 ((σ l1 1) - 1) then
    X1_takeBetter_B43 σ l2 l3 l4_2
  else
  ag 40 l3 fun j3 =>
  if w32 (σ 58 j3) < w32 (σ 53 6) then
    X1_takeBetter_B48 σ l2 l3 l4_2 0
  else
  X1_takeBetter_B43 σ l2 l3 l4_2
def S_X1_takeBetter_0 (fn : Mem → Nat → Int → Int → Option (Mem)) (p : Program) (l : Launch) (e : Env) (R : Room) (s : State) (m : MethodId) (args : Array Value) (below : List Frame) (meth : Method) (c : Code) (G : GT) (τ : Mem) : Prop := ∀ (σ : Mem) (H : Heap) (locs : List Loc) (ls : Array Slot) (l1 : Nat) (l2 : Int) (l3 : Int), kd l1 = 4 → PW G σ H → va_S (AA G) s.heap H locs → fn σ l1 l2 l3 = some τ → lv_has ls 13 [(0, .ref (gh G + 53)), (1, .ref (gh G + l1)), (2, .int (i32 l2)), (3, .int (i32 l3))] → W p l e R s m args below meth c H locs 0 0 (MQ below (QM G none τ) args s 0 0 (AA G)) (F0 m 0 ls [])
set_option maxHeartbeats 4000000 in
theorem a_X1_takeBetter_169 {p : Program} {l : Launch} {e : Env} {R : Room} {s : State} {m : MethodId} {args : Array Value} {below : List Frame} {meth : Method} {c : Code} {G : GT} {τ : Mem} {rec53 : Mem → Int → Int → Int → Int → Int → Option (Mem)} (X : CX p R s m args meth c cX1_takeBetter 13 RX1 none 2 82 G) (h53 : S_X1_takeBetter_53 rec53 p l e R s m args below meth c G τ) : S_X1_takeBetter_169 (X1_takeBetter_B169 rec53) p l e R s m args below meth c G τ := by
  intro σ H locs ls l2 l3 l4 l6 l7 hP hS hf hl
  unfold X1_takeBetter_B169 at hf
  obtain ⟨l7_1, el7_1, hf⟩ := lt_inv hf
  refine lv_iinc (v := i32 l7_1) (lv' := [(7, .int (i32 l7_1)), (0, .ref (gh G + 53)), (2, .int (i32 l2)), (3, .int (i32 l3)), (4, .long (i64 l4)), (6, .int (i32 l6))]) X.1 X.2.1 dX1_takeBetter_169 hl (k := 5) rfl (by rw [← el7_1]; exact i32_add _ _) (by decide) rfl (fun ls hl => ?_)
  refine lv_goto (tgt := 53) X.1 X.2.1 dX1_takeBetter_172 (by decide) ?_
  exact h53 σ H locs ls l2 l3 l4 l6 l7_1 hP hS hf (lv_sub hl [1, 2, 3, 4, 5, 0] rfl)
set_option maxHeartbeats 4000000 in
theorem a_X1_takeBetter_115 {p : Program} {l : Launch} {e : Env} {R : Room} {s : State} {m : MethodId} {args : Array Value} {below : List Frame} {meth : Method} {c : Code} {G : GT} {τ : Mem} {rec53 : Mem → Int → Int → Int → Int → Int → Option (Mem)} (X : CX p R s m args meth c cX1_takeBetter 13 RX1 none 2 82 G) (h53 : S_X1_takeBetter_53 rec53 p l e R s m args below meth c G τ) : S_X1_takeBetter_115 (X1_takeBetter_B115 rec53) p l e R s m args below meth c G τ := by
  intro σ H locs ls l2 l3 l4 l6 l7 l8 k0 hP hS hf hl
  unfold X1_takeBetter_B115 at hf
  refine lv_lstore (lv' := [(10, .long (i64 k0)), (0, .ref (gh G + 53)), (2, .int (i32 l2)), (3, .int (i32 l3)), (4, .long (i64 l4)), (6, .int (i32 l6)), (7, .int (i32 l7)), (8, .long (i64 l8))]) X.1 X.2.1 dX1_takeBetter_115 hl (by decide) rfl (fun ls hl => ?_)
  refine lv_iload_n X.1 X.2.1 dX1_takeBetter_117 rfl (lv_at hl 2 rfl) ?_
  refine r_bipush X 12 (by decide) dX1_takeBetter_118 ?_
  refine r_imul X dX1_takeBetter_120 ?_
  refine lv_iload X.1 X.2.1 dX1_takeBetter_121 (lv_at hl 6 rfl) ?_
  refine r_iadd X dX1_takeBetter_123 ?_
  obtain ⟨l12_1, el12_1, hf⟩ := lt_inv hf
  refine r_eqi el12_1 ?_
  refine lv_istore (lv' := [(12, .int (i32 l12_1)), (10, .long (i64 k0)), (0, .ref (gh G + 53)), (2, .int (i32 l2)), (3, .int (i32 l3)), (4, .long (i64 l4)), (6, .int (i32 l6)), (7, .int (i32 l7)), (8, .long (i64 l8))]) X.1 X.2.1 dX1_takeBetter_124 hl (by decide) rfl (fun ls hl => ?_)
  refine lv_lload X.1 X.2.1 dX1_takeBetter_126 (lv_at hl 8 rfl) ?_
  refine lv_lload X.1 X.2.1 dX1_takeBetter_128 (lv_at hl 5 rfl) ?_
  refine r_ladd X dX1_takeBetter_130 ?_
  refine lv_lload X.1 X.2.1 dX1_takeBetter_131 (lv_at hl 1 rfl) ?_
  refine r_ladd X dX1_takeBetter_133 ?_
  refine lv_aload_n X.1 X.2.1 dX1_takeBetter_134 rfl (lv_at hl 2 rfl) ?_
  refine g_1_3 (r := 60) X hP ks_1 rfl (tb t_276 rfl) dX1_takeBetter_135 ?_
  refine lv_iload X.1 X.2.1 dX1_takeBetter_138 (lv_at hl 0 rfl) ?_
  obtain ⟨j2, hij2, hjj2, hlj2, hf⟩ := ag_inv hf
  refine r_lald X hP (ch_1_3 ks_1).1 (ch_1_3 ks_1).2 hij2 hjj2 dX1_takeBetter_140 ?_
  refine r_lcmp_ge (tgt := 169) X dX1_takeBetter_141 dX1_takeBetter_142 (by decide) (fun q => ?_) (fun q => ?_)
  · replace hf := it_inv q hf
    exact a_X1_takeBetter_169 X h53 σ H locs ls l2 l3 l4 l6 l7 hP hS hf (lv_sub hl [2, 3, 4, 5, 6, 7] rfl)
  · replace hf := ie_inv q hf
    refine lv_aload_n X.1 X.2.1 dX1_takeBetter_145 rfl (lv_at hl 2 rfl) ?_
    refine g_1_3 (r := 60) X hP ks_1 rfl (tb t_276 rfl) dX1_takeBetter_146 ?_
    refine lv_iload X.1 X.2.1 dX1_takeBetter_149 (lv_at hl 0 rfl) ?_
    refine lv_lload X.1 X.2.1 dX1_takeBetter_151 (lv_at hl 8 rfl) ?_
    refine lv_lload X.1 X.2.1 dX1_takeBetter_153 (lv_at hl 5 rfl) ?_
    refine r_ladd X dX1_takeBetter_155 ?_
    refine lv_lload X.1 X.2.1 dX1_takeBetter_156 (lv_at hl 1 rfl) ?_
    refine r_ladd X dX1_takeBetter_158 ?_
    obtain ⟨j3, hij3, hjj3, hlj3, hf⟩ := ag_inv hf
    refine r_last X hP hS (ch_1_3 ks_1).1 (ch_1_3 ks_1).2 hij3 hjj3 dX1_takeBetter_159 (fun H locs hP hS => ?_)
    obtain ⟨s4, es4, hf⟩ := lt_inv hf
    rw [es4] at hP
    refine lv_aload_n X.1 X.2.1 dX1_takeBetter_160 rfl (lv_at hl 2 rfl) ?_
    refine g_1_4 (r := 61) X hP ks_1 rfl (tb t_277 rfl) dX1_takeBetter_161 ?_
    refine lv_iload X.1 X.2.1 dX1_takeBetter_164 (lv_at hl 0 rfl) ?_
    refine lv_iload_n X.1 X.2.1 dX1_takeBetter_166 rfl (lv_at hl 4 rfl) ?_
    refine r_i2b X dX1_takeBetter_167 ?_
    obtain ⟨j5, hij5, hjj5, hlj5, hf⟩ := ag_inv hf
    refine r_bast X hP hS (ch_1_4 ks_1).1 (ch_1_4 ks_1).2 hij5 hjj5 dX1_takeBetter_168 (fun H locs hP hS => ?_)
    obtain ⟨s6, es6, hf⟩ := lt_inv hf
    rw [es6] at hP
    exact a_X1_takeBetter_169 X h53 s6 H locs ls l2 l3 l4 l6 l7 hP hS hf (lv_sub hl [2, 3, 4, 5, 6, 7] rfl)
set_option maxHeartbeats 4000000 in
theorem a_X1_takeBetter_108 {p : Program} {l : Launch} {e : Env} {R : Room} {s : State} {m : MethodId} {args : Array Value} {below : List Frame} {meth : Method} {c : Code} {G : GT} {τ : Mem} {rec53 : Mem → Int → Int → Int → Int → Int → Option (Mem)} (X : CX p R s m args meth c cX1_takeBetter 13 RX1 none 2 82 G) (h53 : S_X1_takeBetter_53 rec53 p l e R s m args below meth c G τ) : S_X1_takeBetter_108 (X1_takeBetter_B108 rec53) p l e R s m args below meth c G τ := by
  intro σ H locs ls l2 l3 l4 l6 l7 l8 hP hS hf hl
  unfold X1_takeBetter_B108 at hf
  refine r_lconst X 0 0 (by decide) dX1_takeBetter_108 ?_
  refine lv_goto (tgt := 115) X.1 X.2.1 dX1_takeBetter_109 (by decide) ?_
  exact a_X1_takeBetter_115 X h53 σ H locs ls l2 l3 l4 l6 l7 l8 0 hP hS hf hl
set_option maxHeartbeats 4000000 in
theorem a_X1_takeBetter_53 {p : Program} {l : Launch} {e : Env} {R : Room} {s : State} {m : MethodId} {args : Array Value} {below : List Frame} {meth : Method} {c : Code} {G : GT} {τ : Mem} {rec53 : Mem → Int → Int → Int → Int → Int → Option (Mem)} (X : CX p R s m args meth c cX1_takeBetter 13 RX1 none 2 82 G) (h53 : S_X1_takeBetter_53 rec53 p l e R s m args below meth c G τ) : S_X1_takeBetter_53 (X1_takeBetter_B53 rec53) p l e R s m args below meth c G τ := by
  intro σ H locs ls l2 l3 l4 l6 l7 hP hS hf hl
  unfold X1_takeBetter_B53 at hf
  refine lv_iload X.1 X.2.1 dX1_takeBetter_53 (lv_at hl 5 rfl) ?_
  refine r_bipush X 12 (by decide) dX1_takeBetter_55 ?_
  refine r_icmp_ge (tgt := 175) X dX1_takeBetter_57 (by decide) (fun q => ?_) (fun q => ?_)
  · replace hf := it_inv q hf
    cases so_inv hf
    exact r_vret X hP hS dX1_takeBetter_175
  · replace hf := ie_inv q hf
    refine lv_aload_n X.1 X.2.1 dX1_takeBetter_60 rfl (lv_at hl 0 rfl) ?_
    refine g_1_3 (r := 60) X hP ks_1 rfl (tb t_276 rfl) dX1_takeBetter_61 ?_
    refine lv_iload_n X.1 X.2.1 dX1_takeBetter_64 rfl (lv_at hl 2 rfl) ?_
    refine r_iconst X 1 dX1_takeBetter_65 ?_
    refine r_iadd X dX1_takeBetter_66 ?_
    refine r_bipush X 12 (by decide) dX1_takeBetter_67 ?_
    refine r_imul X dX1_takeBetter_69 ?_
    refine lv_iload X.1 X.2.1 dX1_takeBetter_70 (lv_at hl 5 rfl) ?_
    obtain ⟨r1, hr1, hf⟩ := bd_inv hf
    refine k_X1_following X hP hS hl.1  hr1 (tb t_812 rfl) (by decide) (Nat.le_of_ble_eq_true rfl) dX1_takeBetter_72 (fun H locs hP hS => ?_)
    refine r_iadd X dX1_takeBetter_75 ?_
    obtain ⟨j2, hij2, hjj2, hlj2, hf⟩ := ag_inv hf
    refine r_lald X hP (ch_1_3 ks_1).1 (ch_1_3 ks_1).2 hij2 hjj2 dX1_takeBetter_76 ?_
    obtain ⟨l8_3, el8_3, hf⟩ := lt_inv hf
    refine r_eql el8_3 ?_
    refine lv_lstore (lv' := [(8, .long (i64 l8_3)), (0, .ref (gh G + 53)), (2, .int (i32 l2)), (3, .int (i32 l3)), (4, .long (i64 l4)), (6, .int (i32 l6)), (7, .int (i32 l7))]) X.1 X.2.1 dX1_takeBetter_77 hl (by decide) rfl (fun ls hl => ?_)
    refine lv_lload X.1 X.2.1 dX1_takeBetter_79 (lv_at hl 0 rfl) ?_
    refine r_ldc2 X 9223372036854775807 (tb t_798 rfl) (by decide) dX1_takeBetter_81 ?_
    refine r_lcmp_ne (tgt := 91) X dX1_takeBetter_84 dX1_takeBetter_85 (by decide) (fun q => ?_) (fun q => ?_)
    · replace hf := it_inv q hf
      refine lv_iload X.1 X.2.1 dX1_takeBetter_91 (lv_at hl 5 rfl) ?_
      refine r_if_ne (tgt := 108) X dX1_takeBetter_93 (by decide) (fun q => ?_) (fun q => ?_)
      · replace hf := it_inv q hf
        exact a_X1_takeBetter_108 X h53 σ H locs ls l2 l3 l4 l6 l7 l8_3 hP hS hf (lv_sub hl [1, 2, 3, 4, 5, 6, 0] rfl)
      · replace hf := ie_inv q hf
        refine lv_aload_n X.1 X.2.1 dX1_takeBetter_96 rfl (lv_at hl 1 rfl) ?_
        refine g_1_5 X hP ks_1 (tb t_278 rfl) dX1_takeBetter_97 ?_
        refine lv_iload X.1 X.2.1 dX1_takeBetter_100 (lv_at hl 6 rfl) ?_
        refine r_ishr X dX1_takeBetter_102 ?_
        refine r_iconst X 1 dX1_takeBetter_103 ?_
        refine r_iand X dX1_takeBetter_104 ?_
        refine r_if_ne (tgt := 112) X dX1_takeBetter_105 (by decide) (fun q => ?_) (fun q => ?_)
        · replace hf := it_inv q hf
          refine r_ldc2 X 1099511627776 (tb t_815 rfl) (by decide) dX1_takeBetter_112 ?_
          exact a_X1_takeBetter_115 X h53 σ H locs ls l2 l3 l4 l6 l7 l8_3 1099511627776 hP hS hf (lv_sub hl [1, 2, 3, 4, 5, 6, 0] rfl)
        · replace hf := ie_inv q hf
          exact a_X1_takeBetter_108 X h53 σ H locs ls l2 l3 l4 l6 l7 l8_3 hP hS hf (lv_sub hl [1, 2, 3, 4, 5, 6, 0] rfl)
    · replace hf := ie_inv q hf
      refine lv_goto (tgt := 169) X.1 X.2.1 dX1_takeBetter_88 (by decide) ?_
      exact a_X1_takeBetter_169 X h53 σ H locs ls l2 l3 l4 l6 l7 hP hS hf (lv_sub hl [1, 2, 3, 4, 5, 6] rfl)
theorem al_X1_takeBetter_53 {p : Program} {l : Launch} {e : Env} {R : Room} {s : State} {m : MethodId} {args : Array Value} {below : List Frame} {meth : Method} {c : Code} {G : GT} {τ : Mem} (X : CX p R s m args meth c cX1_takeBetter 13 RX1 none 2 82 G) : ∀ n, S_X1_takeBetter_53 (X1_takeBetter_L53 n) p l e R s m args below meth c G τ := by
  intro n
  induction n with
  | zero =>
    intro σ H locs ls l2 l3 l4 l6 l7 hP hS hf hl
    cases hf
  | succ n ih => exact a_X1_takeBetter_53 X ih
set_option maxHeartbeats 4000000 in
theorem a_X1_takeBetter_48 {p : Program} {l : Launch} {e : Env} {R : Room} {s : State} {m : MethodId} {args : Array Value} {below : List Frame} {meth : Method} {c : Code} {G : GT} {τ : Mem} (X : CX p R s m args meth c cX1_takeBetter 13 RX1 none 2 82 G) : S_X1_takeBetter_48 (X1_takeBetter_B48) p l e R s m args below meth c G τ := by
  intro σ H locs ls l2 l3 l4 k0 hP hS hf hl
  unfold X1_takeBetter_B48 at hf
  refine lv_istore (lv' := [(6, .int (i32 k0)), (0, .ref (gh G + 53)), (2, .int (i32 l2)), (3, .int (i32 l3)), (4, .long (i64 l4))]) X.1 X.2.1 dX1_takeBetter_48 hl (by decide) rfl (fun ls hl => ?_)
  refine r_iconst X 0 dX1_takeBetter_50 ?_
  refine lv_istore (lv' := [(7, .int (i32 0)), (6, .int (i32 k0)), (0, .ref (gh G + 53)), (2, .int (i32 l2)), (3, .int (i32 l3)), (4, .long (i64 l4))]) X.1 X.2.1 dX1_takeBetter_51 hl (by decide) rfl (fun ls hl => ?_)
  exact al_X1_takeBetter_53 X 5000 σ H locs ls l2 l3 l4 k0 0 hP hS hf (lv_sub hl [2, 3, 4, 5, 1, 0] rfl)
set_option maxHeartbeats 4000000 in
theorem a_X1_takeBetter_43 {p : Program} {l : Launch} {e : Env} {R : Room} {s : State} {m : MethodId} {args : Array Value} {below : List Frame} {meth : Method} {c : Code} {G : GT} {τ : Mem} (X : CX p R s m args meth c cX1_takeBetter 13 RX1 none 2 82 G) : S_X1_takeBetter_43 (X1_takeBetter_B43) p l e R s m args below meth c G τ := by
  intro σ H locs ls l2 l3 l4 hP hS hf hl
  unfold X1_takeBetter_B43 at hf
  refine r_iconst X 1 dX1_takeBetter_43 ?_
  refine lv_goto (tgt := 48) X.1 X.2.1 dX1_takeBetter_44 (by decide) ?_
  exact a_X1_takeBetter_48 X σ H locs ls l2 l3 l4 1 hP hS hf hl
set_option maxHeartbeats 4000000 in
theorem a_X1_takeBetter_0 {p : Program} {l : Launch} {e : Env} {R : Room} {s : State} {m : MethodId} {args : Array Value} {below : List Frame} {meth : Method} {c : Code} {G : GT} {τ : Mem} (X : CX p R s m args meth c cX1_takeBetter 13 RX1 none 2 82 G) : S_X1_takeBetter_0 (X1_takeBetter) p l e R s m args below meth c G τ := by
  intro σ H locs ls l1 l2 l3 hk_l1 hP hS hf hl
  unfold X1_takeBetter at hf
  refine lv_aload_n X.1 X.2.1 dX1_takeBetter_0 rfl (lv_at hl 1 rfl) ?_
  refine lv_iload_n X.1 X.2.1 dX1_takeBetter_1 rfl (lv_at hl 2 rfl) ?_
  refine lv_iload_n X.1 X.2.1 dX1_takeBetter_2 rfl (lv_at hl 3 rfl) ?_
  obtain ⟨r1, hr1, hf⟩ := bd_inv hf
  refine k_X4_costOf X hP hS hl.1 hk_l1 hr1 (tb t_807 rfl) (by decide) (Nat.le_of_ble_eq_true rfl) dX1_takeBetter_3 (fun H locs hP hS => ?_)
  refine lv_aload_n X.1 X.2.1 dX1_takeBetter_6 rfl (lv_at hl 0 rfl) ?_
  refine g_1_7 X hP ks_1 (tb t_280 rfl) dX1_takeBetter_7 ?_
  refine r_iadd X dX1_takeBetter_10 ?_
  refine r_i2l X dX1_takeBetter_11 ?_
  refine r_ldc2 X 64 (tb t_811 rfl) (by decide) dX1_takeBetter_12 ?_
  refine r_lmul X dX1_takeBetter_15 ?_
  refine r_lconst X 1 1 (by decide) dX1_takeBetter_16 ?_
  refine r_ladd X dX1_takeBetter_17 ?_
  obtain ⟨l4_2, el4_2, hf⟩ := lt_inv hf
  refine r_eql el4_2 ?_
  refine lv_lstore (lv' := [(4, .long (i64 l4_2)), (0, .ref (gh G + 53)), (1, .ref (gh G + l1)), (2, .int (i32 l2)), (3, .int (i32 l3))]) X.1 X.2.1 dX1_takeBetter_18 hl (by decide) rfl (fun ls hl => ?_)
  refine lv_iload_n X.1 X.2.1 dX1_takeBetter_20 rfl (lv_at hl 4 rfl) ?_
  refine lv_aload_n X.1 X.2.1 dX1_takeBetter_21 rfl (lv_at hl 2 rfl) ?_
  refine g_4_1 X hP hk_l1 (tb t_324 rfl) dX1_takeBetter_22 ?_
  refine r_iconst X 1 dX1_takeBetter_25 ?_
  refine r_isub X dX1_takeBetter_26 ?_
  refine r_icmp_eq (tgt := 43) X dX1_takeBetter_27 (by decide) (fun q => ?_) (fun q => ?_)
  · replace hf := it_inv q hf
    exact a_X1_takeBetter_43 X σ H locs ls l2 l3 l4_2 hP hS hf (lv_sub hl [1, 3, 4, 0] rfl)
  · replace hf := ie_inv q hf
    refine lv_aload_n X.1 X.2.1 dX1_takeBetter_30 rfl (lv_at hl 1 rfl) ?_
    refine g_1_1 (r := 58) X hP ks_1 rfl (tb t_274 rfl) dX1_takeBetter_31 ?_
    refine lv_iload_n X.1 X.2.1 dX1_takeBetter_34 rfl (lv_at hl 4 rfl) ?_
    obtain ⟨j3, hij3, hjj3, hlj3, hf⟩ := ag_inv hf
    refine r_iald X hP (ch_1_1 ks_1).1 (ch_1_1 ks_1).2 hij3 hjj3 dX1_takeBetter_35 ?_
    refine lv_aload_n X.1 X.2.1 dX1_takeBetter_36 rfl (lv_at hl 1 rfl) ?_
    refine g_1_6 X hP ks_1 (tb t_279 rfl) dX1_takeBetter_37 ?_
    refine r_icmp_lt (tgt := 47) X dX1_takeBetter_40 (by decide) (fun q => ?_) (fun q => ?_)
    · replace hf := it_inv q hf
      refine r_iconst X 0 dX1_takeBetter_47 ?_
      exact a_X1_takeBetter_48 X σ H locs ls l2 l3 l4_2 0 hP hS hf (lv_sub hl [1, 3, 4, 0] rfl)
    · replace hf := ie_inv q hf
      exact a_X1_takeBetter_43 X σ H locs ls l2 l3 l4_2 hP hS hf (lv_sub hl [1, 3, 4, 0] rfl)
set_option maxHeartbeats 4000000 in
theorem c_X1_takeBetter {l : Launch} {G : GT} {σ τ : Mem} {l1 : Nat} {l2 : Int} {l3 : Int} (hk_l1 : kd l1 = 4) (hf : X1_takeBetter σ l1 l2 l3 = some τ) : CT l yX1_takeBetter cX1_takeBetter 13 none 2 82 G [.ref (gh G + 53), .ref (gh G + l1), .int (i32 l2), .int (i32 l3)] σ τ none := by
  refine CT.mk (own := RX1) (by decide) rfl (Nat.le_of_ble_eq_true rfl) ?_
  intro p e s m below meth c ls X hP hS hl
  have hl : lv_has ls 13 [(0, .ref (gh G + 53)), (1, .ref (gh G + l1)), (2, .int (i32 l2)), (3, .int (i32 l3))] := hl
  exact a_X1_takeBetter_0 X σ s.heap [] ls l1 l2 l3 hk_l1 hP hS hf hl
theorem k_X1_takeBetter {p : Program} {l : Launch} {e : Env} {R : Room} {s : State} {m : MethodId} {args : Array Value} {below : List Frame} {meth : Method} {c : Code} {H : Heap} {locs : List Loc} {Q : State → Prop} {cc : ByteArray} {nL : Nat} {own : String} {ret : Option FieldType} {fF fL : Nat} {G : GT} {pc idx : Nat} {ls : Array Slot} {rest : List Value} {σ τ : Mem} {l1 : Nat} {l2 : Int} {l3 : Int} (X : CX p R s m args meth c cc nL own ret fF fL G) (hP : PW G σ H) (hS : va_S (AA G) s.heap H locs) (hls : ls.size = nL) (hk_l1 : kd l1 = 4) (hf : X1_takeBetter σ l1 l2 l3 = some τ) (h1 : Cond.methodLink own idx yX1_takeBetter ∈ TB) (hR : 2 + 1 ≤ fF ∧ 8 + (13 + 11) + 82 ≤ fL) (hW : (rest.map fun v => v.category).sum ≤ 8) (hd : decode cc pc = .ok (.invokevirtual idx, 3)) (kk : ∀ (H1 : Heap) (locs1 : List Loc), PW G τ H1 → va_S (AA G) s.heap H1 locs1 → W p l e R s m args below meth c H1 locs1 0 0 Q (F0 m (pc + 3) ls (rest))) : W p l e R s m args below meth c H locs 0 0 Q (F0 m pc ls (.int (i32 l3) :: .int (i32 l2) :: .ref (gh G + l1) :: .ref (gh G + 53) :: rest)) := r_callV (n := 3) X hP hS hls (c_X1_takeBetter hk_l1 hf) h1 (tb t_805 rfl) (tb t_27 rfl) (tb t_82 rfl) (tb t_806 rfl) (by decide +kernel) hR (r_recv X hP (kd_lt ks_1 (by decide)) (cE_1 ks_1) rfl) rfl rfl hW hd kk
/-! X1_weigh -/
theorem dX1_weigh_0 : decode cX1_weigh 0 = .ok (.aload_n 1, 1) := by decide +kernel
theorem dX1_weigh_1 : decode cX1_weigh 1 = .ok (.getfield 57, 3) := by decide +kernel
theorem dX1_weigh_4 : decode cX1_weigh 4 = .ok (.istore 4, 2) := by decide +kernel
theorem dX1_weigh_6 : decode cX1_weigh 6 = .ok (.aload_n 0, 1) := by decide +kernel
theorem dX1_weigh_7 : decode cX1_weigh 7 = .ok (.sipush 1365, 3) := by decide +kernel
theorem dX1_weigh_10 : decode cX1_weigh 10 = .ok (.iload_n 2, 1) := by decide +kernel
theorem dX1_weigh_11 : decode cX1_weigh 11 = .ok (.iconst (-1), 1) := by decide +kernel
theorem dX1_weigh_12 : decode cX1_weigh 12 = .ok (.ixor, 1) := by decide +kernel
theorem dX1_weigh_13 : decode cX1_weigh 13 = .ok (.iand, 1) := by decide +kernel
theorem dX1_weigh_14 : decode cX1_weigh 14 = .ok (.putfield 74, 3) := by decide +kernel
theorem dX1_weigh_17 : decode cX1_weigh 17 = .ok (.aload_n 0, 1) := by decide +kernel
theorem dX1_weigh_18 : decode cX1_weigh 18 = .ok (.aload_n 3, 1) := by decide +kernel
theorem dX1_weigh_19 : decode cX1_weigh 19 = .ok (.iconst 2, 1) := by decide +kernel
theorem dX1_weigh_20 : decode cX1_weigh 20 = .ok (.iaload, 1) := by decide +kernel
theorem dX1_weigh_21 : decode cX1_weigh 21 = .ok (.putfield 77, 3) := by decide +kernel
theorem dX1_weigh_24 : decode cX1_weigh 24 = .ok (.aload_n 0, 1) := by decide +kernel
theorem dX1_weigh_25 : decode cX1_weigh 25 = .ok (.aload_n 3, 1) := by decide +kernel
theorem dX1_weigh_26 : decode cX1_weigh 26 = .ok (.iconst 4, 1) := by decide +kernel
theorem dX1_weigh_27 : decode cX1_weigh 27 = .ok (.iaload, 1) := by decide +kernel
theorem dX1_weigh_28 : decode cX1_weigh 28 = .ok (.putfield 80, 3) := by decide +kernel
theorem dX1_weigh_31 : decode cX1_weigh 31 = .ok (.aload_n 0, 1) := by decide +kernel
theorem dX1_weigh_32 : decode cX1_weigh 32 = .ok (.getfield 25, 3) := by decide +kernel
theorem dX1_weigh_35 : decode cX1_weigh 35 = .ok (.iload 4, 2) := by decide +kernel
theorem dX1_weigh_37 : decode cX1_weigh 37 = .ok (.bipush 12, 2) := by decide +kernel
theorem dX1_weigh_39 : decode cX1_weigh 39 = .ok (.imul, 1) := by decide +kernel
theorem dX1_weigh_40 : decode cX1_weigh 40 = .ok (.iload 4, 2) := by decide +kernel
theorem dX1_weigh_42 : decode cX1_weigh 42 = .ok (.iconst 1, 1) := by decide +kernel
theorem dX1_weigh_43 : decode cX1_weigh 43 = .ok (.iadd, 1) := by decide +kernel
theorem dX1_weigh_44 : decode cX1_weigh 44 = .ok (.bipush 12, 2) := by decide +kernel
theorem dX1_weigh_46 : decode cX1_weigh 46 = .ok (.imul, 1) := by decide +kernel
theorem dX1_weigh_47 : decode cX1_weigh 47 = .ok (.lconst 0, 1) := by decide +kernel
theorem dX1_weigh_48 : decode cX1_weigh 48 = .ok (.invokestatic 83, 3) := by decide +kernel
theorem dX1_weigh_51 : decode cX1_weigh 51 = .ok (.iload 4, 2) := by decide +kernel
theorem dX1_weigh_53 : decode cX1_weigh 53 = .ok (.iconst 1, 1) := by decide +kernel
theorem dX1_weigh_54 : decode cX1_weigh 54 = .ok (.isub, 1) := by decide +kernel
theorem dX1_weigh_55 : decode cX1_weigh 55 = .ok (.istore 5, 2) := by decide +kernel
theorem dX1_weigh_57 : decode cX1_weigh 57 = .ok (.iload 5, 2) := by decide +kernel
theorem dX1_weigh_59 : decode cX1_weigh 59 = .ok (.ifCond .lt 68, 3) := by decide +kernel
theorem dX1_weigh_62 : decode cX1_weigh 62 = .ok (.aload_n 0, 1) := by decide +kernel
theorem dX1_weigh_63 : decode cX1_weigh 63 = .ok (.getfield 25, 3) := by decide +kernel
theorem dX1_weigh_66 : decode cX1_weigh 66 = .ok (.iload 5, 2) := by decide +kernel
theorem dX1_weigh_68 : decode cX1_weigh 68 = .ok (.bipush 12, 2) := by decide +kernel
theorem dX1_weigh_70 : decode cX1_weigh 70 = .ok (.imul, 1) := by decide +kernel
theorem dX1_weigh_71 : decode cX1_weigh 71 = .ok (.iload 5, 2) := by decide +kernel
theorem dX1_weigh_73 : decode cX1_weigh 73 = .ok (.iconst 1, 1) := by decide +kernel
theorem dX1_weigh_74 : decode cX1_weigh 74 = .ok (.iadd, 1) := by decide +kernel
theorem dX1_weigh_75 : decode cX1_weigh 75 = .ok (.bipush 12, 2) := by decide +kernel
theorem dX1_weigh_77 : decode cX1_weigh 77 = .ok (.imul, 1) := by decide +kernel
theorem dX1_weigh_78 : decode cX1_weigh 78 = .ok (.ldc2_w 86, 3) := by decide +kernel
theorem dX1_weigh_81 : decode cX1_weigh 81 = .ok (.invokestatic 83, 3) := by decide +kernel
theorem dX1_weigh_84 : decode cX1_weigh 84 = .ok (.iload 5, 2) := by decide +kernel
theorem dX1_weigh_86 : decode cX1_weigh 86 = .ok (.istore 6, 2) := by decide +kernel
theorem dX1_weigh_88 : decode cX1_weigh 88 = .ok (.iload 6, 2) := by decide +kernel
theorem dX1_weigh_90 : decode cX1_weigh 90 = .ok (.iload 4, 2) := by decide +kernel
theorem dX1_weigh_92 : decode cX1_weigh 92 = .ok (.if_icmp .ge 29, 3) := by decide +kernel
theorem dX1_weigh_95 : decode cX1_weigh 95 = .ok (.aload_n 1, 1) := by decide +kernel
theorem dX1_weigh_96 : decode cX1_weigh 96 = .ok (.iload 5, 2) := by decide +kernel
theorem dX1_weigh_98 : decode cX1_weigh 98 = .ok (.iload 6, 2) := by decide +kernel
theorem dX1_weigh_100 : decode cX1_weigh 100 = .ok (.invokevirtual 66, 3) := by decide +kernel
theorem dX1_weigh_103 : decode cX1_weigh 103 = .ok (.ifCond .eq 12, 3) := by decide +kernel
theorem dX1_weigh_106 : decode cX1_weigh 106 = .ok (.aload_n 0, 1) := by decide +kernel
theorem dX1_weigh_107 : decode cX1_weigh 107 = .ok (.aload_n 1, 1) := by decide +kernel
theorem dX1_weigh_108 : decode cX1_weigh 108 = .ok (.iload 5, 2) := by decide +kernel
theorem dX1_weigh_110 : decode cX1_weigh 110 = .ok (.iload 6, 2) := by decide +kernel
theorem dX1_weigh_112 : decode cX1_weigh 112 = .ok (.invokevirtual 88, 3) := by decide +kernel
theorem dX1_weigh_115 : decode cX1_weigh 115 = .ok (.iinc 6 1, 3) := by decide +kernel
theorem dX1_weigh_118 : decode cX1_weigh 118 = .ok (.goto (-30), 3) := by decide +kernel
theorem dX1_weigh_121 : decode cX1_weigh 121 = .ok (.iinc 5 (-1), 3) := by decide +kernel
theorem dX1_weigh_124 : decode cX1_weigh 124 = .ok (.goto (-67), 3) := by decide +kernel
theorem dX1_weigh_127 : decode cX1_weigh 127 = .ok (.return_, 1) := by decide +kernel
def S_X1_weigh_57 (fn : Mem → Nat → Int → Int → Option (Mem)) (p : Program) (l : Launch) (e : Env) (R : Room) (s : State) (m : MethodId) (args : Array Value) (below : List Frame) (meth : Method) (c : Code) (G : GT) (τ : Mem) : Prop := ∀ (σ : Mem) (H : Heap) (locs : List Loc) (ls : Array Slot) (l1 : Nat) (l4 : Int) (l5 : Int), kd l1 = 4 → PW G σ H → va_S (AA G) s.heap H locs → fn σ l1 l4 l5 = some τ → lv_has ls 7 [(0, .ref (gh G + 53)), (1, .ref (gh G + l1)), (4, .int (i32 l4)), (5, .int (i32 l5))] → W p l e R s m args below meth c H locs 0 0 (MQ below (QM G none τ) args s 0 0 (AA G)) (F0 m 57 ls [])
def S_X1_weigh_88 (fn : Mem → Nat → Int → Int → Int → Option (Mem)) (p : Program) (l : Launch) (e : Env) (R : Room) (s : State) (m : MethodId) (args : Array Value) (below : List Frame) (meth : Method) (c : Code) (G : GT) (τ : Mem) : Prop := ∀ (σ : Mem) (H : Heap) (locs : List Loc) (ls : Array Slot) (l1 : Nat) (l4 : Int) (l5 : Int) (l6 : Int), kd l1 = 4 → PW G σ H → va_S (AA G) s.heap H locs → fn σ l1 l4 l5 l6 = some τ → lv_has ls 7 [(0, .ref (gh G + 53)), (1, .ref (gh G + l1)), (4, .int (i32 l4)), (5, .int (i32 l5)), (6, .int (i32 l6))] → W p l e R s m args below meth c H locs 0 0 (MQ below (QM G none τ) args s 0 0 (AA G)) (F0 m 88 ls [])
def X1_weigh_B115 (rec57 : Mem → Nat → Int → Int → Option (Mem)) (rec88 : Mem → Nat → Int → Int → Int → Option (Mem)) (σ : Mem) (l1 : Nat) (l4 : Int) (l5 : Int) (l6 : Int) : Option (Mem) :=
  lt (l6 + 1) fun l6_1 =>
  rec88 σ l1 l4 l5 l6_1
def S_X1_weigh_115 (fn : Mem → Nat → Int → Int → Int → Option (Mem)) (p : Program) (l : Launch) (e : Env) (R : Room) (s : State) (m : MethodId) (args : Array Value) (below : List Frame) (meth : Method) (c : Code) (G : GT) (τ : Mem) : Prop := ∀ (σ : Mem) (H : Heap) (locs : List Loc) (ls : Array Slot) (l1 : Nat) (l4 : Int) (l5 : Int) (l6 : Int), kd l1 = 4 → PW G σ H → va_S (AA G) s.heap H locs → fn σ l1 l4 l5 l6 = some τ → lv_has ls 7 [(0, .ref (gh G + 53)), (1, .ref (gh G + l1)), (4, .int (i32 l4)), (5, .int (i32 l5)), (6, .int (i32 l6))] → W p l e R s m args below meth c H locs 0 0 (MQ below (QM G none τ) args s 0 0 (AA G)) (F0 m 115 ls [])
def X1_weigh_B88 (rec57 : Mem → Nat → Int → Int → Option (Mem)) (rec88 : Mem → Nat → Int → Int → Int → Option (Mem)) (σ : Mem) (l1 : Nat) (l4 : Int) (l5 : Int) (l6 : Int) : Option (Mem) :=
  if w32 l4 ≤ w32 l6 then
    lt (l5 + (-1)) fun l5_1 =>
    rec57 σ l1 l4 l5_1
  else
  bd (X4_hasPage σ l1 l5 l6) fun r2 =>
  if w32 r2 = 0 then
    X1_weigh_B115 rec57 rec88 σ l1 l4 l5 l6
  else
  bd (X1_takeBetter σ l1 l5 l6) fun s4 =>
  X1_weigh_B115 rec57 rec88 s4 l1 l4 l5 l6
def X1_weigh_L88 (rec57 : Mem → Nat → Int → Int → Option (Mem)) : Nat → Mem → Nat → Int → Int → Int → Option (Mem)
  | 0 => fun _ _ _ _ _ => none
  | n + 1 => X1_weigh_B88 rec57 (X1_weigh_L88 rec57 n)
def X1_weigh_B57 (rec57 : Mem → Nat → Int → Int → Option (Mem)) (σ : Mem) (l1 : Nat) (l4 : Int) (l5 : Int) : Option (Mem) :=
  if w32 l5 < 0 then
    some σ
  else
  bd (J7_fill_bad5a σ 60 (l5 * 12) ((l5 + 1) * 12) 9223372036854775807) fun s2 =>
  X1_weigh_L88 rec57 5000 s2 l1 l4 l5 l5
def X1_weigh_L57 : Nat → Mem → Nat → Int → Int → Option (Mem)
  | 0 => fun _ _ _ _ => none
  | n + 1 => X1_weigh_B57 (X1_weigh_L57 n)
def X1_weigh (σ : Mem) (l1 : Nat) (l2 : Int) (l3 : Nat) : Option (Mem) :=
  lt (σ l1 1) fun l4_1 =>
  lt (st σ 53 5 (ian 1365 (ixr l2 (-1)))) fun s2 =>
  ag (ln l3) 2 fun j3 =>
  lt (st s2 53 6 (s2 l3 j3)) fun s4 =>
  ag (ln l3) 4 fun j5 =>
  lt (st s4 53 7 (s4 l3 j5)) fun s6 =>
  bd (J7_fill_bad5a s6 60 (l4_1 * 12) ((l4_1 + 1) * 12) 0) fun s8 =>
  lt (l4_1 - 1) fun l5_9 =>
  X1_weigh_L57 5000 s8 l1 l4_1 l5_9
def S_X1_weigh_0 (fn : Mem → Nat → Int → Nat → Option (Mem)) (p : Program) (l : Launch) (e : Env) (R : Room) (s : State) (m : MethodId) (args : Array Value) (below : List Frame) (meth : Method) (c : Code) (G : GT) (τ : Mem) : Prop := ∀ (σ : Mem) (H : Heap) (locs : List Loc) (ls : Array Slot) (l1 : Nat) (l2 : Int) (l3 : Nat), kd l1 = 4 → kd l3 = 13 → PW G σ H → va_S (AA G) s.heap H locs → fn σ l1 l2 l3 = some τ → lv_has ls 7 [(0, .ref (gh G + 53)), (1, .ref (gh G + l1)), (2, .int (i32 l2)), (3, .ref (gh G + l3))] → W p l e R s m args below meth c H locs 0 0 (MQ below (QM G none τ) args s 0 0 (AA G)) (F0 m 0 ls [])
set_option maxHeartbeats 4000000 in
theorem a_X1_weigh_115 {p : Program} {l : Launch} {e : Env} {R : Room} {s : State} {m : MethodId} {args : Array Value} {below : List Frame} {meth : Method} {c : Code} {G : GT} {τ : Mem} {rec57 : Mem → Nat → Int → Int → Option (Mem)} {rec88 : Mem → Nat → Int → Int → Int → Option (Mem)} (X : CX p R s m args meth c cX1_weigh 7 RX1 none 3 114 G) (h57 : S_X1_weigh_57 rec57 p l e R s m args below meth c G τ) (h88 : S_X1_weigh_88 rec88 p l e R s m args below meth c G τ) : S_X1_weigh_115 (X1_weigh_B115 rec57 rec88) p l e R s m args below meth c G τ := by
  intro σ H locs ls l1 l4 l5 l6 hk_l1 hP hS hf hl
  unfold X1_weigh_B115 at hf
  obtain ⟨l6_1, el6_1, hf⟩ := lt_inv hf
  refine lv_iinc (v := i32 l6_1) (lv' := [(6, .int (i32 l6_1)), (0, .ref (gh G + 53)), (1, .ref (gh G + l1)), (4, .int (i32 l4)), (5, .int (i32 l5))]) X.1 X.2.1 dX1_weigh_115 hl (k := 4) rfl (by rw [← el6_1]; exact i32_add _ _) (by decide) rfl (fun ls hl => ?_)
  refine lv_goto (tgt := 88) X.1 X.2.1 dX1_weigh_118 (by decide) ?_
  exact h88 σ H locs ls l1 l4 l5 l6_1 hk_l1 hP hS hf (lv_sub hl [1, 2, 3, 4, 0] rfl)
set_option maxHeartbeats 4000000 in
theorem a_X1_weigh_88 {p : Program} {l : Launch} {e : Env} {R : Room} {s : State} {m : MethodId} {args : Array Value} {below : List Frame} {meth : Method} {c : Code} {G : GT} {τ : Mem} {rec57 : Mem → Nat → Int → Int → Option (Mem)} {rec88 : Mem → Nat → Int → Int → Int → Option (Mem)} (X : CX p R s m args meth c cX1_weigh 7 RX1 none 3 114 G) (h57 : S_X1_weigh_57 rec57 p l e R s m args below meth c G τ) (h88 : S_X1_weigh_88 rec88 p l e R s m args below meth c G τ) : S_X1_weigh_88 (X1_weigh_B88 rec57 rec88) p l e R s m args below meth c G τ := by
  intro σ H locs ls l1 l4 l5 l6 hk_l1 hP hS hf hl
  unfold X1_weigh_B88 at hf
  refine lv_iload X.1 X.2.1 dX1_weigh_88 (lv_at hl 4 rfl) ?_
  refine lv_iload X.1 X.2.1 dX1_weigh_90 (lv_at hl 2 rfl) ?_
  refine r_icmp_ge (tgt := 121) X dX1_weigh_92 (by decide) (fun q => ?_) (fun q => ?_)
  · replace hf := it_inv q hf
    obtain ⟨l5_1, el5_1, hf⟩ := lt_inv hf
    refine lv_iinc (v := i32 l5_1) (lv' := [(5, .int (i32 l5_1)), (0, .ref (gh G + 53)), (1, .ref (gh G + l1)), (4, .int (i32 l4)), (6, .int (i32 l6))]) X.1 X.2.1 dX1_weigh_121 hl (k := 3) rfl (by rw [← el5_1]; exact i32_add _ _) (by decide) rfl (fun ls hl => ?_)
    refine lv_goto (tgt := 57) X.1 X.2.1 dX1_weigh_124 (by decide) ?_
    exact h57 σ H locs ls l1 l4 l5_1 hk_l1 hP hS hf (lv_sub hl [1, 2, 3, 0] rfl)
  · replace hf := ie_inv q hf
    refine lv_aload_n X.1 X.2.1 dX1_weigh_95 rfl (lv_at hl 1 rfl) ?_
    refine lv_iload X.1 X.2.1 dX1_weigh_96 (lv_at hl 3 rfl) ?_
    refine lv_iload X.1 X.2.1 dX1_weigh_98 (lv_at hl 4 rfl) ?_
    obtain ⟨r2, hr2, hf⟩ := bd_inv hf
    refine k_X4_hasPage X hP hS hl.1 hk_l1 hr2 (tb t_799 rfl) (by decide) (Nat.le_of_ble_eq_true rfl) dX1_weigh_100 (fun H locs hP hS => ?_)
    refine r_if_eq (tgt := 115) X dX1_weigh_103 (by decide) (fun q => ?_) (fun q => ?_)
    · replace hf := it_inv q hf
      exact a_X1_weigh_115 X h57 h88 σ H locs ls l1 l4 l5 l6 hk_l1 hP hS hf hl
    · replace hf := ie_inv q hf
      refine lv_aload_n X.1 X.2.1 dX1_weigh_106 rfl (lv_at hl 0 rfl) ?_
      refine lv_aload_n X.1 X.2.1 dX1_weigh_107 rfl (lv_at hl 1 rfl) ?_
      refine lv_iload X.1 X.2.1 dX1_weigh_108 (lv_at hl 3 rfl) ?_
      refine lv_iload X.1 X.2.1 dX1_weigh_110 (lv_at hl 4 rfl) ?_
      obtain ⟨s4, hr3, hf⟩ := bd_inv hf
      refine k_X1_takeBetter X hP hS hl.1 hk_l1 hr3 (tb t_803 rfl) (by decide) (Nat.le_of_ble_eq_true rfl) dX1_weigh_112 (fun H locs hP hS => ?_)
      exact a_X1_weigh_115 X h57 h88 s4 H locs ls l1 l4 l5 l6 hk_l1 hP hS hf hl
theorem al_X1_weigh_88 {p : Program} {l : Launch} {e : Env} {R : Room} {s : State} {m : MethodId} {args : Array Value} {below : List Frame} {meth : Method} {c : Code} {G : GT} {τ : Mem} {rec57 : Mem → Nat → Int → Int → Option (Mem)} (X : CX p R s m args meth c cX1_weigh 7 RX1 none 3 114 G) (h57 : S_X1_weigh_57 rec57 p l e R s m args below meth c G τ) : ∀ n, S_X1_weigh_88 (X1_weigh_L88 rec57 n) p l e R s m args below meth c G τ := by
  intro n
  induction n with
  | zero =>
    intro σ H locs ls l1 l4 l5 l6 hk_l1 hP hS hf hl
    cases hf
  | succ n ih => exact a_X1_weigh_88 X h57 ih
set_option maxHeartbeats 4000000 in
theorem a_X1_weigh_57 {p : Program} {l : Launch} {e : Env} {R : Room} {s : State} {m : MethodId} {args : Array Value} {below : List Frame} {meth : Method} {c : Code} {G : GT} {τ : Mem} {rec57 : Mem → Nat → Int → Int → Option (Mem)} (X : CX p R s m args meth c cX1_weigh 7 RX1 none 3 114 G) (h57 : S_X1_weigh_57 rec57 p l e R s m args below meth c G τ) : S_X1_weigh_57 (X1_weigh_B57 rec57) p l e R s m args below meth c G τ := by
  intro σ H locs ls l1 l4 l5 hk_l1 hP hS hf hl
  unfold X1_weigh_B57 at hf
  refine lv_iload X.1 X.2.1 dX1_weigh_57 (lv_at hl 3 rfl) ?_
  refine r_if_lt (tgt := 127) X dX1_weigh_59 (by decide) (fun q => ?_) (fun q => ?_)
  · replace hf := it_inv q hf
    cases so_inv hf
    exact r_vret X hP hS dX1_weigh_127
  · replace hf := ie_inv q hf
    refine lv_aload_n X.1 X.2.1 dX1_weigh_62 rfl (lv_at hl 0 rfl) ?_
    refine g_1_3 (r := 60) X hP ks_1 rfl (tb t_276 rfl) dX1_weigh_63 ?_
    refine lv_iload X.1 X.2.1 dX1_weigh_66 (lv_at hl 3 rfl) ?_
    refine r_bipush X 12 (by decide) dX1_weigh_68 ?_
    refine r_imul X dX1_weigh_70 ?_
    refine lv_iload X.1 X.2.1 dX1_weigh_71 (lv_at hl 3 rfl) ?_
    refine r_iconst X 1 dX1_weigh_73 ?_
    refine r_iadd X dX1_weigh_74 ?_
    refine r_bipush X 12 (by decide) dX1_weigh_75 ?_
    refine r_imul X dX1_weigh_77 ?_
    refine r_ldc2 X 9223372036854775807 (tb t_798 rfl) (by decide) dX1_weigh_78 ?_
    obtain ⟨s2, hr1, hf⟩ := bd_inv hf
    refine k_J7_fill_bad5a X hP hS hl.1 (ch_1_3 ks_1).1 hr1 (tb t_792 rfl) (by decide) (Nat.le_of_ble_eq_true rfl) dX1_weigh_81 (fun H locs hP hS => ?_)
    refine lv_iload X.1 X.2.1 dX1_weigh_84 (lv_at hl 3 rfl) ?_
    refine lv_istore (lv' := [(6, .int (i32 l5)), (0, .ref (gh G + 53)), (1, .ref (gh G + l1)), (4, .int (i32 l4)), (5, .int (i32 l5))]) X.1 X.2.1 dX1_weigh_86 hl (by decide) rfl (fun ls hl => ?_)
    exact al_X1_weigh_88 X h57 5000 s2 H locs ls l1 l4 l5 l5 hk_l1 hP hS hf (lv_sub hl [1, 2, 3, 4, 0] rfl)
theorem al_X1_weigh_57 {p : Program} {l : Launch} {e : Env} {R : Room} {s : State} {m : MethodId} {args : Array Value} {below : List Frame} {meth : Method} {c : Code} {G : GT} {τ : Mem} (X : CX p R s m args meth c cX1_weigh 7 RX1 none 3 114 G) : ∀ n, S_X1_weigh_57 (X1_weigh_L57 n) p l e R s m args below meth c G τ := by
  intro n
  induction n with
  | zero =>
    intro σ H locs ls l1 l4 l5 hk_l1 hP hS hf hl
    cases hf
  | succ n ih => exact a_X1_weigh_57 X ih
set_option maxHeartbeats 4000000 in
theorem a_X1_weigh_0 {p : Program} {l : Launch} {e : Env} {R : Room} {s : State} {m : MethodId} {args : Array Value} {below : List Frame} {meth : Method} {c : Code} {G : GT} {τ : Mem} (X : CX p R s m args meth c cX1_weigh 7 RX1 none 3 114 G) : S_X1_weigh_0 (X1_weigh) p l e R s m args below meth c G τ := by
  intro σ H locs ls l1 l2 l3 hk_l1 hk_l3 hP hS hf hl
  unfold X1_weigh at hf
  refine lv_aload_n X.1 X.2.1 dX1_weigh_0 rfl (lv_at hl 1 rfl) ?_
  refine g_4_1 X hP hk_l1 (tb t_324 rfl) dX1_weigh_1 ?_
  obtain ⟨l4_1, el4_1, hf⟩ := lt_inv hf
  refine r_eqi el4_1 ?_
  refine lv_istore (lv' := [(4, .int (i32 l4_1)), (0, .ref (gh G + 53)), (1, .ref (gh G + l1)), (2, .int (i32 l2)), (3, .ref (gh G + l3))]) X.1 X.2.1 dX1_weigh_4 hl (by decide) rfl (fun ls hl => ?_)
  refine lv_aload_n X.1 X.2.1 dX1_weigh_6 rfl (lv_at hl 1 rfl) ?_
  refine r_sipush X 1365 (by decide) dX1_weigh_7 ?_
  refine lv_iload_n X.1 X.2.1 dX1_weigh_10 rfl (lv_at hl 3 rfl) ?_
  refine r_iconst X (-1) dX1_weigh_11 ?_
  refine r_ixor X dX1_weigh_12 ?_
  refine r_iand X dX1_weigh_13 ?_
  refine p_1_5 X hP hS ks_1 (tb t_278 rfl) dX1_weigh_14 (fun H locs hP hS => ?_)
  obtain ⟨s2, es2, hf⟩ := lt_inv hf
  rw [es2] at hP
  refine lv_aload_n X.1 X.2.1 dX1_weigh_17 rfl (lv_at hl 1 rfl) ?_
  refine lv_aload_n X.1 X.2.1 dX1_weigh_18 rfl (lv_at hl 4 rfl) ?_
  refine r_iconst X 2 dX1_weigh_19 ?_
  obtain ⟨j3, hij3, hjj3, hlj3, hf⟩ := ag_inv hf
  refine r_iald X hP hk_l3 rfl hij3 hjj3 dX1_weigh_20 ?_
  refine p_1_6 X hP hS ks_1 (tb t_279 rfl) dX1_weigh_21 (fun H locs hP hS => ?_)
  obtain ⟨s4, es4, hf⟩ := lt_inv hf
  rw [es4] at hP
  refine lv_aload_n X.1 X.2.1 dX1_weigh_24 rfl (lv_at hl 1 rfl) ?_
  refine lv_aload_n X.1 X.2.1 dX1_weigh_25 rfl (lv_at hl 4 rfl) ?_
  refine r_iconst X 4 dX1_weigh_26 ?_
  obtain ⟨j5, hij5, hjj5, hlj5, hf⟩ := ag_inv hf
  refine r_iald X hP hk_l3 rfl hij5 hjj5 dX1_weigh_27 ?_
  refine p_1_7 X hP hS ks_1 (tb t_280 rfl) dX1_weigh_28 (fun H locs hP hS => ?_)
  obtain ⟨s6, es6, hf⟩ := lt_inv hf
  rw [es6] at hP
  refine lv_aload_n X.1 X.2.1 dX1_weigh_31 rfl (lv_at hl 1 rfl) ?_
  refine g_1_3 (r := 60) X hP ks_1 rfl (tb t_276 rfl) dX1_weigh_32 ?_
  refine lv_iload X.1 X.2.1 dX1_weigh_35 (lv_at hl 0 rfl) ?_
  refine r_bipush X 12 (by decide) dX1_weigh_37 ?_
  refine r_imul X dX1_weigh_39 ?_
  refine lv_iload X.1 X.2.1 dX1_weigh_40 (lv_at hl 0 rfl) ?_
  refine r_iconst X 1 dX1_weigh_42 ?_
  refine r_iadd X dX1_weigh_43 ?_
  refine r_bipush X 12 (by decide) dX1_weigh_44 ?_
  refine r_imul X dX1_weigh_46 ?_
  refine r_lconst X 0 0 (by decide) dX1_weigh_47 ?_
  obtain ⟨s8, hr7, hf⟩ := bd_inv hf
  refine k_J7_fill_bad5a X hP hS hl.1 (ch_1_3 ks_1).1 hr7 (tb t_792 rfl) (by decide) (Nat.le_of_ble_eq_true rfl) dX1_weigh_48 (fun H locs hP hS => ?_)
  refine lv_iload X.1 X.2.1 dX1_weigh_51 (lv_at hl 0 rfl) ?_
  refine r_iconst X 1 dX1_weigh_53 ?_
  refine r_isub X dX1_weigh_54 ?_
  obtain ⟨l5_9, el5_9, hf⟩ := lt_inv hf
  refine r_eqi el5_9 ?_
  refine lv_istore (lv' := [(5, .int (i32 l5_9)), (4, .int (i32 l4_1)), (0, .ref (gh G + 53)), (1, .ref (gh G + l1)), (2, .int (i32 l2)), (3, .ref (gh G + l3))]) X.1 X.2.1 dX1_weigh_55 hl (by decide) rfl (fun ls hl => ?_)
  exact al_X1_weigh_57 X 5000 s8 H locs ls l1 l4_1 l5_9 hk_l1 hP hS hf (lv_sub hl [2, 3, 1, 0] rfl)
set_option maxHeartbeats 4000000 in
theorem c_X1_weigh {l : Launch} {G : GT} {σ τ : Mem} {l1 : Nat} {l2 : Int} {l3 : Nat} (hk_l1 : kd l1 = 4) (hk_l3 : kd l3 = 13) (hf : X1_weigh σ l1 l2 l3 = some τ) : CT l yX1_weigh cX1_weigh 7 none 3 114 G [.ref (gh G + 53), .ref (gh G + l1), .int (i32 l2), .ref (gh G + l3)] σ τ none := by
  refine CT.mk (own := RX1) (by decide) rfl (Nat.le_of_ble_eq_true rfl) ?_
  intro p e s m below meth c ls X hP hS hl
  have hl : lv_has ls 7 [(0, .ref (gh G + 53)), (1, .ref (gh G + l1)), (2, .int (i32 l2)), (3, .ref (gh G + l3))] := hl
  exact a_X1_weigh_0 X σ s.heap [] ls l1 l2 l3 hk_l1 hk_l3 hP hS hf hl
theorem k_X1_weigh {p : Program} {l : Launch} {e : Env} {R : Room} {s : State} {m : MethodId} {args : Array Value} {below : List Frame} {meth : Method} {c : Code} {H : Heap} {locs : List Loc} {Q : State → Prop} {cc : ByteArray} {nL : Nat} {own : String} {ret : Option FieldType} {fF fL : Nat} {G : GT} {pc idx : Nat} {ls : Array Slot} {rest : List Value} {σ τ : Mem} {l1 : Nat} {l2 : Int} {l3 : Nat} (X : CX p R s m args meth c cc nL own ret fF fL G) (hP : PW G σ H) (hS : va_S (AA G) s.heap H locs) (hls : ls.size = nL) (hk_l1 : kd l1 = 4) (hk_l3 : kd l3 = 13) (hf : X1_weigh σ l1 l2 l3 = some τ) (h1 : Cond.methodLink own idx yX1_weigh ∈ TB) (hR : 3 + 1 ≤ fF ∧ 8 + (7 + 11) + 114 ≤ fL) (hW : (rest.map fun v => v.category).sum ≤ 8) (hd : decode cc pc = .ok (.invokevirtual idx, 3)) (kk : ∀ (H1 : Heap) (locs1 : List Loc), PW G τ H1 → va_S (AA G) s.heap H1 locs1 → W p l e R s m args below meth c H1 locs1 0 0 Q (F0 m (pc + 3) ls (rest))) : W p l e R s m args below meth c H locs 0 0 Q (F0 m pc ls (.ref (gh G + l3) :: .int (i32 l2) :: .ref (gh G + l1) :: .ref (gh G + 53) :: rest)) := r_callV (n := 3) X hP hS hls (c_X1_weigh hk_l1 hk_l3 hf) h1 (tb t_789 rfl) (tb t_790 rfl) (tb t_82 rfl) (tb t_791 rfl) (by decide +kernel) hR (r_recv X hP (kd_lt ks_1 (by decide)) (cE_1 ks_1) rfl) rfl rfl hW hd kk
/-! X2_begin -/
theorem dX2_begin_0 : decode cX2_begin 0 = .ok (.aload_n 0, 1) := by decide +kernel
theorem dX2_begin_1 : decode cX2_begin 1 = .ok (.iconst 0, 1) := by decide +kernel
theorem dX2_begin_2 : decode cX2_begin 2 = .ok (.putfield 33, 3) := by decide +kernel
theorem dX2_begin_5 : decode cX2_begin 5 = .ok (.aload_n 0, 1) := by decide +kernel
theorem dX2_begin_6 : decode cX2_begin 6 = .ok (.iconst 0, 1) := by decide +kernel
theorem dX2_begin_7 : decode cX2_begin 7 = .ok (.putfield 37, 3) := by decide +kernel
theorem dX2_begin_10 : decode cX2_begin 10 = .ok (.aload_n 0, 1) := by decide +kernel
theorem dX2_begin_11 : decode cX2_begin 11 = .ok (.iconst 0, 1) := by decide +kernel
theorem dX2_begin_12 : decode cX2_begin 12 = .ok (.putfield 40, 3) := by decide +kernel
theorem dX2_begin_15 : decode cX2_begin 15 = .ok (.aload_n 0, 1) := by decide +kernel
theorem dX2_begin_16 : decode cX2_begin 16 = .ok (.iconst 0, 1) := by decide +kernel
theorem dX2_begin_17 : decode cX2_begin 17 = .ok (.putfield 43, 3) := by decide +kernel
theorem dX2_begin_20 : decode cX2_begin 20 = .ok (.aload_n 0, 1) := by decide +kernel
theorem dX2_begin_21 : decode cX2_begin 21 = .ok (.iconst 0, 1) := by decide +kernel
theorem dX2_begin_22 : decode cX2_begin 22 = .ok (.putfield 46, 3) := by decide +kernel
theorem dX2_begin_25 : decode cX2_begin 25 = .ok (.aload_n 0, 1) := by decide +kernel
theorem dX2_begin_26 : decode cX2_begin 26 = .ok (.iconst 1, 1) := by decide +kernel
theorem dX2_begin_27 : decode cX2_begin 27 = .ok (.putfield 49, 3) := by decide +kernel
theorem dX2_begin_30 : decode cX2_begin 30 = .ok (.aload_n 0, 1) := by decide +kernel
theorem dX2_begin_31 : decode cX2_begin 31 = .ok (.getfield 30, 3) := by decide +kernel
theorem dX2_begin_34 : decode cX2_begin 34 = .ok (.iconst 0, 1) := by decide +kernel
theorem dX2_begin_35 : decode cX2_begin 35 = .ok (.invokestatic 53, 3) := by decide +kernel
theorem dX2_begin_38 : decode cX2_begin 38 = .ok (.return_, 1) := by decide +kernel
def X2_begin (σ : Mem) (l0 : Nat) : Option (Mem) :=
  lt (st σ l0 0 0) fun s1 =>
  lt (st s1 l0 1 0) fun s2 =>
  lt (st s2 l0 2 0) fun s3 =>
  lt (st s3 l0 3 0) fun s4 =>
  lt (st s4 l0 4 0) fun s5 =>
  lt (st s5 l0 5 1) fun s6 =>
  bd (J7_fill_53178 s6 (l0 + 7) 0) fun s8 =>
  some s8
def S_X2_begin_0 (fn : Mem → Nat → Option (Mem)) (p : Program) (l : Launch) (e : Env) (R : Room) (s : State) (m : MethodId) (args : Array Value) (below : List Frame) (meth : Method) (c : Code) (G : GT) (τ : Mem) : Prop := ∀ (σ : Mem) (H : Heap) (locs : List Loc) (ls : Array Slot) (l0 : Nat), kd l0 = 2 → PW G σ H → va_S (AA G) s.heap H locs → fn σ l0 = some τ → lv_has ls 1 [(0, .ref (gh G + l0))] → W p l e R s m args below meth c H locs 0 0 (MQ below (QM G none τ) args s 0 0 (AA G)) (F0 m 0 ls [])
set_option maxHeartbeats 4000000 in
theorem a_X2_begin_0 {p : Program} {l : Launch} {e : Env} {R : Room} {s : State} {m : MethodId} {args : Array Value} {below : List Frame} {meth : Method} {c : Code} {G : GT} {τ : Mem} (X : CX p R s m args meth c cX2_begin 1 RX2 none 2 83 G) : S_X2_begin_0 (X2_begin) p l e R s m args below meth c G τ := by
  intro σ H locs ls l0 hk_l0 hP hS hf hl
  unfold X2_begin at hf
  refine lv_aload_n X.1 X.2.1 dX2_begin_0 rfl (lv_at hl 0 rfl) ?_
  refine r_iconst X 0 dX2_begin_1 ?_
  refine p_2_0 X hP hS hk_l0 (tb t_339 rfl) dX2_begin_2 (fun H locs hP hS => ?_)
  obtain ⟨s1, es1, hf⟩ := lt_inv hf
  rw [es1] at hP
  refine lv_aload_n X.1 X.2.1 dX2_begin_5 rfl (lv_at hl 0 rfl) ?_
  refine r_iconst X 0 dX2_begin_6 ?_
  refine p_2_1 X hP hS hk_l0 (tb t_341 rfl) dX2_begin_7 (fun H locs hP hS => ?_)
  obtain ⟨s2, es2, hf⟩ := lt_inv hf
  rw [es2] at hP
  refine lv_aload_n X.1 X.2.1 dX2_begin_10 rfl (lv_at hl 0 rfl) ?_
  refine r_iconst X 0 dX2_begin_11 ?_
  refine p_2_2 X hP hS hk_l0 (tb t_343 rfl) dX2_begin_12 (fun H locs hP hS => ?_)
  obtain ⟨s3, es3, hf⟩ := lt_inv hf
  rw [es3] at hP
  refine lv_aload_n X.1 X.2.1 dX2_begin_15 rfl (lv_at hl 0 rfl) ?_
  refine r_iconst X 0 dX2_begin_16 ?_
  refine p_2_3 X hP hS hk_l0 (tb t_345 rfl) dX2_begin_17 (fun H locs hP hS => ?_)
  obtain ⟨s4, es4, hf⟩ := lt_inv hf
  rw [es4] at hP
  refine lv_aload_n X.1 X.2.1 dX2_begin_20 rfl (lv_at hl 0 rfl) ?_
  refine r_iconst X 0 dX2_begin_21 ?_
  refine p_2_4 X hP hS hk_l0 (tb t_347 rfl) dX2_begin_22 (fun H locs hP hS => ?_)
  obtain ⟨s5, es5, hf⟩ := lt_inv hf
  rw [es5] at hP
  refine lv_aload_n X.1 X.2.1 dX2_begin_25 rfl (lv_at hl 0 rfl) ?_
  refine r_iconst X 1 dX2_begin_26 ?_
  refine p_2_5 X hP hS (Or.inr rfl) hk_l0 (tb t_349 rfl) dX2_begin_27 (fun H locs hP hS => ?_)
  obtain ⟨s6, es6, hf⟩ := lt_inv hf
  rw [es6] at hP
  refine lv_aload_n X.1 X.2.1 dX2_begin_30 rfl (lv_at hl 0 rfl) ?_
  refine g_2_12 (r := l0 + 7) X hP hk_l0 rfl (tb t_359 rfl) dX2_begin_31 ?_
  refine r_iconst X 0 dX2_begin_34 ?_
  obtain ⟨s8, hr7, hf⟩ := bd_inv hf
  refine k_J7_fill_53178 X hP hS hl.1 (ch_2_12 hk_l0).1 hr7 (tb t_824 rfl) (by decide) (Nat.le_of_ble_eq_true rfl) dX2_begin_35 (fun H locs hP hS => ?_)
  cases so_inv hf
  exact r_vret X hP hS dX2_begin_38
set_option maxHeartbeats 4000000 in
theorem c_X2_begin {l : Launch} {G : GT} {σ τ : Mem} {l0 : Nat} (hk_l0 : kd l0 = 2) (hf : X2_begin σ l0 = some τ) : CT l yX2_begin cX2_begin 1 none 2 83 G [.ref (gh G + l0)] σ τ none := by
  refine CT.mk (own := RX2) (by decide) rfl (Nat.le_of_ble_eq_true rfl) ?_
  intro p e s m below meth c ls X hP hS hl
  have hl : lv_has ls 1 [(0, .ref (gh G + l0))] := hl
  exact a_X2_begin_0 X σ s.heap [] ls l0 hk_l0 hP hS hf hl
theorem k_X2_begin {p : Program} {l : Launch} {e : Env} {R : Room} {s : State} {m : MethodId} {args : Array Value} {below : List Frame} {meth : Method} {c : Code} {H : Heap} {locs : List Loc} {Q : State → Prop} {cc : ByteArray} {nL : Nat} {own : String} {ret : Option FieldType} {fF fL : Nat} {G : GT} {pc idx : Nat} {ls : Array Slot} {rest : List Value} {σ τ : Mem} {l0 : Nat} (X : CX p R s m args meth c cc nL own ret fF fL G) (hP : PW G σ H) (hS : va_S (AA G) s.heap H locs) (hls : ls.size = nL) (hk_l0 : kd l0 = 2) (hf : X2_begin σ l0 = some τ) (h1 : Cond.methodLink own idx yX2_begin ∈ TB) (hR : 2 + 1 ≤ fF ∧ 8 + (1 + 11) + 83 ≤ fL) (hW : (rest.map fun v => v.category).sum ≤ 8) (hd : decode cc pc = .ok (.invokevirtual idx, 3)) (kk : ∀ (H1 : Heap) (locs1 : List Loc), PW G τ H1 → va_S (AA G) s.heap H1 locs1 → W p l e R s m args below meth c H1 locs1 0 0 Q (F0 m (pc + 3) ls (rest))) : W p l e R s m args below meth c H locs 0 0 Q (F0 m pc ls (.ref (gh G + l0) :: rest)) := r_callV (n := 0) X hP hS hls (c_X2_begin hk_l0 hf) h1 (tb t_821 rfl) (tb t_822 rfl) (tb t_86 rfl) (tb t_823 rfl) (by decide +kernel) hR (r_recv X hP (kd_lt hk_l0 (by decide)) (cE_2 hk_l0) rfl) rfl rfl hW hd kk
/-! X4_sizeOf -/
theorem dX4_sizeOf_0 : decode cX4_sizeOf 0 = .ok (.aload_n 0, 1) := by decide +kernel
theorem dX4_sizeOf_1 : decode cX4_sizeOf 1 = .ok (.getfield 9, 3) := by decide +kernel
theorem dX4_sizeOf_4 : decode cX4_sizeOf 4 = .ok (.iload_n 1, 1) := by decide +kernel
theorem dX4_sizeOf_5 : decode cX4_sizeOf 5 = .ok (.bipush 40, 2) := by decide +kernel
theorem dX4_sizeOf_7 : decode cX4_sizeOf 7 = .ok (.imul, 1) := by decide +kernel
theorem dX4_sizeOf_8 : decode cX4_sizeOf 8 = .ok (.iload_n 2, 1) := by decide +kernel
theorem dX4_sizeOf_9 : decode cX4_sizeOf 9 = .ok (.iadd, 1) := by decide +kernel
theorem dX4_sizeOf_10 : decode cX4_sizeOf 10 = .ok (.iaload, 1) := by decide +kernel
theorem dX4_sizeOf_11 : decode cX4_sizeOf 11 = .ok (.iconst 3, 1) := by decide +kernel
theorem dX4_sizeOf_12 : decode cX4_sizeOf 12 = .ok (.iand, 1) := by decide +kernel
theorem dX4_sizeOf_13 : decode cX4_sizeOf 13 = .ok (.ireturn, 1) := by decide +kernel
def X4_sizeOf (σ : Mem) (l0 : Nat) (l1 : Int) (l2 : Int) : Option (Int) :=
  ag 1600 ((l1 * 40) + l2) fun j1 =>
  some (ian (σ (l0 + 1) j1) 3)
def S_X4_sizeOf_0 (fn : Nat → Int → Int → Option (Int)) (p : Program) (l : Launch) (e : Env) (R : Room) (s : State) (m : MethodId) (args : Array Value) (below : List Frame) (meth : Method) (c : Code) (G : GT) (σ : Mem) (res : Int) : Prop := ∀ (H : Heap) (locs : List Loc) (ls : Array Slot) (l0 : Nat) (l1 : Int) (l2 : Int), kd l0 = 4 → PW G σ H → va_S (AA G) s.heap H locs → fn l0 l1 l2 = some res → lv_has ls 3 [(0, .ref (gh G + l0)), (1, .int (i32 l1)), (2, .int (i32 l2))] → W p l e R s m args below meth c H locs 0 0 (MQ below (QM G (some (.int (i32 res))) σ) args s 0 0 (AA G)) (F0 m 0 ls [])
set_option maxHeartbeats 4000000 in
theorem a_X4_sizeOf_0 {p : Program} {l : Launch} {e : Env} {R : Room} {s : State} {m : MethodId} {args : Array Value} {below : List Frame} {meth : Method} {c : Code} {G : GT} {σ : Mem} {res : Int} (X : CX p R s m args meth c cX4_sizeOf 3 RX4 (some FieldType.int) 1 60 G) : S_X4_sizeOf_0 (X4_sizeOf σ) p l e R s m args below meth c G σ res := by
  intro H locs ls l0 l1 l2 hk_l0 hP hS hf hl
  unfold X4_sizeOf at hf
  refine lv_aload_n X.1 X.2.1 dX4_sizeOf_0 rfl (lv_at hl 0 rfl) ?_
  refine g_4_0 (r := l0 + 1) X hP hk_l0 rfl (tb t_322 rfl) dX4_sizeOf_1 ?_
  refine lv_iload_n X.1 X.2.1 dX4_sizeOf_4 rfl (lv_at hl 1 rfl) ?_
  refine r_bipush X 40 (by decide) dX4_sizeOf_5 ?_
  refine r_imul X dX4_sizeOf_7 ?_
  refine lv_iload_n X.1 X.2.1 dX4_sizeOf_8 rfl (lv_at hl 2 rfl) ?_
  refine r_iadd X dX4_sizeOf_9 ?_
  obtain ⟨j1, hij1, hjj1, hlj1, hf⟩ := ag_inv hf
  refine r_iald X hP (ch_4_0 hk_l0).1 (ch_4_0 hk_l0).2 hij1 hjj1 dX4_sizeOf_10 ?_
  refine r_iconst X 3 dX4_sizeOf_11 ?_
  refine r_iand X dX4_sizeOf_12 ?_
  cases so_inv hf
  exact r_iret X hP hS dX4_sizeOf_13
set_option maxHeartbeats 4000000 in
theorem c_X4_sizeOf {l : Launch} {G : GT} {σ : Mem} {res : Int} {l0 : Nat} {l1 : Int} {l2 : Int} (hk_l0 : kd l0 = 4) (hf : X4_sizeOf σ l0 l1 l2 = some res) : CT l yX4_sizeOf cX4_sizeOf 3 (some FieldType.int) 1 60 G [.ref (gh G + l0), .int (i32 l1), .int (i32 l2)] σ σ (some (.int (i32 res))) := by
  refine CT.mk (own := RX4) (by decide) rfl (Nat.le_of_ble_eq_true rfl) ?_
  intro p e s m below meth c ls X hP hS hl
  have hl : lv_has ls 3 [(0, .ref (gh G + l0)), (1, .int (i32 l1)), (2, .int (i32 l2))] := hl
  exact a_X4_sizeOf_0 X  s.heap [] ls l0 l1 l2 hk_l0 hP hS hf hl
theorem k_X4_sizeOf {p : Program} {l : Launch} {e : Env} {R : Room} {s : State} {m : MethodId} {args : Array Value} {below : List Frame} {meth : Method} {c : Code} {H : Heap} {locs : List Loc} {Q : State → Prop} {cc : ByteArray} {nL : Nat} {own : String} {ret : Option FieldType} {fF fL : Nat} {G : GT} {pc idx : Nat} {ls : Array Slot} {rest : List Value} {σ : Mem} {res : Int} {l0 : Nat} {l1 : Int} {l2 : Int} (X : CX p R s m args meth c cc nL own ret fF fL G) (hP : PW G σ H) (hS : va_S (AA G) s.heap H locs) (hls : ls.size = nL) (hk_l0 : kd l0 = 4) (hf : X4_sizeOf σ l0 l1 l2 = some res) (h1 : Cond.methodLink own idx yX4_sizeOf ∈ TB) (hR : 1 + 1 ≤ fF ∧ 8 + (3 + 11) + 60 ≤ fL) (hW : (rest.map fun v => v.category).sum ≤ 8) (hd : decode cc pc = .ok (.invokevirtual idx, 3)) (kk : ∀ (H1 : Heap) (locs1 : List Loc), PW G σ H1 → va_S (AA G) s.heap H1 locs1 → W p l e R s m args below meth c H1 locs1 0 0 Q (F0 m (pc + 3) ls (.int (i32 res) :: rest))) : W p l e R s m args below meth c H locs 0 0 Q (F0 m pc ls (.int (i32 l2) :: .int (i32 l1) :: .ref (gh G + l0) :: rest)) := r_callV (n := 2) X hP hS hls (c_X4_sizeOf hk_l0 hf) h1 (tb t_826 rfl) (tb t_827 rfl) (tb t_85 rfl) (tb t_828 rfl) (by decide +kernel) hR (r_recv X hP (kd_lt hk_l0 (by decide)) (cE_4 hk_l0) rfl) rfl rfl hW hd kk
/-! X2_addPage -/
theorem dX2_addPage_0 : decode cX2_addPage 0 = .ok (.aload_n 0, 1) := by decide +kernel
theorem dX2_addPage_1 : decode cX2_addPage 1 = .ok (.getfield 33, 3) := by decide +kernel
theorem dX2_addPage_4 : decode cX2_addPage 4 = .ok (.bipush 40, 2) := by decide +kernel
theorem dX2_addPage_6 : decode cX2_addPage 6 = .ok (.if_icmp .ge 78, 3) := by decide +kernel
theorem dX2_addPage_9 : decode cX2_addPage 9 = .ok (.aload_n 0, 1) := by decide +kernel
theorem dX2_addPage_10 : decode cX2_addPage 10 = .ok (.dup, 1) := by decide +kernel
theorem dX2_addPage_11 : decode cX2_addPage 11 = .ok (.getfield 46, 3) := by decide +kernel
theorem dX2_addPage_14 : decode cX2_addPage 14 = .ok (.iload 4, 2) := by decide +kernel
theorem dX2_addPage_16 : decode cX2_addPage 16 = .ok (.iload 5, 2) := by decide +kernel
theorem dX2_addPage_18 : decode cX2_addPage 18 = .ok (.iadd, 1) := by decide +kernel
theorem dX2_addPage_19 : decode cX2_addPage 19 = .ok (.iadd, 1) := by decide +kernel
theorem dX2_addPage_20 : decode cX2_addPage 20 = .ok (.putfield 46, 3) := by decide +kernel
theorem dX2_addPage_23 : decode cX2_addPage 23 = .ok (.aload_n 0, 1) := by decide +kernel
theorem dX2_addPage_24 : decode cX2_addPage 24 = .ok (.getfield 9, 3) := by decide +kernel
theorem dX2_addPage_27 : decode cX2_addPage 27 = .ok (.aload_n 0, 1) := by decide +kernel
theorem dX2_addPage_28 : decode cX2_addPage 28 = .ok (.getfield 33, 3) := by decide +kernel
theorem dX2_addPage_31 : decode cX2_addPage 31 = .ok (.iload_n 1, 1) := by decide +kernel
theorem dX2_addPage_32 : decode cX2_addPage 32 = .ok (.iastore, 1) := by decide +kernel
theorem dX2_addPage_33 : decode cX2_addPage 33 = .ok (.aload_n 0, 1) := by decide +kernel
theorem dX2_addPage_34 : decode cX2_addPage 34 = .ok (.getfield 15, 3) := by decide +kernel
theorem dX2_addPage_37 : decode cX2_addPage 37 = .ok (.aload_n 0, 1) := by decide +kernel
theorem dX2_addPage_38 : decode cX2_addPage 38 = .ok (.getfield 33, 3) := by decide +kernel
theorem dX2_addPage_41 : decode cX2_addPage 41 = .ok (.iload_n 2, 1) := by decide +kernel
theorem dX2_addPage_42 : decode cX2_addPage 42 = .ok (.iastore, 1) := by decide +kernel
theorem dX2_addPage_43 : decode cX2_addPage 43 = .ok (.aload_n 0, 1) := by decide +kernel
theorem dX2_addPage_44 : decode cX2_addPage 44 = .ok (.getfield 18, 3) := by decide +kernel
theorem dX2_addPage_47 : decode cX2_addPage 47 = .ok (.aload_n 0, 1) := by decide +kernel
theorem dX2_addPage_48 : decode cX2_addPage 48 = .ok (.getfield 33, 3) := by decide +kernel
theorem dX2_addPage_51 : decode cX2_addPage 51 = .ok (.iload_n 3, 1) := by decide +kernel
theorem dX2_addPage_52 : decode cX2_addPage 52 = .ok (.iastore, 1) := by decide +kernel
theorem dX2_addPage_53 : decode cX2_addPage 53 = .ok (.aload_n 0, 1) := by decide +kernel
theorem dX2_addPage_54 : decode cX2_addPage 54 = .ok (.getfield 24, 3) := by decide +kernel
theorem dX2_addPage_57 : decode cX2_addPage 57 = .ok (.aload_n 0, 1) := by decide +kernel
theorem dX2_addPage_58 : decode cX2_addPage 58 = .ok (.getfield 33, 3) := by decide +kernel
theorem dX2_addPage_61 : decode cX2_addPage 61 = .ok (.iload 4, 2) := by decide +kernel
theorem dX2_addPage_63 : decode cX2_addPage 63 = .ok (.iastore, 1) := by decide +kernel
theorem dX2_addPage_64 : decode cX2_addPage 64 = .ok (.aload_n 0, 1) := by decide +kernel
theorem dX2_addPage_65 : decode cX2_addPage 65 = .ok (.getfield 21, 3) := by decide +kernel
theorem dX2_addPage_68 : decode cX2_addPage 68 = .ok (.aload_n 0, 1) := by decide +kernel
theorem dX2_addPage_69 : decode cX2_addPage 69 = .ok (.getfield 33, 3) := by decide +kernel
theorem dX2_addPage_72 : decode cX2_addPage 72 = .ok (.iconst 0, 1) := by decide +kernel
theorem dX2_addPage_73 : decode cX2_addPage 73 = .ok (.iastore, 1) := by decide +kernel
theorem dX2_addPage_74 : decode cX2_addPage 74 = .ok (.aload_n 0, 1) := by decide +kernel
theorem dX2_addPage_75 : decode cX2_addPage 75 = .ok (.dup, 1) := by decide +kernel
theorem dX2_addPage_76 : decode cX2_addPage 76 = .ok (.getfield 33, 3) := by decide +kernel
theorem dX2_addPage_79 : decode cX2_addPage 79 = .ok (.iconst 1, 1) := by decide +kernel
theorem dX2_addPage_80 : decode cX2_addPage 80 = .ok (.iadd, 1) := by decide +kernel
theorem dX2_addPage_81 : decode cX2_addPage 81 = .ok (.putfield 33, 3) := by decide +kernel
theorem dX2_addPage_84 : decode cX2_addPage 84 = .ok (.return_, 1) := by decide +kernel
def X2_addPage (σ : Mem) (l0 : Nat) (l1 : Int) (l2 : Int) (l3 : Int) (l4 : Int) (l5 : Int) : Option (Mem) :=
  if w32 40 ≤ w32 (σ l0 0) then
    some σ
  else
  lt (st σ l0 4 ((σ l0 4) + (l4 + l5))) fun s1 =>
  ag 40 (s1 l0 0) fun j2 =>
  lt (st s1 (l0 + 1) j2 l1) fun s3 =>
  ag 40 (s3 l0 0) fun j4 =>
  lt (st s3 (l0 + 2) j4 l2) fun s5 =>
  ag 40 (s5 l0 0) fun j6 =>
  lt (st s5 (l0 + 3) j6 l3) fun s7 =>
  ag 40 (s7 l0 0) fun j8 =>
  lt (st s7 (l0 + 5) j8 l4) fun s9 =>
  ag 40 (s9 l0 0) fun j10 =>
  lt (st s9 (l0 + 4) j10 0) fun s11 =>
  lt (st s11 l0 0 ((s11 l0 0) + 1)) fun s12 =>
  some s12
def S_X2_addPage_0 (fn : Mem → Nat → Int → Int → Int → Int → Int → Option (Mem)) (p : Program) (l : Launch) (e : Env) (R : Room) (s : State) (m : MethodId) (args : Array Value) (below : List Frame) (meth : Method) (c : Code) (G : GT) (τ : Mem) : Prop := ∀ (σ : Mem) (H : Heap) (locs : List Loc) (ls : Array Slot) (l0 : Nat) (l1 : Int) (l2 : Int) (l3 : Int) (l4 : Int) (l5 : Int), kd l0 = 2 → PW G σ H → va_S (AA G) s.heap H locs → fn σ l0 l1 l2 l3 l4 l5 = some τ → lv_has ls 6 [(0, .ref (gh G + l0)), (1, .int (i32 l1)), (2, .int (i32 l2)), (3, .int (i32 l3)), (4, .int (i32 l4)), (5, .int (i32 l5))] → W p l e R s m args below meth c H locs 0 0 (MQ below (QM G none τ) args s 0 0 (AA G)) (F0 m 0 ls [])
set_option maxHeartbeats 4000000 in
theorem a_X2_addPage_0 {p : Program} {l : Launch} {e : Env} {R : Room} {s : State} {m : MethodId} {args : Array Value} {below : List Frame} {meth : Method} {c : Code} {G : GT} {τ : Mem} (X : CX p R s m args meth c cX2_addPage 6 RX2 none 1 60 G) : S_X2_addPage_0 (X2_addPage) p l e R s m args below meth c G τ := by
  intro σ H locs ls l0 l1 l2 l3 l4 l5 hk_l0 hP hS hf hl
  unfold X2_addPage at hf
  refine lv_aload_n X.1 X.2.1 dX2_addPage_0 rfl (lv_at hl 0 rfl) ?_
  refine g_2_0 X hP hk_l0 (tb t_339 rfl) dX2_addPage_1 ?_
  refine r_bipush X 40 (by decide) dX2_addPage_4 ?_
  refine r_icmp_ge (tgt := 84) X dX2_addPage_6 (by decide) (fun q => ?_) (fun q => ?_)
  · replace hf := it_inv q hf
    cases so_inv hf
    exact r_vret X hP hS dX2_addPage_84
  · replace hf := ie_inv q hf
    refine lv_aload_n X.1 X.2.1 dX2_addPage_9 rfl (lv_at hl 0 rfl) ?_
    refine lv_dup X.1 X.2.1 dX2_addPage_10 rfl ?_
    refine g_2_4 X hP hk_l0 (tb t_347 rfl) dX2_addPage_11 ?_
    refine lv_iload X.1 X.2.1 dX2_addPage_14 (lv_at hl 4 rfl) ?_
    refine lv_iload X.1 X.2.1 dX2_addPage_16 (lv_at hl 5 rfl) ?_
    refine r_iadd X dX2_addPage_18 ?_
    refine r_iadd X dX2_addPage_19 ?_
    refine p_2_4 X hP hS hk_l0 (tb t_347 rfl) dX2_addPage_20 (fun H locs hP hS => ?_)
    obtain ⟨s1, es1, hf⟩ := lt_inv hf
    rw [es1] at hP
    refine lv_aload_n X.1 X.2.1 dX2_addPage_23 rfl (lv_at hl 0 rfl) ?_
    refine g_2_6 (r := l0 + 1) X hP hk_l0 rfl (tb t_351 rfl) dX2_addPage_24 ?_
    refine lv_aload_n X.1 X.2.1 dX2_addPage_27 rfl (lv_at hl 0 rfl) ?_
    refine g_2_0 X hP hk_l0 (tb t_339 rfl) dX2_addPage_28 ?_
    refine lv_iload_n X.1 X.2.1 dX2_addPage_31 rfl (lv_at hl 1 rfl) ?_
    obtain ⟨j2, hij2, hjj2, hlj2, hf⟩ := ag_inv hf
    refine r_iast X hP hS (ch_2_6 hk_l0).1 (ch_2_6 hk_l0).2 hij2 hjj2 dX2_addPage_32 (fun H locs hP hS => ?_)
    obtain ⟨s3, es3, hf⟩ := lt_inv hf
    rw [es3] at hP
    refine lv_aload_n X.1 X.2.1 dX2_addPage_33 rfl (lv_at hl 0 rfl) ?_
    refine g_2_7 (r := l0 + 2) X hP hk_l0 rfl (tb t_352 rfl) dX2_addPage_34 ?_
    refine lv_aload_n X.1 X.2.1 dX2_addPage_37 rfl (lv_at hl 0 rfl) ?_
    refine g_2_0 X hP hk_l0 (tb t_339 rfl) dX2_addPage_38 ?_
    refine lv_iload_n X.1 X.2.1 dX2_addPage_41 rfl (lv_at hl 2 rfl) ?_
    obtain ⟨j4, hij4, hjj4, hlj4, hf⟩ := ag_inv hf
    refine r_iast X hP hS (ch_2_7 hk_l0).1 (ch_2_7 hk_l0).2 hij4 hjj4 dX2_addPage_42 (fun H locs hP hS => ?_)
    obtain ⟨s5, es5, hf⟩ := lt_inv hf
    rw [es5] at hP
    refine lv_aload_n X.1 X.2.1 dX2_addPage_43 rfl (lv_at hl 0 rfl) ?_
    refine g_2_8 (r := l0 + 3) X hP hk_l0 rfl (tb t_354 rfl) dX2_addPage_44 ?_
    refine lv_aload_n X.1 X.2.1 dX2_addPage_47 rfl (lv_at hl 0 rfl) ?_
    refine g_2_0 X hP hk_l0 (tb t_339 rfl) dX2_addPage_48 ?_
    refine lv_iload_n X.1 X.2.1 dX2_addPage_51 rfl (lv_at hl 3 rfl) ?_
    obtain ⟨j6, hij6, hjj6, hlj6, hf⟩ := ag_inv hf
    refine r_iast X hP hS (ch_2_8 hk_l0).1 (ch_2_8 hk_l0).2 hij6 hjj6 dX2_addPage_52 (fun H locs hP hS => ?_)
    obtain ⟨s7, es7, hf⟩ := lt_inv hf
    rw [es7] at hP
    refine lv_aload_n X.1 X.2.1 dX2_addPage_53 rfl (lv_at hl 0 rfl) ?_
    refine g_2_10 (r := l0 + 5) X hP hk_l0 rfl (tb t_356 rfl) dX2_addPage_54 ?_
    refine lv_aload_n X.1 X.2.1 dX2_addPage_57 rfl (lv_at hl 0 rfl) ?_
    refine g_2_0 X hP hk_l0 (tb t_339 rfl) dX2_addPage_58 ?_
    refine lv_iload X.1 X.2.1 dX2_addPage_61 (lv_at hl 4 rfl) ?_
    obtain ⟨j8, hij8, hjj8, hlj8, hf⟩ := ag_inv hf
    refine r_iast X hP hS (ch_2_10 hk_l0).1 (ch_2_10 hk_l0).2 hij8 hjj8 dX2_addPage_63 (fun H locs hP hS => ?_)
    obtain ⟨s9, es9, hf⟩ := lt_inv hf
    rw [es9] at hP
    refine lv_aload_n X.1 X.2.1 dX2_addPage_64 rfl (lv_at hl 0 rfl) ?_
    refine g_2_9 (r := l0 + 4) X hP hk_l0 rfl (tb t_355 rfl) dX2_addPage_65 ?_
    refine lv_aload_n X.1 X.2.1 dX2_addPage_68 rfl (lv_at hl 0 rfl) ?_
    refine g_2_0 X hP hk_l0 (tb t_339 rfl) dX2_addPage_69 ?_
    refine r_iconst X 0 dX2_addPage_72 ?_
    obtain ⟨j10, hij10, hjj10, hlj10, hf⟩ := ag_inv hf
    refine r_iast X hP hS (ch_2_9 hk_l0).1 (ch_2_9 hk_l0).2 hij10 hjj10 dX2_addPage_73 (fun H locs hP hS => ?_)
    obtain ⟨s11, es11, hf⟩ := lt_inv hf
    rw [es11] at hP
    refine lv_aload_n X.1 X.2.1 dX2_addPage_74 rfl (lv_at hl 0 rfl) ?_
    refine lv_dup X.1 X.2.1 dX2_addPage_75 rfl ?_
    refine g_2_0 X hP hk_l0 (tb t_339 rfl) dX2_addPage_76 ?_
    refine r_iconst X 1 dX2_addPage_79 ?_
    refine r_iadd X dX2_addPage_80 ?_
    refine p_2_0 X hP hS hk_l0 (tb t_339 rfl) dX2_addPage_81 (fun H locs hP hS => ?_)
    obtain ⟨s12, es12, hf⟩ := lt_inv hf
    rw [es12] at hP
    cases so_inv hf
    exact r_vret X hP hS dX2_addPage_84
set_option maxHeartbeats 4000000 in
theorem c_X2_addPage {l : Launch} {G : GT} {σ τ : Mem} {l0 : Nat} {l1 : Int} {l2 : Int} {l3 : Int} {l4 : Int} {l5 : Int} (hk_l0 : kd l0 = 2) (hf : X2_addPage σ l0 l1 l2 l3 l4 l5 = some τ) : CT l yX2_addPage cX2_addPage 6 none 1 60 G [.ref (gh G + l0), .int (i32 l1), .int (i32 l2), .int (i32 l3), .int (i32 l4), .int (i32 l5)] σ τ none := by
  refine CT.mk (own := RX2) (by decide) rfl (Nat.le_of_ble_eq_true rfl) ?_
  intro p e s m below meth c ls X hP hS hl
  have hl : lv_has ls 6 [(0, .ref (gh G + l0)), (1, .int (i32 l1)), (2, .int (i32 l2)), (3, .int (i32 l3)), (4, .int (i32 l4)), (5, .int (i32 l5))] := hl
  exact a_X2_addPage_0 X σ s.heap [] ls l0 l1 l2 l3 l4 l5 hk_l0 hP hS hf hl
theorem k_X2_addPage {p : Program} {l : Launch} {e : Env} {R : Room} {s : State} {m : MethodId} {args : Array Value} {below : List Frame} {meth : Method} {c : Code} {H : Heap} {locs : List Loc} {Q : State → Prop} {cc : ByteArray} {nL : Nat} {own : String} {ret : Option FieldType} {fF fL : Nat} {G : GT} {pc idx : Nat} {ls : Array Slot} {rest : List Value} {σ τ : Mem} {l0 : Nat} {l1 : Int} {l2 : Int} {l3 : Int} {l4 : Int} {l5 : Int} (X : CX p R s m args meth c cc nL own ret fF fL G) (hP : PW G σ H) (hS : va_S (AA G) s.heap H locs) (hls : ls.size = nL) (hk_l0 : kd l0 = 2) (hf : X2_addPage σ l0 l1 l2 l3 l4 l5 = some τ) (h1 : Cond.methodLink own idx yX2_addPage ∈ TB) (hR : 1 + 1 ≤ fF ∧ 8 + (6 + 11) + 60 ≤ fL) (hW : (rest.map fun v => v.category).sum ≤ 8) (hd : decode cc pc = .ok (.invokevirtual idx, 3)) (kk : ∀ (H1 : Heap) (locs1 : List Loc), PW G τ H1 → va_S (AA G) s.heap H1 locs1 → W p l e R s m args below meth c H1 locs1 0 0 Q (F0 m (pc + 3) ls (rest))) : W p l e R s m args below meth c H locs 0 0 Q (F0 m pc ls (.int (i32 l5) :: .int (i32 l4) :: .int (i32 l3) :: .int (i32 l2) :: .int (i32 l1) :: .ref (gh G + l0) :: rest)) := r_callV (n := 5) X hP hS hls (c_X2_addPage hk_l0 hf) h1 (tb t_830 rfl) (tb t_831 rfl) (tb t_86 rfl) (tb t_832 rfl) (by decide +kernel) hR (r_recv X hP (kd_lt hk_l0 (by decide)) (cE_2 hk_l0) rfl) rfl rfl hW hd kk
/-! X1_turnOf -/
theorem dX1_turnOf_0 : decode cX1_turnOf 0 = .ok (.iload_n 3, 1) := by decide +kernel
theorem dX1_turnOf_1 : decode cX1_turnOf 1 = .ok (.aload_n 1, 1) := by decide +kernel
theorem dX1_turnOf_2 : decode cX1_turnOf 2 = .ok (.getfield 57, 3) := by decide +kernel
theorem dX1_turnOf_5 : decode cX1_turnOf 5 = .ok (.iconst 1, 1) := by decide +kernel
theorem dX1_turnOf_6 : decode cX1_turnOf 6 = .ok (.isub, 1) := by decide +kernel
theorem dX1_turnOf_7 : decode cX1_turnOf 7 = .ok (.if_icmp .eq 14, 3) := by decide +kernel
theorem dX1_turnOf_10 : decode cX1_turnOf 10 = .ok (.aload_n 0, 1) := by decide +kernel
theorem dX1_turnOf_11 : decode cX1_turnOf 11 = .ok (.getfield 74, 3) := by decide +kernel
theorem dX1_turnOf_14 : decode cX1_turnOf 14 = .ok (.iload_n 2, 1) := by decide +kernel
theorem dX1_turnOf_15 : decode cX1_turnOf 15 = .ok (.ishr, 1) := by decide +kernel
theorem dX1_turnOf_16 : decode cX1_turnOf 16 = .ok (.iconst 1, 1) := by decide +kernel
theorem dX1_turnOf_17 : decode cX1_turnOf 17 = .ok (.iand, 1) := by decide +kernel
theorem dX1_turnOf_18 : decode cX1_turnOf 18 = .ok (.ifCond .ne 5, 3) := by decide +kernel
theorem dX1_turnOf_21 : decode cX1_turnOf 21 = .ok (.iconst 0, 1) := by decide +kernel
theorem dX1_turnOf_22 : decode cX1_turnOf 22 = .ok (.ireturn, 1) := by decide +kernel
theorem dX1_turnOf_23 : decode cX1_turnOf 23 = .ok (.aload_n 0, 1) := by decide +kernel
theorem dX1_turnOf_24 : decode cX1_turnOf 24 = .ok (.getfield 18, 3) := by decide +kernel
theorem dX1_turnOf_27 : decode cX1_turnOf 27 = .ok (.iload_n 3, 1) := by decide +kernel
theorem dX1_turnOf_28 : decode cX1_turnOf 28 = .ok (.iaload, 1) := by decide +kernel
theorem dX1_turnOf_29 : decode cX1_turnOf 29 = .ok (.aload_n 0, 1) := by decide +kernel
theorem dX1_turnOf_30 : decode cX1_turnOf 30 = .ok (.getfield 77, 3) := by decide +kernel
theorem dX1_turnOf_33 : decode cX1_turnOf 33 = .ok (.if_icmp .lt 7, 3) := by decide +kernel
theorem dX1_turnOf_36 : decode cX1_turnOf 36 = .ok (.iconst 1, 1) := by decide +kernel
theorem dX1_turnOf_37 : decode cX1_turnOf 37 = .ok (.goto 4, 3) := by decide +kernel
theorem dX1_turnOf_40 : decode cX1_turnOf 40 = .ok (.iconst 2, 1) := by decide +kernel
theorem dX1_turnOf_41 : decode cX1_turnOf 41 = .ok (.ireturn, 1) := by decide +kernel
def X1_turnOf (σ : Mem) (l1 : Nat) (l2 : Int) (l3 : Int) : Option (Int) :=
  if w32 l3 = w32 ((σ l1 1) - 1) then
    some 0
  else
  if w32 (ian (isr (σ 53 5) l2) 1) ≠ 0 then
    ag 40 l3 fun j1 =>
    if w32 (σ 58 j1) < w32 (σ 53 6) then
      some 2
    else
    some 1
  else
  some 0
def S_X1_turnOf_0 (fn : Nat → Int → Int → Option (Int)) (p : Program) (l : Launch) (e : Env) (R : Room) (s : State) (m : MethodId) (args : Array Value) (below : List Frame) (meth : Method) (c : Code) (G : GT) (σ : Mem) (res : Int) : Prop := ∀ (H : Heap) (locs : List Loc) (ls : Array Slot) (l1 : Nat) (l2 : Int) (l3 : Int), kd l1 = 4 → PW G σ H → va_S (AA G) s.heap H locs → fn l1 l2 l3 = some res → lv_has ls 4 [(0, .ref (gh G + 53)), (1, .ref (gh G + l1)), (2, .int (i32 l2)), (3, .int (i32 l3))] → W p l e R s m args below meth c H locs 0 0 (MQ below (QM G (some (.int (i32 res))) σ) args s 0 0 (AA G)) (F0 m 0 ls [])
set_option maxHeartbeats 4000000 in
theorem a_X1_turnOf_0 {p : Program} {l : Launch} {e : Env} {R : Room} {s : State} {m : MethodId} {args : Array Value} {below : List Frame} {meth : Method} {c : Code} {G : GT} {σ : Mem} {res : Int} (X : CX p R s m args meth c cX1_turnOf 4 RX1 (some FieldType.int) 1 60 G) : S_X1_turnOf_0 (X1_turnOf σ) p l e R s m args below meth c G σ res := by
  intro H locs ls l1 l2 l3 hk_l1 hP hS hf hl
  unfold X1_turnOf at hf
  refine lv_iload_n X.1 X.2.1 dX1_turnOf_0 rfl (lv_at hl 3 rfl) ?_
  refine lv_aload_n X.1 X.2.1 dX1_turnOf_1 rfl (lv_at hl 1 rfl) ?_
  refine g_4_1 X hP hk_l1 (tb t_324 rfl) dX1_turnOf_2 ?_
  refine r_iconst X 1 dX1_turnOf_5 ?_
  refine r_isub X dX1_turnOf_6 ?_
  refine r_icmp_eq (tgt := 21) X dX1_turnOf_7 (by decide) (fun q => ?_) (fun q => ?_)
  · replace hf := it_inv q hf
    refine r_iconst X 0 dX1_turnOf_21 ?_
    cases so_inv hf
    exact r_iret X hP hS dX1_turnOf_22
  · replace hf := ie_inv q hf
    refine lv_aload_n X.1 X.2.1 dX1_turnOf_10 rfl (lv_at hl 0 rfl) ?_
    refine g_1_5 X hP ks_1 (tb t_278 rfl) dX1_turnOf_11 ?_
    refine lv_iload_n X.1 X.2.1 dX1_turnOf_14 rfl (lv_at hl 2 rfl) ?_
    refine r_ishr X dX1_turnOf_15 ?_
    refine r_iconst X 1 dX1_turnOf_16 ?_
    refine r_iand X dX1_turnOf_17 ?_
    refine r_if_ne (tgt := 23) X dX1_turnOf_18 (by decide) (fun q => ?_) (fun q => ?_)
    · replace hf := it_inv q hf
      refine lv_aload_n X.1 X.2.1 dX1_turnOf_23 rfl (lv_at hl 0 rfl) ?_
      refine g_1_1 (r := 58) X hP ks_1 rfl (tb t_274 rfl) dX1_turnOf_24 ?_
      refine lv_iload_n X.1 X.2.1 dX1_turnOf_27 rfl (lv_at hl 3 rfl) ?_
      obtain ⟨j1, hij1, hjj1, hlj1, hf⟩ := ag_inv hf
      refine r_iald X hP (ch_1_1 ks_1).1 (ch_1_1 ks_1).2 hij1 hjj1 dX1_turnOf_28 ?_
      refine lv_aload_n X.1 X.2.1 dX1_turnOf_29 rfl (lv_at hl 0 rfl) ?_
      refine g_1_6 X hP ks_1 (tb t_279 rfl) dX1_turnOf_30 ?_
      refine r_icmp_lt (tgt := 40) X dX1_turnOf_33 (by decide) (fun q => ?_) (fun q => ?_)
      · replace hf := it_inv q hf
        refine r_iconst X 2 dX1_turnOf_40 ?_
        cases so_inv hf
        exact r_iret X hP hS dX1_turnOf_41
      · replace hf := ie_inv q hf
        refine r_iconst X 1 dX1_turnOf_36 ?_
        refine lv_goto (tgt := 41) X.1 X.2.1 dX1_turnOf_37 (by decide) ?_
        cases so_inv hf
        exact r_iret X hP hS dX1_turnOf_41
    · replace hf := ie_inv q hf
      refine r_iconst X 0 dX1_turnOf_21 ?_
      cases so_inv hf
      exact r_iret X hP hS dX1_turnOf_22
set_option maxHeartbeats 4000000 in
theorem c_X1_turnOf {l : Launch} {G : GT} {σ : Mem} {res : Int} {l1 : Nat} {l2 : Int} {l3 : Int} (hk_l1 : kd l1 = 4) (hf : X1_turnOf σ l1 l2 l3 = some res) : CT l yX1_turnOf cX1_turnOf 4 (some FieldType.int) 1 60 G [.ref (gh G + 53), .ref (gh G + l1), .int (i32 l2), .int (i32 l3)] σ σ (some (.int (i32 res))) := by
  refine CT.mk (own := RX1) (by decide) rfl (Nat.le_of_ble_eq_true rfl) ?_
  intro p e s m below meth c ls X hP hS hl
  have hl : lv_has ls 4 [(0, .ref (gh G + 53)), (1, .ref (gh G + l1)), (2, .int (i32 l2)), (3, .int (i32 l3))] := hl
  exact a_X1_turnOf_0 X  s.heap [] ls l1 l2 l3 hk_l1 hP hS hf hl
theorem k_X1_turnOf {p : Program} {l : Launch} {e : Env} {R : Room} {s : State} {m : MethodId} {args : Array Value} {below : List Frame} {meth : Method} {c : Code} {H : Heap} {locs : List Loc} {Q : State → Prop} {cc : ByteArray} {nL : Nat} {own : String} {ret : Option FieldType} {fF fL : Nat} {G : GT} {pc idx : Nat} {ls : Array Slot} {rest : List Value} {σ : Mem} {res : Int} {l1 : Nat} {l2 : Int} {l3 : Int} (X : CX p R s m args meth c cc nL own ret fF fL G) (hP : PW G σ H) (hS : va_S (AA G) s.heap H locs) (hls : ls.size = nL) (hk_l1 : kd l1 = 4) (hf : X1_turnOf σ l1 l2 l3 = some res) (h1 : Cond.methodLink own idx yX1_turnOf ∈ TB) (hR : 1 + 1 ≤ fF ∧ 8 + (4 + 11) + 60 ≤ fL) (hW : (rest.map fun v => v.category).sum ≤ 8) (hd : decode cc pc = .ok (.invokevirtual idx, 3)) (kk : ∀ (H1 : Heap) (locs1 : List Loc), PW G σ H1 → va_S (AA G) s.heap H1 locs1 → W p l e R s m args below meth c H1 locs1 0 0 Q (F0 m (pc + 3) ls (.int (i32 res) :: rest))) : W p l e R s m args below meth c H locs 0 0 Q (F0 m pc ls (.int (i32 l3) :: .int (i32 l2) :: .ref (gh G + l1) :: .ref (gh G + 53) :: rest)) := r_callV (n := 3) X hP hS hls (c_X1_turnOf hk_l1 hf) h1 (tb t_835 rfl) (tb t_28 rfl) (tb t_82 rfl) (tb t_836 rfl) (by decide +kernel) hR (r_recv X hP (kd_lt ks_1 (by decide)) (cE_1 ks_1) rfl) rfl rfl hW hd kk
/-! X2_addTurn -/
theorem dX2_addTurn_0 : decode cX2_addTurn 0 = .ok (.aload_n 0, 1) := by decide +kernel
theorem dX2_addTurn_1 : decode cX2_addTurn 1 = .ok (.getfield 30, 3) := by decide +kernel
theorem dX2_addTurn_4 : decode cX2_addTurn 4 = .ok (.iload_n 1, 1) := by decide +kernel
theorem dX2_addTurn_5 : decode cX2_addTurn 5 = .ok (.iload_n 2, 1) := by decide +kernel
theorem dX2_addTurn_6 : decode cX2_addTurn 6 = .ok (.iastore, 1) := by decide +kernel
theorem dX2_addTurn_7 : decode cX2_addTurn 7 = .ok (.iload_n 2, 1) := by decide +kernel
theorem dX2_addTurn_8 : decode cX2_addTurn 8 = .ok (.ifCond .eq 13, 3) := by decide +kernel
theorem dX2_addTurn_11 : decode cX2_addTurn 11 = .ok (.aload_n 0, 1) := by decide +kernel
theorem dX2_addTurn_12 : decode cX2_addTurn 12 = .ok (.dup, 1) := by decide +kernel
theorem dX2_addTurn_13 : decode cX2_addTurn 13 = .ok (.getfield 43, 3) := by decide +kernel
theorem dX2_addTurn_16 : decode cX2_addTurn 16 = .ok (.iconst 1, 1) := by decide +kernel
theorem dX2_addTurn_17 : decode cX2_addTurn 17 = .ok (.iadd, 1) := by decide +kernel
theorem dX2_addTurn_18 : decode cX2_addTurn 18 = .ok (.putfield 43, 3) := by decide +kernel
theorem dX2_addTurn_21 : decode cX2_addTurn 21 = .ok (.iload_n 2, 1) := by decide +kernel
theorem dX2_addTurn_22 : decode cX2_addTurn 22 = .ok (.iconst 2, 1) := by decide +kernel
theorem dX2_addTurn_23 : decode cX2_addTurn 23 = .ok (.if_icmp .ne 13, 3) := by decide +kernel
theorem dX2_addTurn_26 : decode cX2_addTurn 26 = .ok (.aload_n 0, 1) := by decide +kernel
theorem dX2_addTurn_27 : decode cX2_addTurn 27 = .ok (.dup, 1) := by decide +kernel
theorem dX2_addTurn_28 : decode cX2_addTurn 28 = .ok (.getfield 40, 3) := by decide +kernel
theorem dX2_addTurn_31 : decode cX2_addTurn 31 = .ok (.iconst 1, 1) := by decide +kernel
theorem dX2_addTurn_32 : decode cX2_addTurn 32 = .ok (.iadd, 1) := by decide +kernel
theorem dX2_addTurn_33 : decode cX2_addTurn 33 = .ok (.putfield 40, 3) := by decide +kernel
theorem dX2_addTurn_36 : decode cX2_addTurn 36 = .ok (.return_, 1) := by decide +kernel
def X2_addTurn_B21 (σ : Mem) (l0 : Nat) (l2 : Int) : Option (Mem) :=
  if w32 l2 ≠ w32 2 then
    some σ
  else
  lt (st σ l0 2 ((σ l0 2) + 1)) fun s1 =>
  some s1
def S_X2_addTurn_21 (fn : Mem → Nat → Int → Option (Mem)) (p : Program) (l : Launch) (e : Env) (R : Room) (s : State) (m : MethodId) (args : Array Value) (below : List Frame) (meth : Method) (c : Code) (G : GT) (τ : Mem) : Prop := ∀ (σ : Mem) (H : Heap) (locs : List Loc) (ls : Array Slot) (l0 : Nat) (l2 : Int), kd l0 = 2 → PW G σ H → va_S (AA G) s.heap H locs → fn σ l0 l2 = some τ → lv_has ls 3 [(0, .ref (gh G + l0)), (2, .int (i32 l2))] → W p l e R s m args below meth c H locs 0 0 (MQ below (QM G none τ) args s 0 0 (AA G)) (F0 m 21 ls [])
def X2_addTurn (σ : Mem) (l0 : Nat) (l1 : Int) (l2 : Int) : Option (Mem) :=
  ag 40 l1 fun j1 =>
  lt (st σ (l0 + 7) j1 l2) fun s2 =>
  if w32 l2 = 0 then
    X2_addTurn_B21 s2 l0 l2
  else
  lt (st s2 l0 3 ((s2 l0 3) + 1)) fun s3 =>
  X2_addTurn_B21 s3 l0 l2
def S_X2_addTurn_0 (fn : Mem → Nat → Int → Int → Option (Mem)) (p : Program) (l : Launch) (e : Env) (R : Room) (s : State) (m : MethodId) (args : Array Value) (below : List Frame) (meth : Method) (c : Code) (G : GT) (τ : Mem) : Prop := ∀ (σ : Mem) (H : Heap) (locs : List Loc) (ls : Array Slot) (l0 : Nat) (l1 : Int) (l2 : Int), kd l0 = 2 → PW G σ H → va_S (AA G) s.heap H locs → fn σ l0 l1 l2 = some τ → lv_has ls 3 [(0, .ref (gh G + l0)), (1, .int (i32 l1)), (2, .int (i32 l2))] → W p l e R s m args below meth c H locs 0 0 (MQ below (QM G none τ) args s 0 0 (AA G)) (F0 m 0 ls [])
set_option maxHeartbeats 4000000 in
theorem a_X2_addTurn_21 {p : Program} {l : Launch} {e : Env} {R : Room} {s : State} {m : MethodId} {args : Array Value} {below : List Frame} {meth : Method} {c : Code} {G : GT} {τ : Mem} (X : CX p R s m args meth c cX2_addTurn 3 RX2 none 1 60 G) : S_X2_addTurn_21 (X2_addTurn_B21) p l e R s m args below meth c G τ := by
  intro σ H locs ls l0 l2 hk_l0 hP hS hf hl
  unfold X2_addTurn_B21 at hf
  refine lv_iload_n X.1 X.2.1 dX2_addTurn_21 rfl (lv_at hl 1 rfl) ?_
  refine r_iconst X 2 dX2_addTurn_22 ?_
  refine r_icmp_ne (tgt := 36) X dX2_addTurn_23 (by decide) (fun q => ?_) (fun q => ?_)
  · replace hf := it_inv q hf
    cases so_inv hf
    exact r_vret X hP hS dX2_addTurn_36
  · replace hf := ie_inv q hf
    refine lv_aload_n X.1 X.2.1 dX2_addTurn_26 rfl (lv_at hl 0 rfl) ?_
    refine lv_dup X.1 X.2.1 dX2_addTurn_27 rfl ?_
    refine g_2_2 X hP hk_l0 (tb t_343 rfl) dX2_addTurn_28 ?_
    refine r_iconst X 1 dX2_addTurn_31 ?_
    refine r_iadd X dX2_addTurn_32 ?_
    refine p_2_2 X hP hS hk_l0 (tb t_343 rfl) dX2_addTurn_33 (fun H locs hP hS => ?_)
    obtain ⟨s1, es1, hf⟩ := lt_inv hf
    rw [es1] at hP
    cases so_inv hf
    exact r_vret X hP hS dX2_addTurn_36
set_option maxHeartbeats 4000000 in
theorem a_X2_addTurn_0 {p : Program} {l : Launch} {e : Env} {R : Room} {s : State} {m : MethodId} {args : Array Value} {below : List Frame} {meth : Method} {c : Code} {G : GT} {τ : Mem} (X : CX p R s m args meth c cX2_addTurn 3 RX2 none 1 60 G) : S_X2_addTurn_0 (X2_addTurn) p l e R s m args below meth c G τ := by
  intro σ H locs ls l0 l1 l2 hk_l0 hP hS hf hl
  unfold X2_addTurn at hf
  refine lv_aload_n X.1 X.2.1 dX2_addTurn_0 rfl (lv_at hl 0 rfl) ?_
  refine g_2_12 (r := l0 + 7) X hP hk_l0 rfl (tb t_359 rfl) dX2_addTurn_1 ?_
  refine lv_iload_n X.1 X.2.1 dX2_addTurn_4 rfl (lv_at hl 1 rfl) ?_
  refine lv_iload_n X.1 X.2.1 dX2_addTurn_5 rfl (lv_at hl 2 rfl) ?_
  obtain ⟨j1, hij1, hjj1, hlj1, hf⟩ := ag_inv hf
  refine r_iast X hP hS (ch_2_12 hk_l0).1 (ch_2_12 hk_l0).2 hij1 hjj1 dX2_addTurn_6 (fun H locs hP hS => ?_)
  obtain ⟨s2, es2, hf⟩ := lt_inv hf
  rw [es2] at hP
  refine lv_iload_n X.1 X.2.1 dX2_addTurn_7 rfl (lv_at hl 2 rfl) ?_
  refine r_if_eq (tgt := 21) X dX2_addTurn_8 (by decide) (fun q => ?_) (fun q => ?_)
  · replace hf := it_inv q hf
    exact a_X2_addTurn_21 X s2 H locs ls l0 l2 hk_l0 hP hS hf (lv_sub hl [0, 2] rfl)
  · replace hf := ie_inv q hf
    refine lv_aload_n X.1 X.2.1 dX2_addTurn_11 rfl (lv_at hl 0 rfl) ?_
    refine lv_dup X.1 X.2.1 dX2_addTurn_12 rfl ?_
    refine g_2_3 X hP hk_l0 (tb t_345 rfl) dX2_addTurn_13 ?_
    refine r_iconst X 1 dX2_addTurn_16 ?_
    refine r_iadd X dX2_addTurn_17 ?_
    refine p_2_3 X hP hS hk_l0 (tb t_345 rfl) dX2_addTurn_18 (fun H locs hP hS => ?_)
    obtain ⟨s3, es3, hf⟩ := lt_inv hf
    rw [es3] at hP
    exact a_X2_addTurn_21 X s3 H locs ls l0 l2 hk_l0 hP hS hf (lv_sub hl [0, 2] rfl)
set_option maxHeartbeats 4000000 in
theorem c_X2_addTurn {l : Launch} {G : GT} {σ τ : Mem} {l0 : Nat} {l1 : Int} {l2 : Int} (hk_l0 : kd l0 = 2) (hf : X2_addTurn σ l0 l1 l2 = some τ) : CT l yX2_addTurn cX2_addTurn 3 none 1 60 G [.ref (gh G + l0), .int (i32 l1), .int (i32 l2)] σ τ none := by
  refine CT.mk (own := RX2) (by decide) rfl (Nat.le_of_ble_eq_true rfl) ?_
  intro p e s m below meth c ls X hP hS hl
  have hl : lv_has ls 3 [(0, .ref (gh G + l0)), (1, .int (i32 l1)), (2, .int (i32 l2))] := hl
  exact a_X2_addTurn_0 X σ s.heap [] ls l0 l1 l2 hk_l0 hP hS hf hl
theorem k_X2_addTurn {p : Program} {l : Launch} {e : Env} {R : Room} {s : State} {m : MethodId} {args : Array Value} {below : List Frame} {meth : Method} {c : Code} {H : Heap} {locs : List Loc} {Q : State → Prop} {cc : ByteArray} {nL : Nat} {own : String} {ret : Option FieldType} {fF fL : Nat} {G : GT} {pc idx : Nat} {ls : Array Slot} {rest : List Value} {σ τ : Mem} {l0 : Nat} {l1 : Int} {l2 : Int} (X : CX p R s m args meth c cc nL own ret fF fL G) (hP : PW G σ H) (hS : va_S (AA G) s.heap H locs) (hls : ls.size = nL) (hk_l0 : kd l0 = 2) (hf : X2_addTurn σ l0 l1 l2 = some τ) (h1 : Cond.methodLink own idx yX2_addTurn ∈ TB) (hR : 1 + 1 ≤ fF ∧ 8 + (3 + 11) + 60 ≤ fL) (hW : (rest.map fun v => v.category).sum ≤ 8) (hd : decode cc pc = .ok (.invokevirtual idx, 3)) (kk : ∀ (H1 : Heap) (locs1 : List Loc), PW G τ H1 → va_S (AA G) s.heap H1 locs1 → W p l e R s m args below meth c H1 locs1 0 0 Q (F0 m (pc + 3) ls (rest))) : W p l e R s m args below meth c H locs 0 0 Q (F0 m pc ls (.int (i32 l2) :: .int (i32 l1) :: .ref (gh G + l0) :: rest)) := r_callV (n := 2) X hP hS hls (c_X2_addTurn hk_l0 hf) h1 (tb t_838 rfl) (tb t_839 rfl) (tb t_86 rfl) (tb t_840 rfl) (by decide +kernel) hR (r_recv X hP (kd_lt hk_l0 (by decide)) (cE_2 hk_l0) rfl) rfl rfl hW hd kk
/-! X3_costOf -/
theorem dX3_costOf_0 : decode cX3_costOf 0 = .ok (.aload_n 0, 1) := by decide +kernel
theorem dX3_costOf_1 : decode cX3_costOf 1 = .ok (.getfield 9, 3) := by decide +kernel
theorem dX3_costOf_4 : decode cX3_costOf 4 = .ok (.iload_n 1, 1) := by decide +kernel
theorem dX3_costOf_5 : decode cX3_costOf 5 = .ok (.bipush 40, 2) := by decide +kernel
theorem dX3_costOf_7 : decode cX3_costOf 7 = .ok (.imul, 1) := by decide +kernel
theorem dX3_costOf_8 : decode cX3_costOf 8 = .ok (.iload_n 2, 1) := by decide +kernel
theorem dX3_costOf_9 : decode cX3_costOf 9 = .ok (.iadd, 1) := by decide +kernel
theorem dX3_costOf_10 : decode cX3_costOf 10 = .ok (.iaload, 1) := by decide +kernel
theorem dX3_costOf_11 : decode cX3_costOf 11 = .ok (.ireturn, 1) := by decide +kernel
def X3_costOf (σ : Mem) (l1 : Int) (l2 : Int) : Option (Int) :=
  ag 1600 ((l1 * 40) + l2) fun j1 =>
  some (σ 55 j1)
def S_X3_costOf_0 (fn : Int → Int → Option (Int)) (p : Program) (l : Launch) (e : Env) (R : Room) (s : State) (m : MethodId) (args : Array Value) (below : List Frame) (meth : Method) (c : Code) (G : GT) (σ : Mem) (res : Int) : Prop := ∀ (H : Heap) (locs : List Loc) (ls : Array Slot) (l1 : Int) (l2 : Int), PW G σ H → va_S (AA G) s.heap H locs → fn l1 l2 = some res → lv_has ls 3 [(0, .ref (gh G + 54)), (1, .int (i32 l1)), (2, .int (i32 l2))] → W p l e R s m args below meth c H locs 0 0 (MQ below (QM G (some (.int (i32 res))) σ) args s 0 0 (AA G)) (F0 m 0 ls [])
set_option maxHeartbeats 4000000 in
theorem a_X3_costOf_0 {p : Program} {l : Launch} {e : Env} {R : Room} {s : State} {m : MethodId} {args : Array Value} {below : List Frame} {meth : Method} {c : Code} {G : GT} {σ : Mem} {res : Int} (X : CX p R s m args meth c cX3_costOf 3 RX3 (some FieldType.int) 1 60 G) : S_X3_costOf_0 (X3_costOf σ) p l e R s m args below meth c G σ res := by
  intro H locs ls l1 l2 hP hS hf hl
  unfold X3_costOf at hf
  refine lv_aload_n X.1 X.2.1 dX3_costOf_0 rfl (lv_at hl 0 rfl) ?_
  refine g_3_0 (r := 55) X hP ks_3 rfl (tb t_262 rfl) dX3_costOf_1 ?_
  refine lv_iload_n X.1 X.2.1 dX3_costOf_4 rfl (lv_at hl 1 rfl) ?_
  refine r_bipush X 40 (by decide) dX3_costOf_5 ?_
  refine r_imul X dX3_costOf_7 ?_
  refine lv_iload_n X.1 X.2.1 dX3_costOf_8 rfl (lv_at hl 2 rfl) ?_
  refine r_iadd X dX3_costOf_9 ?_
  obtain ⟨j1, hij1, hjj1, hlj1, hf⟩ := ag_inv hf
  refine r_iald X hP (ch_3_0 ks_3).1 (ch_3_0 ks_3).2 hij1 hjj1 dX3_costOf_10 ?_
  cases so_inv hf
  exact r_iret X hP hS dX3_costOf_11
set_option maxHeartbeats 4000000 in
theorem c_X3_costOf {l : Launch} {G : GT} {σ : Mem} {res : Int} {l1 : Int} {l2 : Int} (hf : X3_costOf σ l1 l2 = some res) : CT l yX3_costOf cX3_costOf 3 (some FieldType.int) 1 60 G [.ref (gh G + 54), .int (i32 l1), .int (i32 l2)] σ σ (some (.int (i32 res))) := by
  refine CT.mk (own := RX3) (by decide) rfl (Nat.le_of_ble_eq_true rfl) ?_
  intro p e s m below meth c ls X hP hS hl
  have hl : lv_has ls 3 [(0, .ref (gh G + 54)), (1, .int (i32 l1)), (2, .int (i32 l2))] := hl
  exact a_X3_costOf_0 X  s.heap [] ls l1 l2 hP hS hf hl
theorem k_X3_costOf {p : Program} {l : Launch} {e : Env} {R : Room} {s : State} {m : MethodId} {args : Array Value} {below : List Frame} {meth : Method} {c : Code} {H : Heap} {locs : List Loc} {Q : State → Prop} {cc : ByteArray} {nL : Nat} {own : String} {ret : Option FieldType} {fF fL : Nat} {G : GT} {pc idx : Nat} {ls : Array Slot} {rest : List Value} {σ : Mem} {res : Int} {l1 : Int} {l2 : Int} (X : CX p R s m args meth c cc nL own ret fF fL G) (hP : PW G σ H) (hS : va_S (AA G) s.heap H locs) (hls : ls.size = nL) (hf : X3_costOf σ l1 l2 = some res) (h1 : Cond.methodLink own idx yX3_costOf ∈ TB) (hR : 1 + 1 ≤ fF ∧ 8 + (3 + 11) + 60 ≤ fL) (hW : (rest.map fun v => v.category).sum ≤ 8) (hd : decode cc pc = .ok (.invokevirtual idx, 3)) (kk : ∀ (H1 : Heap) (locs1 : List Loc), PW G σ H1 → va_S (AA G) s.heap H1 locs1 → W p l e R s m args below meth c H1 locs1 0 0 Q (F0 m (pc + 3) ls (.int (i32 res) :: rest))) : W p l e R s m args below meth c H locs 0 0 Q (F0 m pc ls (.int (i32 l2) :: .int (i32 l1) :: .ref (gh G + 54) :: rest)) := r_callV (n := 2) X hP hS hls (c_X3_costOf hf) h1 (tb t_721 rfl) (tb t_722 rfl) (tb t_83 rfl) (tb t_723 rfl) (by decide +kernel) hR (r_recv X hP (kd_lt ks_3 (by decide)) (cE_3 ks_3) rfl) rfl rfl hW hd kk
/-! X3_firstLineEnd -/
theorem dX3_firstLineEnd_0 : decode cX3_firstLineEnd 0 = .ok (.aload_n 0, 1) := by decide +kernel
theorem dX3_firstLineEnd_1 : decode cX3_firstLineEnd 1 = .ok (.iload_n 3, 1) := by decide +kernel
theorem dX3_firstLineEnd_2 : decode cX3_firstLineEnd 2 = .ok (.iload_n 1, 1) := by decide +kernel
theorem dX3_firstLineEnd_3 : decode cX3_firstLineEnd 3 = .ok (.invokevirtual 53, 3) := by decide +kernel
theorem dX3_firstLineEnd_6 : decode cX3_firstLineEnd 6 = .ok (.istore 4, 2) := by decide +kernel
theorem dX3_firstLineEnd_8 : decode cX3_firstLineEnd 8 = .ok (.iload_n 2, 1) := by decide +kernel
theorem dX3_firstLineEnd_9 : decode cX3_firstLineEnd 9 = .ok (.aload_n 0, 1) := by decide +kernel
theorem dX3_firstLineEnd_10 : decode cX3_firstLineEnd 10 = .ok (.getfield 15, 3) := by decide +kernel
theorem dX3_firstLineEnd_13 : decode cX3_firstLineEnd 13 = .ok (.iload_n 1, 1) := by decide +kernel
theorem dX3_firstLineEnd_14 : decode cX3_firstLineEnd 14 = .ok (.iaload, 1) := by decide +kernel
theorem dX3_firstLineEnd_15 : decode cX3_firstLineEnd 15 = .ok (.invokestatic 48, 3) := by decide +kernel
theorem dX3_firstLineEnd_18 : decode cX3_firstLineEnd 18 = .ok (.istore 5, 2) := by decide +kernel
theorem dX3_firstLineEnd_20 : decode cX3_firstLineEnd 20 = .ok (.iload_n 1, 1) := by decide +kernel
theorem dX3_firstLineEnd_21 : decode cX3_firstLineEnd 21 = .ok (.istore 6, 2) := by decide +kernel
theorem dX3_firstLineEnd_23 : decode cX3_firstLineEnd 23 = .ok (.iload 6, 2) := by decide +kernel
theorem dX3_firstLineEnd_25 : decode cX3_firstLineEnd 25 = .ok (.iload 5, 2) := by decide +kernel
theorem dX3_firstLineEnd_27 : decode cX3_firstLineEnd 27 = .ok (.if_icmp .gt 58, 3) := by decide +kernel
theorem dX3_firstLineEnd_30 : decode cX3_firstLineEnd 30 = .ok (.aload_n 0, 1) := by decide +kernel
theorem dX3_firstLineEnd_31 : decode cX3_firstLineEnd 31 = .ok (.iload_n 1, 1) := by decide +kernel
theorem dX3_firstLineEnd_32 : decode cX3_firstLineEnd 32 = .ok (.iload 6, 2) := by decide +kernel
theorem dX3_firstLineEnd_34 : decode cX3_firstLineEnd 34 = .ok (.invokevirtual 56, 3) := by decide +kernel
theorem dX3_firstLineEnd_37 : decode cX3_firstLineEnd 37 = .ok (.istore 7, 2) := by decide +kernel
theorem dX3_firstLineEnd_39 : decode cX3_firstLineEnd 39 = .ok (.aload_n 0, 1) := by decide +kernel
theorem dX3_firstLineEnd_40 : decode cX3_firstLineEnd 40 = .ok (.iload_n 3, 1) := by decide +kernel
theorem dX3_firstLineEnd_41 : decode cX3_firstLineEnd 41 = .ok (.iconst 1, 1) := by decide +kernel
theorem dX3_firstLineEnd_42 : decode cX3_firstLineEnd 42 = .ok (.isub, 1) := by decide +kernel
theorem dX3_firstLineEnd_43 : decode cX3_firstLineEnd 43 = .ok (.iload 6, 2) := by decide +kernel
theorem dX3_firstLineEnd_45 : decode cX3_firstLineEnd 45 = .ok (.iconst 1, 1) := by decide +kernel
theorem dX3_firstLineEnd_46 : decode cX3_firstLineEnd 46 = .ok (.iadd, 1) := by decide +kernel
theorem dX3_firstLineEnd_47 : decode cX3_firstLineEnd 47 = .ok (.invokevirtual 53, 3) := by decide +kernel
theorem dX3_firstLineEnd_50 : decode cX3_firstLineEnd 50 = .ok (.istore 8, 2) := by decide +kernel
theorem dX3_firstLineEnd_52 : decode cX3_firstLineEnd 52 = .ok (.iload 7, 2) := by decide +kernel
theorem dX3_firstLineEnd_54 : decode cX3_firstLineEnd 54 = .ok (.ldc 43, 2) := by decide +kernel
theorem dX3_firstLineEnd_56 : decode cX3_firstLineEnd 56 = .ok (.if_icmp .eq 23, 3) := by decide +kernel
theorem dX3_firstLineEnd_59 : decode cX3_firstLineEnd 59 = .ok (.iload 8, 2) := by decide +kernel
theorem dX3_firstLineEnd_61 : decode cX3_firstLineEnd 61 = .ok (.ldc 43, 2) := by decide +kernel
theorem dX3_firstLineEnd_63 : decode cX3_firstLineEnd 63 = .ok (.if_icmp .eq 16, 3) := by decide +kernel
theorem dX3_firstLineEnd_66 : decode cX3_firstLineEnd 66 = .ok (.iload 7, 2) := by decide +kernel
theorem dX3_firstLineEnd_68 : decode cX3_firstLineEnd 68 = .ok (.iload 8, 2) := by decide +kernel
theorem dX3_firstLineEnd_70 : decode cX3_firstLineEnd 70 = .ok (.iadd, 1) := by decide +kernel
theorem dX3_firstLineEnd_71 : decode cX3_firstLineEnd 71 = .ok (.iload 4, 2) := by decide +kernel
theorem dX3_firstLineEnd_73 : decode cX3_firstLineEnd 73 = .ok (.if_icmp .ne 6, 3) := by decide +kernel
theorem dX3_firstLineEnd_76 : decode cX3_firstLineEnd 76 = .ok (.iload 6, 2) := by decide +kernel
theorem dX3_firstLineEnd_78 : decode cX3_firstLineEnd 78 = .ok (.ireturn, 1) := by decide +kernel
theorem dX3_firstLineEnd_79 : decode cX3_firstLineEnd 79 = .ok (.iinc 6 1, 3) := by decide +kernel
theorem dX3_firstLineEnd_82 : decode cX3_firstLineEnd 82 = .ok (.goto (-59), 3) := by decide +kernel
theorem dX3_firstLineEnd_85 : decode cX3_firstLineEnd 85 = .ok (.iload_n 2, 1) := by decide +kernel
theorem dX3_firstLineEnd_86 : decode cX3_firstLineEnd 86 = .ok (.ireturn, 1) := by decide +kernel
def S_X3_firstLineEnd_23 (fn : Int → Int → Int → Int → Int → Int → Option (Int)) (p : Program) (l : Launch) (e : Env) (R : Room) (s : State) (m : MethodId) (args : Array Value) (below : List Frame) (meth : Method) (c : Code) (G : GT) (σ : Mem) (res : Int) : Prop := ∀ (H : Heap) (locs : List Loc) (ls : Array Slot) (l1 : Int) (l2 : Int) (l3 : Int) (l4 : Int) (l5 : Int) (l6 : Int), PW G σ H → va_S (AA G) s.heap H locs → fn l1 l2 l3 l4 l5 l6 = some res → lv_has ls 9 [(0, .ref (gh G + 54)), (1, .int (i32 l1)), (2, .int (i32 l2)), (3, .int (i32 l3)), (4, .int (i32 l4)), (5, .int (i32 l5)), (6, .int (i32 l6))] → W p l e R s m args below meth c H locs 0 0 (MQ below (QM G (some (.int (i32 res))) σ) args s 0 0 (AA G)) (F0 m 23 ls [])
def X3_firstLineEnd_B79 (rec23 : Int → Int → Int → Int → Int → Int → Option (Int)) (σ : Mem) (l1 : Int) (l2 : Int) (l3 : Int) (l4 : Int) (l5 : Int) (l6 : Int) : Option (Int) :=
  lt (l6 + 1) fun l6_1 =>
  rec23 l1 l2 l3 l4 l5 l6_1
def S_X3_firstLineEnd_79 (fn : Int → Int → Int → Int → Int → Int → Option (Int)) (p : Program) (l : Launch) (e : Env) (R : Room) (s : State) (m : MethodId) (args : Array Value) (below : List Frame) (meth : Method) (c : Code) (G : GT) (σ : Mem) (res : Int) : Prop := ∀ (H : Heap) (locs : List Loc) (ls : Array Slot) (l1 : Int) (l2 : Int) (l3 : Int) (l4 : Int) (l5 : Int) (l6 : Int), PW G σ H → va_S (AA G) s.heap H locs → fn l1 l2 l3 l4 l5 l6 = some res → lv_has ls 9 [(0, .ref (gh G + 54)), (1, .int (i32 l1)), (2, .int (i32 l2)), (3, .int (i32 l3)), (4, .int (i32 l4)), (5, .int (i32 l5)), (6, .int (i32 l6))] → W p l e R s m args below meth c H locs 0 0 (MQ below (QM G (some (.int (i32 res))) σ) args s 0 0 (AA G)) (F0 m 79 ls [])
def X3_firstLineEnd_B23 (rec23 : Int → Int → Int → Int → Int → Int → Option (Int)) (σ : Mem) (l1 : Int) (l2 : Int) (l3 : Int) (l4 : Int) (l5 : Int) (l6 : Int) : Option (Int) :=
  if w32 l5 < w32 l6 then
    some l2
  else
  bd (X3_costOf σ l1 l6) fun r1 =>
  bd (X3_pageCost σ (l3 - 1) (l6 + 1)) fun r2 =>
  if w32 r1 = w32 2147483647 then
    X3_firstLineEnd_B79 rec23 σ l1 l2 l3 l4 l5 l6
  else
  if w32 r2 = w32 2147483647 then
    X3_firstLineEnd_B79 rec23 σ l1 l2 l3 l4 l5 l6
  else
  if w32 (r1 + r2) ≠ w32 l4 then
    X3_firstLineEnd_B79 rec23 σ l1 l2 l3 l4 l5 l6
  else
  some l6
def X3_firstLineEnd_L23 (σ : Mem) : Nat → Int → Int → Int → Int → Int → Int → Option (Int)
  | 0 => fun _ _ _ _ _ _ => none
  | n + 1 => X3_firstLineEnd_B23 (X3_firstLineEnd_L23 σ n) σ
def X3_firstLineEnd (σ : Mem) (l1 : Int) (l2 : Int) (l3 : Int) : Option (Int) :=
  bd (X3_pageCost σ l3 l1) fun r1 =>
  ag 40 l1 fun j2 =>
  lt (imn l2 (σ 56 j2)) fun l5_3 =>
  X3_firstLineEnd_L23 σ 5000 l1 l2 l3 r1 l5_3 l1
def S_X3_firstLineEnd_0 (fn : Int → Int → Int → Option (Int)) (p : Program) (l : Launch) (e : Env) (R : Room) (s : State) (m : MethodId) (args : Array Value) (below : List Frame) (meth : Method) (c : Code) (G : GT) (σ : Mem) (res : Int) : Prop := ∀ (H : Heap) (locs : List Loc) (ls : Array Slot) (l1 : Int) (l2 : Int) (l3 : Int), PW G σ H → va_S (AA G) s.heap H locs → fn l1 l2 l3 = some res → lv_has ls 9 [(0, .ref (gh G + 54)), (1, .int (i32 l1)), (2, .int (i32 l2)), (3, .int (i32 l3))] → W p l e R s m args below meth c H locs 0 0 (MQ below (QM G (some (.int (i32 res))) σ) args s 0 0 (AA G)) (F0 m 0 ls [])
set_option maxHeartbeats 4000000 in
theorem a_X3_firstLineEnd_79 {p : Program} {l : Launch} {e : Env} {R : Room} {s : State} {m : MethodId} {args : Array Value} {below : List Frame} {meth : Method} {c : Code} {G : GT} {σ : Mem} {res : Int} {rec23 : Int → Int → Int → Int → Int → Int → Option (Int)} (X : CX p R s m args meth c cX3_firstLineEnd 9 RX3 (some FieldType.int) 2 82 G) (h23 : S_X3_firstLineEnd_23 rec23 p l e R s m args below meth c G σ res) : S_X3_firstLineEnd_79 (X3_firstLineEnd_B79 rec23 σ) p l e R s m args below meth c G σ res := by
  intro H locs ls l1 l2 l3 l4 l5 l6 hP hS hf hl
  unfold X3_firstLineEnd_B79 at hf
  obtain ⟨l6_1, el6_1, hf⟩ := lt_inv hf
  refine lv_iinc (v := i32 l6_1) (lv' := [(6, .int (i32 l6_1)), (0, .ref (gh G + 54)), (1, .int (i32 l1)), (2, .int (i32 l2)), (3, .int (i32 l3)), (4, .int (i32 l4)), (5, .int (i32 l5))]) X.1 X.2.1 dX3_firstLineEnd_79 hl (k := 6) rfl (by rw [← el6_1]; exact i32_add _ _) (by decide) rfl (fun ls hl => ?_)
  refine lv_goto (tgt := 23) X.1 X.2.1 dX3_firstLineEnd_82 (by decide) ?_
  exact h23  H locs ls l1 l2 l3 l4 l5 l6_1 hP hS hf (lv_sub hl [1, 2, 3, 4, 5, 6, 0] rfl)
set_option maxHeartbeats 4000000 in
theorem a_X3_firstLineEnd_23 {p : Program} {l : Launch} {e : Env} {R : Room} {s : State} {m : MethodId} {args : Array Value} {below : List Frame} {meth : Method} {c : Code} {G : GT} {σ : Mem} {res : Int} {rec23 : Int → Int → Int → Int → Int → Int → Option (Int)} (X : CX p R s m args meth c cX3_firstLineEnd 9 RX3 (some FieldType.int) 2 82 G) (h23 : S_X3_firstLineEnd_23 rec23 p l e R s m args below meth c G σ res) : S_X3_firstLineEnd_23 (X3_firstLineEnd_B23 rec23 σ) p l e R s m args below meth c G σ res := by
  intro H locs ls l1 l2 l3 l4 l5 l6 hP hS hf hl
  unfold X3_firstLineEnd_B23 at hf
  refine lv_iload X.1 X.2.1 dX3_firstLineEnd_23 (lv_at hl 6 rfl) ?_
  refine lv_iload X.1 X.2.1 dX3_firstLineEnd_25 (lv_at hl 5 rfl) ?_
  refine r_icmp_gt (tgt := 85) X dX3_firstLineEnd_27 (by decide) (fun q => ?_) (fun q => ?_)
  · replace hf := it_inv q hf
    refine lv_iload_n X.1 X.2.1 dX3_firstLineEnd_85 rfl (lv_at hl 2 rfl) ?_
    cases so_inv hf
    exact r_iret X hP hS dX3_firstLineEnd_86
  · replace hf := ie_inv q hf
    refine lv_aload_n X.1 X.2.1 dX3_firstLineEnd_30 rfl (lv_at hl 0 rfl) ?_
    refine lv_iload_n X.1 X.2.1 dX3_firstLineEnd_31 rfl (lv_at hl 1 rfl) ?_
    refine lv_iload X.1 X.2.1 dX3_firstLineEnd_32 (lv_at hl 6 rfl) ?_
    obtain ⟨r1, hr1, hf⟩ := bd_inv hf
    refine k_X3_costOf X hP hS hl.1  hr1 (tb t_852 rfl) (by decide) (Nat.le_of_ble_eq_true rfl) dX3_firstLineEnd_34 (fun H locs hP hS => ?_)
    refine lv_istore (lv' := [(7, .int (i32 r1)), (0, .ref (gh G + 54)), (1, .int (i32 l1)), (2, .int (i32 l2)), (3, .int (i32 l3)), (4, .int (i32 l4)), (5, .int (i32 l5)), (6, .int (i32 l6))]) X.1 X.2.1 dX3_firstLineEnd_37 hl (by decide) rfl (fun ls hl => ?_)
    refine lv_aload_n X.1 X.2.1 dX3_firstLineEnd_39 rfl (lv_at hl 1 rfl) ?_
    refine lv_iload_n X.1 X.2.1 dX3_firstLineEnd_40 rfl (lv_at hl 4 rfl) ?_
    refine r_iconst X 1 dX3_firstLineEnd_41 ?_
    refine r_isub X dX3_firstLineEnd_42 ?_
    refine lv_iload X.1 X.2.1 dX3_firstLineEnd_43 (lv_at hl 7 rfl) ?_
    refine r_iconst X 1 dX3_firstLineEnd_45 ?_
    refine r_iadd X dX3_firstLineEnd_46 ?_
    obtain ⟨r2, hr2, hf⟩ := bd_inv hf
    refine k_X3_pageCost X hP hS hl.1  hr2 (tb t_851 rfl) (by decide) (Nat.le_of_ble_eq_true rfl) dX3_firstLineEnd_47 (fun H locs hP hS => ?_)
    refine lv_istore (lv' := [(8, .int (i32 r2)), (7, .int (i32 r1)), (0, .ref (gh G + 54)), (1, .int (i32 l1)), (2, .int (i32 l2)), (3, .int (i32 l3)), (4, .int (i32 l4)), (5, .int (i32 l5)), (6, .int (i32 l6))]) X.1 X.2.1 dX3_firstLineEnd_50 hl (by decide) rfl (fun ls hl => ?_)
    refine lv_iload X.1 X.2.1 dX3_firstLineEnd_52 (lv_at hl 1 rfl) ?_
    refine r_ldc X 2147483647 (tb t_714 rfl) (by decide) dX3_firstLineEnd_54 ?_
    refine r_icmp_eq (tgt := 79) X dX3_firstLineEnd_56 (by decide) (fun q => ?_) (fun q => ?_)
    · replace hf := it_inv q hf
      exact a_X3_firstLineEnd_79 X h23  H locs ls l1 l2 l3 l4 l5 l6 hP hS hf (lv_sub hl [2, 3, 4, 5, 6, 7, 8] rfl)
    · replace hf := ie_inv q hf
      refine lv_iload X.1 X.2.1 dX3_firstLineEnd_59 (lv_at hl 0 rfl) ?_
      refine r_ldc X 2147483647 (tb t_714 rfl) (by decide) dX3_firstLineEnd_61 ?_
      refine r_icmp_eq (tgt := 79) X dX3_firstLineEnd_63 (by decide) (fun q => ?_) (fun q => ?_)
      · replace hf := it_inv q hf
        exact a_X3_firstLineEnd_79 X h23  H locs ls l1 l2 l3 l4 l5 l6 hP hS hf (lv_sub hl [2, 3, 4, 5, 6, 7, 8] rfl)
      · replace hf := ie_inv q hf
        refine lv_iload X.1 X.2.1 dX3_firstLineEnd_66 (lv_at hl 1 rfl) ?_
        refine lv_iload X.1 X.2.1 dX3_firstLineEnd_68 (lv_at hl 0 rfl) ?_
        refine r_iadd X dX3_firstLineEnd_70 ?_
        refine lv_iload X.1 X.2.1 dX3_firstLineEnd_71 (lv_at hl 6 rfl) ?_
        refine r_icmp_ne (tgt := 79) X dX3_firstLineEnd_73 (by decide) (fun q => ?_) (fun q => ?_)
        · replace hf := it_inv q hf
          exact a_X3_firstLineEnd_79 X h23  H locs ls l1 l2 l3 l4 l5 l6 hP hS hf (lv_sub hl [2, 3, 4, 5, 6, 7, 8] rfl)
        · replace hf := ie_inv q hf
          refine lv_iload X.1 X.2.1 dX3_firstLineEnd_76 (lv_at hl 8 rfl) ?_
          cases so_inv hf
          exact r_iret X hP hS dX3_firstLineEnd_78
theorem al_X3_firstLineEnd_23 {p : Program} {l : Launch} {e : Env} {R : Room} {s : State} {m : MethodId} {args : Array Value} {below : List Frame} {meth : Method} {c : Code} {G : GT} {σ : Mem} {res : Int} (X : CX p R s m args meth c cX3_firstLineEnd 9 RX3 (some FieldType.int) 2 82 G) : ∀ n, S_X3_firstLineEnd_23 (X3_firstLineEnd_L23 σ n) p l e R s m args below meth c G σ res := by
  intro n
  induction n with
  | zero =>
    intro H locs ls l1 l2 l3 l4 l5 l6 hP hS hf hl
    cases hf
  | succ n ih => exact a_X3_firstLineEnd_23 X ih
set_option maxHeartbeats 4000000 in
theorem a_X3_firstLineEnd_0 {p : Program} {l : Launch} {e : Env} {R : Room} {s : State} {m : MethodId} {args : Array Value} {below : List Frame} {meth : Method} {c : Code} {G : GT} {σ : Mem} {res : Int} (X : CX p R s m args meth c cX3_firstLineEnd 9 RX3 (some FieldType.int) 2 82 G) : S_X3_firstLineEnd_0 (X3_firstLineEnd σ) p l e R s m args below meth c G σ res := by
  intro H locs ls l1 l2 l3 hP hS hf hl
  unfold X3_firstLineEnd at hf
  refine lv_aload_n X.1 X.2.1 dX3_firstLineEnd_0 rfl (lv_at hl 0 rfl) ?_
  refine lv_iload_n X.1 X.2.1 dX3_firstLineEnd_1 rfl (lv_at hl 3 rfl) ?_
  refine lv_iload_n X.1 X.2.1 dX3_firstLineEnd_2 rfl (lv_at hl 1 rfl) ?_
  obtain ⟨r1, hr1, hf⟩ := bd_inv hf
  refine k_X3_pageCost X hP hS hl.1  hr1 (tb t_851 rfl) (by decide) (Nat.le_of_ble_eq_true rfl) dX3_firstLineEnd_3 (fun H locs hP hS => ?_)
  refine lv_istore (lv' := [(4, .int (i32 r1)), (0, .ref (gh G + 54)), (1, .int (i32 l1)), (2, .int (i32 l2)), (3, .int (i32 l3))]) X.1 X.2.1 dX3_firstLineEnd_6 hl (by decide) rfl (fun ls hl => ?_)
  refine lv_iload_n X.1 X.2.1 dX3_firstLineEnd_8 rfl (lv_at hl 3 rfl) ?_
  refine lv_aload_n X.1 X.2.1 dX3_firstLineEnd_9 rfl (lv_at hl 1 rfl) ?_
  refine g_3_1 (r := 56) X hP ks_3 rfl (tb t_263 rfl) dX3_firstLineEnd_10 ?_
  refine lv_iload_n X.1 X.2.1 dX3_firstLineEnd_13 rfl (lv_at hl 2 rfl) ?_
  obtain ⟨j2, hij2, hjj2, hlj2, hf⟩ := ag_inv hf
  refine r_iald X hP (ch_3_1 ks_3).1 (ch_3_1 ks_3).2 hij2 hjj2 dX3_firstLineEnd_14 ?_
  refine r_mmin X hl.1 (tb t_742 rfl) (tb t_569 rfl) (tb t_92 rfl) (tb t_570 rfl) (by decide) (Nat.le_of_ble_eq_true rfl) dX3_firstLineEnd_15 ?_
  obtain ⟨l5_3, el5_3, hf⟩ := lt_inv hf
  refine r_eqi el5_3 ?_
  refine lv_istore (lv' := [(5, .int (i32 l5_3)), (4, .int (i32 r1)), (0, .ref (gh G + 54)), (1, .int (i32 l1)), (2, .int (i32 l2)), (3, .int (i32 l3))]) X.1 X.2.1 dX3_firstLineEnd_18 hl (by decide) rfl (fun ls hl => ?_)
  refine lv_iload_n X.1 X.2.1 dX3_firstLineEnd_20 rfl (lv_at hl 3 rfl) ?_
  refine lv_istore (lv' := [(6, .int (i32 l1)), (5, .int (i32 l5_3)), (4, .int (i32 r1)), (0, .ref (gh G + 54)), (1, .int (i32 l1)), (2, .int (i32 l2)), (3, .int (i32 l3))]) X.1 X.2.1 dX3_firstLineEnd_21 hl (by decide) rfl (fun ls hl => ?_)
  exact al_X3_firstLineEnd_23 X 5000  H locs ls l1 l2 l3 r1 l5_3 l1 hP hS hf (lv_sub hl [3, 4, 5, 6, 2, 1, 0] rfl)
set_option maxHeartbeats 4000000 in
theorem c_X3_firstLineEnd {l : Launch} {G : GT} {σ : Mem} {res : Int} {l1 : Int} {l2 : Int} {l3 : Int} (hf : X3_firstLineEnd σ l1 l2 l3 = some res) : CT l yX3_firstLineEnd cX3_firstLineEnd 9 (some FieldType.int) 2 82 G [.ref (gh G + 54), .int (i32 l1), .int (i32 l2), .int (i32 l3)] σ σ (some (.int (i32 res))) := by
  refine CT.mk (own := RX3) (by decide) rfl (Nat.le_of_ble_eq_true rfl) ?_
  intro p e s m below meth c ls X hP hS hl
  have hl : lv_has ls 9 [(0, .ref (gh G + 54)), (1, .int (i32 l1)), (2, .int (i32 l2)), (3, .int (i32 l3))] := hl
  exact a_X3_firstLineEnd_0 X  s.heap [] ls l1 l2 l3 hP hS hf hl
theorem k_X3_firstLineEnd {p : Program} {l : Launch} {e : Env} {R : Room} {s : State} {m : MethodId} {args : Array Value} {below : List Frame} {meth : Method} {c : Code} {H : Heap} {locs : List Loc} {Q : State → Prop} {cc : ByteArray} {nL : Nat} {own : String} {ret : Option FieldType} {fF fL : Nat} {G : GT} {pc idx : Nat} {ls : Array Slot} {rest : List Value} {σ : Mem} {res : Int} {l1 : Int} {l2 : Int} {l3 : Int} (X : CX p R s m args meth c cc nL own ret fF fL G) (hP : PW G σ H) (hS : va_S (AA G) s.heap H locs) (hls : ls.size = nL) (hf : X3_firstLineEnd σ l1 l2 l3 = some res) (h1 : Cond.methodLink own idx yX3_firstLineEnd ∈ TB) (hR : 2 + 1 ≤ fF ∧ 8 + (9 + 11) + 82 ≤ fL) (hW : (rest.map fun v => v.category).sum ≤ 8) (hd : decode cc pc = .ok (.invokevirtual idx, 3)) (kk : ∀ (H1 : Heap) (locs1 : List Loc), PW G σ H1 → va_S (AA G) s.heap H1 locs1 → W p l e R s m args below meth c H1 locs1 0 0 Q (F0 m (pc + 3) ls (.int (i32 res) :: rest))) : W p l e R s m args below meth c H locs 0 0 Q (F0 m pc ls (.int (i32 l3) :: .int (i32 l2) :: .int (i32 l1) :: .ref (gh G + 54) :: rest)) := r_callV (n := 3) X hP hS hls (c_X3_firstLineEnd hf) h1 (tb t_848 rfl) (tb t_849 rfl) (tb t_83 rfl) (tb t_850 rfl) (by decide +kernel) hR (r_recv X hP (kd_lt ks_3 (by decide)) (cE_3 ks_3) rfl) rfl rfl hW hd kk
/-! X2_addLine -/
theorem dX2_addLine_0 : decode cX2_addLine 0 = .ok (.aload_n 0, 1) := by decide +kernel
theorem dX2_addLine_1 : decode cX2_addLine 1 = .ok (.getfield 37, 3) := by decide +kernel
theorem dX2_addLine_4 : decode cX2_addLine 4 = .ok (.bipush 40, 2) := by decide +kernel
theorem dX2_addLine_6 : decode cX2_addLine 6 = .ok (.if_icmp .ge 45, 3) := by decide +kernel
theorem dX2_addLine_9 : decode cX2_addLine 9 = .ok (.aload_n 0, 1) := by decide +kernel
theorem dX2_addLine_10 : decode cX2_addLine 10 = .ok (.getfield 33, 3) := by decide +kernel
theorem dX2_addLine_13 : decode cX2_addLine 13 = .ok (.ifCond .le 38, 3) := by decide +kernel
theorem dX2_addLine_16 : decode cX2_addLine 16 = .ok (.aload_n 0, 1) := by decide +kernel
theorem dX2_addLine_17 : decode cX2_addLine 17 = .ok (.getfield 27, 3) := by decide +kernel
theorem dX2_addLine_20 : decode cX2_addLine 20 = .ok (.aload_n 0, 1) := by decide +kernel
theorem dX2_addLine_21 : decode cX2_addLine 21 = .ok (.getfield 37, 3) := by decide +kernel
theorem dX2_addLine_24 : decode cX2_addLine 24 = .ok (.iload_n 1, 1) := by decide +kernel
theorem dX2_addLine_25 : decode cX2_addLine 25 = .ok (.iastore, 1) := by decide +kernel
theorem dX2_addLine_26 : decode cX2_addLine 26 = .ok (.aload_n 0, 1) := by decide +kernel
theorem dX2_addLine_27 : decode cX2_addLine 27 = .ok (.dup, 1) := by decide +kernel
theorem dX2_addLine_28 : decode cX2_addLine 28 = .ok (.getfield 37, 3) := by decide +kernel
theorem dX2_addLine_31 : decode cX2_addLine 31 = .ok (.iconst 1, 1) := by decide +kernel
theorem dX2_addLine_32 : decode cX2_addLine 32 = .ok (.iadd, 1) := by decide +kernel
theorem dX2_addLine_33 : decode cX2_addLine 33 = .ok (.putfield 37, 3) := by decide +kernel
theorem dX2_addLine_36 : decode cX2_addLine 36 = .ok (.aload_n 0, 1) := by decide +kernel
theorem dX2_addLine_37 : decode cX2_addLine 37 = .ok (.getfield 21, 3) := by decide +kernel
theorem dX2_addLine_40 : decode cX2_addLine 40 = .ok (.aload_n 0, 1) := by decide +kernel
theorem dX2_addLine_41 : decode cX2_addLine 41 = .ok (.getfield 33, 3) := by decide +kernel
theorem dX2_addLine_44 : decode cX2_addLine 44 = .ok (.iconst 1, 1) := by decide +kernel
theorem dX2_addLine_45 : decode cX2_addLine 45 = .ok (.isub, 1) := by decide +kernel
theorem dX2_addLine_46 : decode cX2_addLine 46 = .ok (.dup2, 1) := by decide +kernel
theorem dX2_addLine_47 : decode cX2_addLine 47 = .ok (.iaload, 1) := by decide +kernel
theorem dX2_addLine_48 : decode cX2_addLine 48 = .ok (.iconst 1, 1) := by decide +kernel
theorem dX2_addLine_49 : decode cX2_addLine 49 = .ok (.iadd, 1) := by decide +kernel
theorem dX2_addLine_50 : decode cX2_addLine 50 = .ok (.iastore, 1) := by decide +kernel
theorem dX2_addLine_51 : decode cX2_addLine 51 = .ok (.return_, 1) := by decide +kernel
def X2_addLine (σ : Mem) (l0 : Nat) (l1 : Int) : Option (Mem) :=
  if w32 40 ≤ w32 (σ l0 1) then
    some σ
  else
  if w32 (σ l0 0) ≤ 0 then
    some σ
  else
  ag 40 (σ l0 1) fun j1 =>
  lt (st σ (l0 + 6) j1 l1) fun s2 =>
  lt (st s2 l0 1 ((s2 l0 1) + 1)) fun s3 =>
  lt ((s3 l0 0) - 1) fun v4 =>
  ag 40 v4 fun j5 =>
  ag 40 v4 fun j6 =>
  lt (st s3 (l0 + 4) j6 ((s3 (l0 + 4) j5) + 1)) fun s7 =>
  some s7
def S_X2_addLine_0 (fn : Mem → Nat → Int → Option (Mem)) (p : Program) (l : Launch) (e : Env) (R : Room) (s : State) (m : MethodId) (args : Array Value) (below : List Frame) (meth : Method) (c : Code) (G : GT) (τ : Mem) : Prop := ∀ (σ : Mem) (H : Heap) (locs : List Loc) (ls : Array Slot) (l0 : Nat) (l1 : Int), kd l0 = 2 → PW G σ H → va_S (AA G) s.heap H locs → fn σ l0 l1 = some τ → lv_has ls 2 [(0, .ref (gh G + l0)), (1, .int (i32 l1))] → W p l e R s m args below meth c H locs 0 0 (MQ below (QM G none τ) args s 0 0 (AA G)) (F0 m 0 ls [])
set_option maxHeartbeats 4000000 in
theorem a_X2_addLine_0 {p : Program} {l : Launch} {e : Env} {R : Room} {s : State} {m : MethodId} {args : Array Value} {below : List Frame} {meth : Method} {c : Code} {G : GT} {τ : Mem} (X : CX p R s m args meth c cX2_addLine 2 RX2 none 1 60 G) : S_X2_addLine_0 (X2_addLine) p l e R s m args below meth c G τ := by
  intro σ H locs ls l0 l1 hk_l0 hP hS hf hl
  unfold X2_addLine at hf
  refine lv_aload_n X.1 X.2.1 dX2_addLine_0 rfl (lv_at hl 0 rfl) ?_
  refine g_2_1 X hP hk_l0 (tb t_341 rfl) dX2_addLine_1 ?_
  refine r_bipush X 40 (by decide) dX2_addLine_4 ?_
  refine r_icmp_ge (tgt := 51) X dX2_addLine_6 (by decide) (fun q => ?_) (fun q => ?_)
  · replace hf := it_inv q hf
    cases so_inv hf
    exact r_vret X hP hS dX2_addLine_51
  · replace hf := ie_inv q hf
    refine lv_aload_n X.1 X.2.1 dX2_addLine_9 rfl (lv_at hl 0 rfl) ?_
    refine g_2_0 X hP hk_l0 (tb t_339 rfl) dX2_addLine_10 ?_
    refine r_if_le (tgt := 51) X dX2_addLine_13 (by decide) (fun q => ?_) (fun q => ?_)
    · replace hf := it_inv q hf
      cases so_inv hf
      exact r_vret X hP hS dX2_addLine_51
    · replace hf := ie_inv q hf
      refine lv_aload_n X.1 X.2.1 dX2_addLine_16 rfl (lv_at hl 0 rfl) ?_
      refine g_2_11 (r := l0 + 6) X hP hk_l0 rfl (tb t_357 rfl) dX2_addLine_17 ?_
      refine lv_aload_n X.1 X.2.1 dX2_addLine_20 rfl (lv_at hl 0 rfl) ?_
      refine g_2_1 X hP hk_l0 (tb t_341 rfl) dX2_addLine_21 ?_
      refine lv_iload_n X.1 X.2.1 dX2_addLine_24 rfl (lv_at hl 1 rfl) ?_
      obtain ⟨j1, hij1, hjj1, hlj1, hf⟩ := ag_inv hf
      refine r_iast X hP hS (ch_2_11 hk_l0).1 (ch_2_11 hk_l0).2 hij1 hjj1 dX2_addLine_25 (fun H locs hP hS => ?_)
      obtain ⟨s2, es2, hf⟩ := lt_inv hf
      rw [es2] at hP
      refine lv_aload_n X.1 X.2.1 dX2_addLine_26 rfl (lv_at hl 0 rfl) ?_
      refine lv_dup X.1 X.2.1 dX2_addLine_27 rfl ?_
      refine g_2_1 X hP hk_l0 (tb t_341 rfl) dX2_addLine_28 ?_
      refine r_iconst X 1 dX2_addLine_31 ?_
      refine r_iadd X dX2_addLine_32 ?_
      refine p_2_1 X hP hS hk_l0 (tb t_341 rfl) dX2_addLine_33 (fun H locs hP hS => ?_)
      obtain ⟨s3, es3, hf⟩ := lt_inv hf
      rw [es3] at hP
      refine lv_aload_n X.1 X.2.1 dX2_addLine_36 rfl (lv_at hl 0 rfl) ?_
      refine g_2_9 (r := l0 + 4) X hP hk_l0 rfl (tb t_355 rfl) dX2_addLine_37 ?_
      refine lv_aload_n X.1 X.2.1 dX2_addLine_40 rfl (lv_at hl 0 rfl) ?_
      refine g_2_0 X hP hk_l0 (tb t_339 rfl) dX2_addLine_41 ?_
      refine r_iconst X 1 dX2_addLine_44 ?_
      refine r_isub X dX2_addLine_45 ?_
      obtain ⟨v4, ev4, hf⟩ := lt_inv hf
      refine r_eqi ev4 ?_
      refine lv_dup2_11 X.1 X.2.1 dX2_addLine_46 rfl rfl ?_
      obtain ⟨j5, hij5, hjj5, hlj5, hf⟩ := ag_inv hf
      refine r_iald X hP (ch_2_9 hk_l0).1 (ch_2_9 hk_l0).2 hij5 hjj5 dX2_addLine_47 ?_
      refine r_iconst X 1 dX2_addLine_48 ?_
      refine r_iadd X dX2_addLine_49 ?_
      obtain ⟨j6, hij6, hjj6, hlj6, hf⟩ := ag_inv hf
      refine r_iast X hP hS (ch_2_9 hk_l0).1 (ch_2_9 hk_l0).2 hij6 hjj6 dX2_addLine_50 (fun H locs hP hS => ?_)
      obtain ⟨s7, es7, hf⟩ := lt_inv hf
      rw [es7] at hP
      cases so_inv hf
      exact r_vret X hP hS dX2_addLine_51
set_option maxHeartbeats 4000000 in
theorem c_X2_addLine {l : Launch} {G : GT} {σ τ : Mem} {l0 : Nat} {l1 : Int} (hk_l0 : kd l0 = 2) (hf : X2_addLine σ l0 l1 = some τ) : CT l yX2_addLine cX2_addLine 2 none 1 60 G [.ref (gh G + l0), .int (i32 l1)] σ τ none := by
  refine CT.mk (own := RX2) (by decide) rfl (Nat.le_of_ble_eq_true rfl) ?_
  intro p e s m below meth c ls X hP hS hl
  have hl : lv_has ls 2 [(0, .ref (gh G + l0)), (1, .int (i32 l1))] := hl
  exact a_X2_addLine_0 X σ s.heap [] ls l0 l1 hk_l0 hP hS hf hl
theorem k_X2_addLine {p : Program} {l : Launch} {e : Env} {R : Room} {s : State} {m : MethodId} {args : Array Value} {below : List Frame} {meth : Method} {c : Code} {H : Heap} {locs : List Loc} {Q : State → Prop} {cc : ByteArray} {nL : Nat} {own : String} {ret : Option FieldType} {fF fL : Nat} {G : GT} {pc idx : Nat} {ls : Array Slot} {rest : List Value} {σ τ : Mem} {l0 : Nat} {l1 : Int} (X : CX p R s m args meth c cc nL own ret fF fL G) (hP : PW G σ H) (hS : va_S (AA G) s.heap H locs) (hls : ls.size = nL) (hk_l0 : kd l0 = 2) (hf : X2_addLine σ l0 l1 = some τ) (h1 : Cond.methodLink own idx yX2_addLine ∈ TB) (hR : 1 + 1 ≤ fF ∧ 8 + (2 + 11) + 60 ≤ fL) (hW : (rest.map fun v => v.category).sum ≤ 8) (hd : decode cc pc = .ok (.invokevirtual idx, 3)) (kk : ∀ (H1 : Heap) (locs1 : List Loc), PW G τ H1 → va_S (AA G) s.heap H1 locs1 → W p l e R s m args below meth c H1 locs1 0 0 Q (F0 m (pc + 3) ls (rest))) : W p l e R s m args below meth c H locs 0 0 Q (F0 m pc ls (.int (i32 l1) :: .ref (gh G + l0) :: rest)) := r_callV (n := 1) X hP hS hls (c_X2_addLine hk_l0 hf) h1 (tb t_854 rfl) (tb t_855 rfl) (tb t_86 rfl) (tb t_856 rfl) (by decide +kernel) hR (r_recv X hP (kd_lt hk_l0 (by decide)) (cE_2 hk_l0) rfl) rfl rfl hW hd kk
/-! X1_addLines -/
theorem dX1_addLines_0 : decode cX1_addLines 0 = .ok (.iload_n 1, 1) := by decide +kernel
theorem dX1_addLines_1 : decode cX1_addLines 1 = .ok (.istore 5, 2) := by decide +kernel
theorem dX1_addLines_3 : decode cX1_addLines 3 = .ok (.iload_n 3, 1) := by decide +kernel
theorem dX1_addLines_4 : decode cX1_addLines 4 = .ok (.istore 6, 2) := by decide +kernel
theorem dX1_addLines_6 : decode cX1_addLines 6 = .ok (.iload 6, 2) := by decide +kernel
theorem dX1_addLines_8 : decode cX1_addLines 8 = .ok (.ifCond .le 42, 3) := by decide +kernel
theorem dX1_addLines_11 : decode cX1_addLines 11 = .ok (.iload 5, 2) := by decide +kernel
theorem dX1_addLines_13 : decode cX1_addLines 13 = .ok (.iload_n 2, 1) := by decide +kernel
theorem dX1_addLines_14 : decode cX1_addLines 14 = .ok (.if_icmp .gt 36, 3) := by decide +kernel
theorem dX1_addLines_17 : decode cX1_addLines 17 = .ok (.aload_n 0, 1) := by decide +kernel
theorem dX1_addLines_18 : decode cX1_addLines 18 = .ok (.getfield 12, 3) := by decide +kernel
theorem dX1_addLines_21 : decode cX1_addLines 21 = .ok (.iload 5, 2) := by decide +kernel
theorem dX1_addLines_23 : decode cX1_addLines 23 = .ok (.iload_n 2, 1) := by decide +kernel
theorem dX1_addLines_24 : decode cX1_addLines 24 = .ok (.iload 6, 2) := by decide +kernel
theorem dX1_addLines_26 : decode cX1_addLines 26 = .ok (.invokevirtual 133, 3) := by decide +kernel
theorem dX1_addLines_29 : decode cX1_addLines 29 = .ok (.istore 7, 2) := by decide +kernel
theorem dX1_addLines_31 : decode cX1_addLines 31 = .ok (.aload 4, 2) := by decide +kernel
theorem dX1_addLines_33 : decode cX1_addLines 33 = .ok (.iload 7, 2) := by decide +kernel
theorem dX1_addLines_35 : decode cX1_addLines 35 = .ok (.invokevirtual 137, 3) := by decide +kernel
theorem dX1_addLines_38 : decode cX1_addLines 38 = .ok (.iload 7, 2) := by decide +kernel
theorem dX1_addLines_40 : decode cX1_addLines 40 = .ok (.iconst 1, 1) := by decide +kernel
theorem dX1_addLines_41 : decode cX1_addLines 41 = .ok (.iadd, 1) := by decide +kernel
theorem dX1_addLines_42 : decode cX1_addLines 42 = .ok (.istore 5, 2) := by decide +kernel
theorem dX1_addLines_44 : decode cX1_addLines 44 = .ok (.iinc 6 (-1), 3) := by decide +kernel
theorem dX1_addLines_47 : decode cX1_addLines 47 = .ok (.goto (-41), 3) := by decide +kernel
theorem dX1_addLines_50 : decode cX1_addLines 50 = .ok (.return_, 1) := by decide +kernel
def S_X1_addLines_6 (fn : Mem → Int → Nat → Int → Int → Option (Mem)) (p : Program) (l : Launch) (e : Env) (R : Room) (s : State) (m : MethodId) (args : Array Value) (below : List Frame) (meth : Method) (c : Code) (G : GT) (τ : Mem) : Prop := ∀ (σ : Mem) (H : Heap) (locs : List Loc) (ls : Array Slot) (l2 : Int) (l4 : Nat) (l5 : Int) (l6 : Int), kd l4 = 2 → PW G σ H → va_S (AA G) s.heap H locs → fn σ l2 l4 l5 l6 = some τ → lv_has ls 8 [(0, .ref (gh G + 53)), (2, .int (i32 l2)), (4, .ref (gh G + l4)), (5, .int (i32 l5)), (6, .int (i32 l6))] → W p l e R s m args below meth c H locs 0 0 (MQ below (QM G none τ) args s 0 0 (AA G)) (F0 m 6 ls [])
def X1_addLines_B6 (rec6 : Mem → Int → Nat → Int → Int → Option (Mem)) (σ : Mem) (l2 : Int) (l4 : Nat) (l5 : Int) (l6 : Int) : Option (Mem) :=
  if w32 l6 ≤ 0 then
    some σ
  else
  if w32 l2 < w32 l5 then
    some σ
  else
  bd (X3_firstLineEnd σ l5 l2 l6) fun r1 =>
  bd (X2_addLine σ l4 r1) fun s3 =>
  lt (r1 + 1) fun l5_4 =>
  lt (l6 + (-1)) fun l6_5 =>
  rec6 s3 l2 l4 l5_4 l6_5
def X1_addLines_L6 : Nat → Mem → Int → Nat → Int → Int → Option (Mem)
  | 0 => fun _ _ _ _ _ => none
  | n + 1 => X1_addLines_B6 (X1_addLines_L6 n)
def X1_addLines (σ : Mem) (l1 : Int) (l2 : Int) (l3 : Int) (l4 : Nat) : Option (Mem) :=
  X1_addLines_L6 5000 σ l2 l4 l1 l3
def S_X1_addLines_0 (fn : Mem → Int → Int → Int → Nat → Option (Mem)) (p : Program) (l : Launch) (e : Env) (R : Room) (s : State) (m : MethodId) (args : Array Value) (below : List Frame) (meth : Method) (c : Code) (G : GT) (τ : Mem) : Prop := ∀ (σ : Mem) (H : Heap) (locs : List Loc) (ls : Array Slot) (l1 : Int) (l2 : Int) (l3 : Int) (l4 : Nat), kd l4 = 2 → PW G σ H → va_S (AA G) s.heap H locs → fn σ l1 l2 l3 l4 = some τ → lv_has ls 8 [(0, .ref (gh G + 53)), (1, .int (i32 l1)), (2, .int (i32 l2)), (3, .int (i32 l3)), (4, .ref (gh G + l4))] → W p l e R s m args below meth c H locs 0 0 (MQ below (QM G none τ) args s 0 0 (AA G)) (F0 m 0 ls [])
set_option maxHeartbeats 4000000 in
theorem a_X1_addLines_6 {p : Program} {l : Launch} {e : Env} {R : Room} {s : State} {m : MethodId} {args : Array Value} {below : List Frame} {meth : Method} {c : Code} {G : GT} {τ : Mem} {rec6 : Mem → Int → Nat → Int → Int → Option (Mem)} (X : CX p R s m args meth c cX1_addLines 8 RX1 none 3 110 G) (h6 : S_X1_addLines_6 rec6 p l e R s m args below meth c G τ) : S_X1_addLines_6 (X1_addLines_B6 rec6) p l e R s m args below meth c G τ := by
  intro σ H locs ls l2 l4 l5 l6 hk_l4 hP hS hf hl
  unfold X1_addLines_B6 at hf
  refine lv_iload X.1 X.2.1 dX1_addLines_6 (lv_at hl 4 rfl) ?_
  refine r_if_le (tgt := 50) X dX1_addLines_8 (by decide) (fun q => ?_) (fun q => ?_)
  · replace hf := it_inv q hf
    cases so_inv hf
    exact r_vret X hP hS dX1_addLines_50
  · replace hf := ie_inv q hf
    refine lv_iload X.1 X.2.1 dX1_addLines_11 (lv_at hl 3 rfl) ?_
    refine lv_iload_n X.1 X.2.1 dX1_addLines_13 rfl (lv_at hl 1 rfl) ?_
    refine r_icmp_gt (tgt := 50) X dX1_addLines_14 (by decide) (fun q => ?_) (fun q => ?_)
    · replace hf := it_inv q hf
      cases so_inv hf
      exact r_vret X hP hS dX1_addLines_50
    · replace hf := ie_inv q hf
      refine lv_aload_n X.1 X.2.1 dX1_addLines_17 rfl (lv_at hl 0 rfl) ?_
      refine g_1_0 (r := 54) X hP ks_1 rfl (tb t_272 rfl) dX1_addLines_18 ?_
      refine lv_iload X.1 X.2.1 dX1_addLines_21 (lv_at hl 3 rfl) ?_
      refine lv_iload_n X.1 X.2.1 dX1_addLines_23 rfl (lv_at hl 1 rfl) ?_
      refine lv_iload X.1 X.2.1 dX1_addLines_24 (lv_at hl 4 rfl) ?_
      obtain ⟨r1, hr1, hf⟩ := bd_inv hf
      refine k_X3_firstLineEnd X hP hS hl.1  hr1 (tb t_847 rfl) (by decide) (Nat.le_of_ble_eq_true rfl) dX1_addLines_26 (fun H locs hP hS => ?_)
      refine lv_istore (lv' := [(7, .int (i32 r1)), (0, .ref (gh G + 53)), (2, .int (i32 l2)), (4, .ref (gh G + l4)), (5, .int (i32 l5)), (6, .int (i32 l6))]) X.1 X.2.1 dX1_addLines_29 hl (by decide) rfl (fun ls hl => ?_)
      refine lv_aload X.1 X.2.1 dX1_addLines_31 (lv_at hl 3 rfl) ?_
      refine lv_iload X.1 X.2.1 dX1_addLines_33 (lv_at hl 0 rfl) ?_
      obtain ⟨s3, hr2, hf⟩ := bd_inv hf
      refine k_X2_addLine X hP hS hl.1 hk_l4 hr2 (tb t_853 rfl) (by decide) (Nat.le_of_ble_eq_true rfl) dX1_addLines_35 (fun H locs hP hS => ?_)
      refine lv_iload X.1 X.2.1 dX1_addLines_38 (lv_at hl 0 rfl) ?_
      refine r_iconst X 1 dX1_addLines_40 ?_
      refine r_iadd X dX1_addLines_41 ?_
      obtain ⟨l5_4, el5_4, hf⟩ := lt_inv hf
      refine r_eqi el5_4 ?_
      refine lv_istore (lv' := [(5, .int (i32 l5_4)), (7, .int (i32 r1)), (0, .ref (gh G + 53)), (2, .int (i32 l2)), (4, .ref (gh G + l4)), (6, .int (i32 l6))]) X.1 X.2.1 dX1_addLines_42 hl (by decide) rfl (fun ls hl => ?_)
      obtain ⟨l6_5, el6_5, hf⟩ := lt_inv hf
      refine lv_iinc (v := i32 l6_5) (lv' := [(6, .int (i32 l6_5)), (5, .int (i32 l5_4)), (7, .int (i32 r1)), (0, .ref (gh G + 53)), (2, .int (i32 l2)), (4, .ref (gh G + l4))]) X.1 X.2.1 dX1_addLines_44 hl (k := 5) rfl (by rw [← el6_5]; exact i32_add _ _) (by decide) rfl (fun ls hl => ?_)
      refine lv_goto (tgt := 6) X.1 X.2.1 dX1_addLines_47 (by decide) ?_
      exact h6 s3 H locs ls l2 l4 l5_4 l6_5 hk_l4 hP hS hf (lv_sub hl [3, 4, 5, 1, 0] rfl)
theorem al_X1_addLines_6 {p : Program} {l : Launch} {e : Env} {R : Room} {s : State} {m : MethodId} {args : Array Value} {below : List Frame} {meth : Method} {c : Code} {G : GT} {τ : Mem} (X : CX p R s m args meth c cX1_addLines 8 RX1 none 3 110 G) : ∀ n, S_X1_addLines_6 (X1_addLines_L6 n) p l e R s m args below meth c G τ := by
  intro n
  induction n with
  | zero =>
    intro σ H locs ls l2 l4 l5 l6 hk_l4 hP hS hf hl
    cases hf
  | succ n ih => exact a_X1_addLines_6 X ih
set_option maxHeartbeats 4000000 in
theorem a_X1_addLines_0 {p : Program} {l : Launch} {e : Env} {R : Room} {s : State} {m : MethodId} {args : Array Value} {below : List Frame} {meth : Method} {c : Code} {G : GT} {τ : Mem} (X : CX p R s m args meth c cX1_addLines 8 RX1 none 3 110 G) : S_X1_addLines_0 (X1_addLines) p l e R s m args below meth c G τ := by
  intro σ H locs ls l1 l2 l3 l4 hk_l4 hP hS hf hl
  unfold X1_addLines at hf
  refine lv_iload_n X.1 X.2.1 dX1_addLines_0 rfl (lv_at hl 1 rfl) ?_
  refine lv_istore (lv' := [(5, .int (i32 l1)), (0, .ref (gh G + 53)), (1, .int (i32 l1)), (2, .int (i32 l2)), (3, .int (i32 l3)), (4, .ref (gh G + l4))]) X.1 X.2.1 dX1_addLines_1 hl (by decide) rfl (fun ls hl => ?_)
  refine lv_iload_n X.1 X.2.1 dX1_addLines_3 rfl (lv_at hl 4 rfl) ?_
  refine lv_istore (lv' := [(6, .int (i32 l3)), (5, .int (i32 l1)), (0, .ref (gh G + 53)), (1, .int (i32 l1)), (2, .int (i32 l2)), (3, .int (i32 l3)), (4, .ref (gh G + l4))]) X.1 X.2.1 dX1_addLines_4 hl (by decide) rfl (fun ls hl => ?_)
  exact al_X1_addLines_6 X 5000 σ H locs ls l2 l4 l1 l3 hk_l4 hP hS hf (lv_sub hl [2, 4, 6, 1, 0] rfl)
set_option maxHeartbeats 4000000 in
theorem c_X1_addLines {l : Launch} {G : GT} {σ τ : Mem} {l1 : Int} {l2 : Int} {l3 : Int} {l4 : Nat} (hk_l4 : kd l4 = 2) (hf : X1_addLines σ l1 l2 l3 l4 = some τ) : CT l yX1_addLines cX1_addLines 8 none 3 110 G [.ref (gh G + 53), .int (i32 l1), .int (i32 l2), .int (i32 l3), .ref (gh G + l4)] σ τ none := by
  refine CT.mk (own := RX1) (by decide) rfl (Nat.le_of_ble_eq_true rfl) ?_
  intro p e s m below meth c ls X hP hS hl
  have hl : lv_has ls 8 [(0, .ref (gh G + 53)), (1, .int (i32 l1)), (2, .int (i32 l2)), (3, .int (i32 l3)), (4, .ref (gh G + l4))] := hl
  exact a_X1_addLines_0 X σ s.heap [] ls l1 l2 l3 l4 hk_l4 hP hS hf hl
theorem k_X1_addLines {p : Program} {l : Launch} {e : Env} {R : Room} {s : State} {m : MethodId} {args : Array Value} {below : List Frame} {meth : Method} {c : Code} {H : Heap} {locs : List Loc} {Q : State → Prop} {cc : ByteArray} {nL : Nat} {own : String} {ret : Option FieldType} {fF fL : Nat} {G : GT} {pc idx : Nat} {ls : Array Slot} {rest : List Value} {σ τ : Mem} {l1 : Int} {l2 : Int} {l3 : Int} {l4 : Nat} (X : CX p R s m args meth c cc nL own ret fF fL G) (hP : PW G σ H) (hS : va_S (AA G) s.heap H locs) (hls : ls.size = nL) (hk_l4 : kd l4 = 2) (hf : X1_addLines σ l1 l2 l3 l4 = some τ) (h1 : Cond.methodLink own idx yX1_addLines ∈ TB) (hR : 3 + 1 ≤ fF ∧ 8 + (8 + 11) + 110 ≤ fL) (hW : (rest.map fun v => v.category).sum ≤ 8) (hd : decode cc pc = .ok (.invokevirtual idx, 3)) (kk : ∀ (H1 : Heap) (locs1 : List Loc), PW G τ H1 → va_S (AA G) s.heap H1 locs1 → W p l e R s m args below meth c H1 locs1 0 0 Q (F0 m (pc + 3) ls (rest))) : W p l e R s m args below meth c H locs 0 0 Q (F0 m pc ls (.ref (gh G + l4) :: .int (i32 l3) :: .int (i32 l2) :: .int (i32 l1) :: .ref (gh G + 53) :: rest)) := r_callV (n := 4) X hP hS hls (c_X1_addLines hk_l4 hf) h1 (tb t_845 rfl) (tb t_29 rfl) (tb t_82 rfl) (tb t_846 rfl) (by decide +kernel) hR (r_recv X hP (kd_lt ks_1 (by decide)) (cE_1 ks_1) rfl) rfl rfl hW hd kk
/-! X1_layOut -/
theorem dX1_layOut_0 : decode cX1_layOut 0 = .ok (.aload 4, 2) := by decide +kernel
theorem dX1_layOut_2 : decode cX1_layOut 2 = .ok (.invokevirtual 102, 3) := by decide +kernel
theorem dX1_layOut_5 : decode cX1_layOut 5 = .ok (.aload_n 3, 1) := by decide +kernel
theorem dX1_layOut_6 : decode cX1_layOut 6 = .ok (.getfield 57, 3) := by decide +kernel
theorem dX1_layOut_9 : decode cX1_layOut 9 = .ok (.ifCond .eq 16, 3) := by decide +kernel
theorem dX1_layOut_12 : decode cX1_layOut 12 = .ok (.aload_n 0, 1) := by decide +kernel
theorem dX1_layOut_13 : decode cX1_layOut 13 = .ok (.getfield 25, 3) := by decide +kernel
theorem dX1_layOut_16 : decode cX1_layOut 16 = .ok (.iconst 0, 1) := by decide +kernel
theorem dX1_layOut_17 : decode cX1_layOut 17 = .ok (.laload, 1) := by decide +kernel
theorem dX1_layOut_18 : decode cX1_layOut 18 = .ok (.ldc2_w 86, 3) := by decide +kernel
theorem dX1_layOut_21 : decode cX1_layOut 21 = .ok (.lcmp, 1) := by decide +kernel
theorem dX1_layOut_22 : decode cX1_layOut 22 = .ok (.ifCond .ne 4, 3) := by decide +kernel
theorem dX1_layOut_25 : decode cX1_layOut 25 = .ok (.return_, 1) := by decide +kernel
theorem dX1_layOut_26 : decode cX1_layOut 26 = .ok (.iconst 0, 1) := by decide +kernel
theorem dX1_layOut_27 : decode cX1_layOut 27 = .ok (.istore 5, 2) := by decide +kernel
theorem dX1_layOut_29 : decode cX1_layOut 29 = .ok (.iconst 0, 1) := by decide +kernel
theorem dX1_layOut_30 : decode cX1_layOut 30 = .ok (.istore 6, 2) := by decide +kernel
theorem dX1_layOut_32 : decode cX1_layOut 32 = .ok (.iconst 0, 1) := by decide +kernel
theorem dX1_layOut_33 : decode cX1_layOut 33 = .ok (.istore 7, 2) := by decide +kernel
theorem dX1_layOut_35 : decode cX1_layOut 35 = .ok (.iload 7, 2) := by decide +kernel
theorem dX1_layOut_37 : decode cX1_layOut 37 = .ok (.bipush 40, 2) := by decide +kernel
theorem dX1_layOut_39 : decode cX1_layOut 39 = .ok (.if_icmp .ge 137, 3) := by decide +kernel
theorem dX1_layOut_42 : decode cX1_layOut 42 = .ok (.iload 5, 2) := by decide +kernel
theorem dX1_layOut_44 : decode cX1_layOut 44 = .ok (.aload_n 3, 1) := by decide +kernel
theorem dX1_layOut_45 : decode cX1_layOut 45 = .ok (.getfield 57, 3) := by decide +kernel
theorem dX1_layOut_48 : decode cX1_layOut 48 = .ok (.if_icmp .ge 128, 3) := by decide +kernel
theorem dX1_layOut_51 : decode cX1_layOut 51 = .ok (.aload_n 0, 1) := by decide +kernel
theorem dX1_layOut_52 : decode cX1_layOut 52 = .ok (.getfield 29, 3) := by decide +kernel
theorem dX1_layOut_55 : decode cX1_layOut 55 = .ok (.iload 5, 2) := by decide +kernel
theorem dX1_layOut_57 : decode cX1_layOut 57 = .ok (.bipush 12, 2) := by decide +kernel
theorem dX1_layOut_59 : decode cX1_layOut 59 = .ok (.imul, 1) := by decide +kernel
theorem dX1_layOut_60 : decode cX1_layOut 60 = .ok (.iload 6, 2) := by decide +kernel
theorem dX1_layOut_62 : decode cX1_layOut 62 = .ok (.iadd, 1) := by decide +kernel
theorem dX1_layOut_63 : decode cX1_layOut 63 = .ok (.baload, 1) := by decide +kernel
theorem dX1_layOut_64 : decode cX1_layOut 64 = .ok (.istore 8, 2) := by decide +kernel
theorem dX1_layOut_66 : decode cX1_layOut 66 = .ok (.aload_n 3, 1) := by decide +kernel
theorem dX1_layOut_67 : decode cX1_layOut 67 = .ok (.iload 5, 2) := by decide +kernel
theorem dX1_layOut_69 : decode cX1_layOut 69 = .ok (.iload 8, 2) := by decide +kernel
theorem dX1_layOut_71 : decode cX1_layOut 71 = .ok (.invokevirtual 107, 3) := by decide +kernel
theorem dX1_layOut_74 : decode cX1_layOut 74 = .ok (.istore 9, 2) := by decide +kernel
theorem dX1_layOut_76 : decode cX1_layOut 76 = .ok (.aload 4, 2) := by decide +kernel
theorem dX1_layOut_78 : decode cX1_layOut 78 = .ok (.iload 5, 2) := by decide +kernel
theorem dX1_layOut_80 : decode cX1_layOut 80 = .ok (.iload 8, 2) := by decide +kernel
theorem dX1_layOut_82 : decode cX1_layOut 82 = .ok (.iload 9, 2) := by decide +kernel
theorem dX1_layOut_84 : decode cX1_layOut 84 = .ok (.aload_n 3, 1) := by decide +kernel
theorem dX1_layOut_85 : decode cX1_layOut 85 = .ok (.iload 5, 2) := by decide +kernel
theorem dX1_layOut_87 : decode cX1_layOut 87 = .ok (.iload 8, 2) := by decide +kernel
theorem dX1_layOut_89 : decode cX1_layOut 89 = .ok (.invokevirtual 92, 3) := by decide +kernel
theorem dX1_layOut_92 : decode cX1_layOut 92 = .ok (.aload_n 0, 1) := by decide +kernel
theorem dX1_layOut_93 : decode cX1_layOut 93 = .ok (.getfield 80, 3) := by decide +kernel
theorem dX1_layOut_96 : decode cX1_layOut 96 = .ok (.invokevirtual 110, 3) := by decide +kernel
theorem dX1_layOut_99 : decode cX1_layOut 99 = .ok (.aload 4, 2) := by decide +kernel
theorem dX1_layOut_101 : decode cX1_layOut 101 = .ok (.iload 8, 2) := by decide +kernel
theorem dX1_layOut_103 : decode cX1_layOut 103 = .ok (.aload_n 0, 1) := by decide +kernel
theorem dX1_layOut_104 : decode cX1_layOut 104 = .ok (.aload_n 3, 1) := by decide +kernel
theorem dX1_layOut_105 : decode cX1_layOut 105 = .ok (.iload 6, 2) := by decide +kernel
theorem dX1_layOut_107 : decode cX1_layOut 107 = .ok (.iload 8, 2) := by decide +kernel
theorem dX1_layOut_109 : decode cX1_layOut 109 = .ok (.invokevirtual 114, 3) := by decide +kernel
theorem dX1_layOut_112 : decode cX1_layOut 112 = .ok (.invokevirtual 118, 3) := by decide +kernel
theorem dX1_layOut_115 : decode cX1_layOut 115 = .ok (.aload_n 0, 1) := by decide +kernel
theorem dX1_layOut_116 : decode cX1_layOut 116 = .ok (.getfield 12, 3) := by decide +kernel
theorem dX1_layOut_119 : decode cX1_layOut 119 = .ok (.aload_n 1, 1) := by decide +kernel
theorem dX1_layOut_120 : decode cX1_layOut 120 = .ok (.aload_n 2, 1) := by decide +kernel
theorem dX1_layOut_121 : decode cX1_layOut 121 = .ok (.iload 9, 2) := by decide +kernel
theorem dX1_layOut_123 : decode cX1_layOut 123 = .ok (.iload 5, 2) := by decide +kernel
theorem dX1_layOut_125 : decode cX1_layOut 125 = .ok (.iload 8, 2) := by decide +kernel
theorem dX1_layOut_127 : decode cX1_layOut 127 = .ok (.invokevirtual 122, 3) := by decide +kernel
theorem dX1_layOut_130 : decode cX1_layOut 130 = .ok (.aload_n 0, 1) := by decide +kernel
theorem dX1_layOut_131 : decode cX1_layOut 131 = .ok (.getfield 12, 3) := by decide +kernel
theorem dX1_layOut_134 : decode cX1_layOut 134 = .ok (.iload 5, 2) := by decide +kernel
theorem dX1_layOut_136 : decode cX1_layOut 136 = .ok (.iload 8, 2) := by decide +kernel
theorem dX1_layOut_138 : decode cX1_layOut 138 = .ok (.aload_n 2, 1) := by decide +kernel
theorem dX1_layOut_139 : decode cX1_layOut 139 = .ok (.iconst 1, 1) := by decide +kernel
theorem dX1_layOut_140 : decode cX1_layOut 140 = .ok (.iaload, 1) := by decide +kernel
theorem dX1_layOut_141 : decode cX1_layOut 141 = .ok (.invokevirtual 125, 3) := by decide +kernel
theorem dX1_layOut_144 : decode cX1_layOut 144 = .ok (.aload_n 0, 1) := by decide +kernel
theorem dX1_layOut_145 : decode cX1_layOut 145 = .ok (.iload 5, 2) := by decide +kernel
theorem dX1_layOut_147 : decode cX1_layOut 147 = .ok (.iload 8, 2) := by decide +kernel
theorem dX1_layOut_149 : decode cX1_layOut 149 = .ok (.aload_n 2, 1) := by decide +kernel
theorem dX1_layOut_150 : decode cX1_layOut 150 = .ok (.iconst 1, 1) := by decide +kernel
theorem dX1_layOut_151 : decode cX1_layOut 151 = .ok (.iaload, 1) := by decide +kernel
theorem dX1_layOut_152 : decode cX1_layOut 152 = .ok (.aload 4, 2) := by decide +kernel
theorem dX1_layOut_154 : decode cX1_layOut 154 = .ok (.invokevirtual 129, 3) := by decide +kernel
theorem dX1_layOut_157 : decode cX1_layOut 157 = .ok (.iload 8, 2) := by decide +kernel
theorem dX1_layOut_159 : decode cX1_layOut 159 = .ok (.iconst 1, 1) := by decide +kernel
theorem dX1_layOut_160 : decode cX1_layOut 160 = .ok (.iadd, 1) := by decide +kernel
theorem dX1_layOut_161 : decode cX1_layOut 161 = .ok (.istore 5, 2) := by decide +kernel
theorem dX1_layOut_163 : decode cX1_layOut 163 = .ok (.iload 6, 2) := by decide +kernel
theorem dX1_layOut_165 : decode cX1_layOut 165 = .ok (.invokestatic 97, 3) := by decide +kernel
theorem dX1_layOut_168 : decode cX1_layOut 168 = .ok (.istore 6, 2) := by decide +kernel
theorem dX1_layOut_170 : decode cX1_layOut 170 = .ok (.iinc 7 1, 3) := by decide +kernel
theorem dX1_layOut_173 : decode cX1_layOut 173 = .ok (.goto (-138), 3) := by decide +kernel
theorem dX1_layOut_176 : decode cX1_layOut 176 = .ok (.return_, 1) := by decide +kernel
def S_X1_layOut_35 (fn : Mem → Nat → Nat → Nat → Nat → Int → Int → Int → Option (Mem)) (p : Program) (l : Launch) (e : Env) (R : Room) (s : State) (m : MethodId) (args : Array Value) (below : List Frame) (meth : Method) (c : Code) (G : GT) (τ : Mem) : Prop := ∀ (σ : Mem) (H : Heap) (locs : List Loc) (ls : Array Slot) (l1 : Nat) (l2 : Nat) (l3 : Nat) (l4 : Nat) (l5 : Int) (l6 : Int) (l7 : Int), kd l1 = 5 → kd l2 = 13 → kd l3 = 4 → kd l4 = 2 → PW G σ H → va_S (AA G) s.heap H locs → fn σ l1 l2 l3 l4 l5 l6 l7 = some τ → lv_has ls 10 [(0, .ref (gh G + 53)), (1, .ref (gh G + l1)), (2, .ref (gh G + l2)), (3, .ref (gh G + l3)), (4, .ref (gh G + l4)), (5, .int (i32 l5)), (6, .int (i32 l6)), (7, .int (i32 l7))] → W p l e R s m args below meth c H locs 0 0 (MQ below (QM G none τ) args s 0 0 (AA G)) (F0 m 35 ls [])
def X1_layOut_B35 (rec35 : Mem → Nat → Nat → Nat → Nat → Int → Int → Int → Option (Mem)) (σ : Mem) (l1 : Nat) (l2 : Nat) (l3 : Nat) (l4 : Nat) (l5 : Int) (l6 : Int) (l7 : Int) : Option (Mem) :=
  if w32 40 ≤ w32 l7 then
    some σ
  else
  if w32 (σ l3 1) ≤ w32 l5 then
    some σ
  else
  ag 480 ((l5 * 12) + l6) fun j1 =>
  lt (σ 61 j1) fun l8_2 =>
  bd (X4_sizeOf σ l3 l5 l8_2) fun r3 =>
  bd (X4_costOf σ l3 l5 l8_2) fun r4 =>
  bd (X2_addPage σ l4 l5 l8_2 r3 r4 (σ 53 7)) fun s6 =>
  bd (X1_turnOf s6 l3 l6 l8_2) fun r7 =>
  bd (X2_addTurn s6 l4 l8_2 r7) fun s9 =>
  bd (X3_fill s9 l1 l2 r3 l5 l8_2) fun s11 =>
  ag (ln l2) 1 fun j12 =>
  bd (X3_fillPages s11 l5 l8_2 (s11 l2 j12)) fun s14 =>
  ag (ln l2) 1 fun j15 =>
  bd (X1_addLines s14 l5 l8_2 (s14 l2 j15) l4) fun s17 =>
  lt (l8_2 + 1) fun l5_18 =>
  bd (X1_following s17 l6) fun r19 =>
  lt (l7 + 1) fun l7_20 =>
  rec35 s17 l1 l2 l3 l4 l5_18 r19 l7_20
def X1_layOut_L35 : Nat → Mem → Nat → Nat → Nat → Nat → Int → Int → Int → Option (Mem)
  | 0 => fun _ _ _ _ _ _ _ _ => none
  | n + 1 => X1_layOut_B35 (X1_layOut_L35 n)
def X1_layOut (σ : Mem) (l1 : Nat) (l2 : Nat) (l3 : Nat) (l4 : Nat) : Option (Mem) :=
  bd (X2_begin σ l4) fun s2 =>
  if w32 (s2 l3 1) = 0 then
    some s2
  else
  ag 492 0 fun j3 =>
  if w64 (s2 60 j3) ≠ w64 9223372036854775807 then
    X1_layOut_L35 5000 s2 l1 l2 l3 l4 0 0 0
  else
  some s2
def S_X1_layOut_0 (fn : Mem → Nat → Nat → Nat → Nat → Option (Mem)) (p : Program) (l : Launch) (e : Env) (R : Room) (s : State) (m : MethodId) (args : Array Value) (below : List Frame) (meth : Method) (c : Code) (G : GT) (τ : Mem) : Prop := ∀ (σ : Mem) (H : Heap) (locs : List Loc) (ls : Array Slot) (l1 : Nat) (l2 : Nat) (l3 : Nat) (l4 : Nat), kd l1 = 5 → kd l2 = 13 → kd l3 = 4 → kd l4 = 2 → PW G σ H → va_S (AA G) s.heap H locs → fn σ l1 l2 l3 l4 = some τ → lv_has ls 10 [(0, .ref (gh G + 53)), (1, .ref (gh G + l1)), (2, .ref (gh G + l2)), (3, .ref (gh G + l3)), (4, .ref (gh G + l4))] → W p l e R s m args below meth c H locs 0 0 (MQ below (QM G none τ) args s 0 0 (AA G)) (F0 m 0 ls [])
set_option maxHeartbeats 4000000 in
theorem a_X1_layOut_35 {p : Program} {l : Launch} {e : Env} {R : Room} {s : State} {m : MethodId} {args : Array Value} {below : List Frame} {meth : Method} {c : Code} {G : GT} {τ : Mem} {rec35 : Mem → Nat → Nat → Nat → Nat → Int → Int → Int → Option (Mem)} (X : CX p R s m args meth c cX1_layOut 10 RX1 none 4 138 G) (h35 : S_X1_layOut_35 rec35 p l e R s m args below meth c G τ) : S_X1_layOut_35 (X1_layOut_B35 rec35) p l e R s m args below meth c G τ := by
  intro σ H locs ls l1 l2 l3 l4 l5 l6 l7 hk_l1 hk_l2 hk_l3 hk_l4 hP hS hf hl
  unfold X1_layOut_B35 at hf
  refine lv_iload X.1 X.2.1 dX1_layOut_35 (lv_at hl 7 rfl) ?_
  refine r_bipush X 40 (by decide) dX1_layOut_37 ?_
  refine r_icmp_ge (tgt := 176) X dX1_layOut_39 (by decide) (fun q => ?_) (fun q => ?_)
  · replace hf := it_inv q hf
    cases so_inv hf
    exact r_vret X hP hS dX1_layOut_176
  · replace hf := ie_inv q hf
    refine lv_iload X.1 X.2.1 dX1_layOut_42 (lv_at hl 5 rfl) ?_
    refine lv_aload_n X.1 X.2.1 dX1_layOut_44 rfl (lv_at hl 3 rfl) ?_
    refine g_4_1 X hP hk_l3 (tb t_324 rfl) dX1_layOut_45 ?_
    refine r_icmp_ge (tgt := 176) X dX1_layOut_48 (by decide) (fun q => ?_) (fun q => ?_)
    · replace hf := it_inv q hf
      cases so_inv hf
      exact r_vret X hP hS dX1_layOut_176
    · replace hf := ie_inv q hf
      refine lv_aload_n X.1 X.2.1 dX1_layOut_51 rfl (lv_at hl 0 rfl) ?_
      refine g_1_4 (r := 61) X hP ks_1 rfl (tb t_277 rfl) dX1_layOut_52 ?_
      refine lv_iload X.1 X.2.1 dX1_layOut_55 (lv_at hl 5 rfl) ?_
      refine r_bipush X 12 (by decide) dX1_layOut_57 ?_
      refine r_imul X dX1_layOut_59 ?_
      refine lv_iload X.1 X.2.1 dX1_layOut_60 (lv_at hl 6 rfl) ?_
      refine r_iadd X dX1_layOut_62 ?_
      obtain ⟨j1, hij1, hjj1, hlj1, hf⟩ := ag_inv hf
      refine r_bald X hP (ch_1_4 ks_1).1 (ch_1_4 ks_1).2 hij1 hjj1 dX1_layOut_63 ?_
      obtain ⟨l8_2, el8_2, hf⟩ := lt_inv hf
      refine r_eqi el8_2 ?_
      refine lv_istore (lv' := [(8, .int (i32 l8_2)), (0, .ref (gh G + 53)), (1, .ref (gh G + l1)), (2, .ref (gh G + l2)), (3, .ref (gh G + l3)), (4, .ref (gh G + l4)), (5, .int (i32 l5)), (6, .int (i32 l6)), (7, .int (i32 l7))]) X.1 X.2.1 dX1_layOut_64 hl (by decide) rfl (fun ls hl => ?_)
      refine lv_aload_n X.1 X.2.1 dX1_layOut_66 rfl (lv_at hl 4 rfl) ?_
      refine lv_iload X.1 X.2.1 dX1_layOut_67 (lv_at hl 6 rfl) ?_
      refine lv_iload X.1 X.2.1 dX1_layOut_69 (lv_at hl 0 rfl) ?_
      obtain ⟨r3, hr3, hf⟩ := bd_inv hf
      refine k_X4_sizeOf X hP hS hl.1 hk_l3 hr3 (tb t_825 rfl) (by decide) (Nat.le_of_ble_eq_true rfl) dX1_layOut_71 (fun H locs hP hS => ?_)
      refine lv_istore (lv' := [(9, .int (i32 r3)), (8, .int (i32 l8_2)), (0, .ref (gh G + 53)), (1, .ref (gh G + l1)), (2, .ref (gh G + l2)), (3, .ref (gh G + l3)), (4, .ref (gh G + l4)), (5, .int (i32 l5)), (6, .int (i32 l6)), (7, .int (i32 l7))]) X.1 X.2.1 dX1_layOut_74 hl (by decide) rfl (fun ls hl => ?_)
      refine lv_aload X.1 X.2.1 dX1_layOut_76 (lv_at hl 6 rfl) ?_
      refine lv_iload X.1 X.2.1 dX1_layOut_78 (lv_at hl 7 rfl) ?_
      refine lv_iload X.1 X.2.1 dX1_layOut_80 (lv_at hl 1 rfl) ?_
      refine lv_iload X.1 X.2.1 dX1_layOut_82 (lv_at hl 0 rfl) ?_
      refine lv_aload_n X.1 X.2.1 dX1_layOut_84 rfl (lv_at hl 5 rfl) ?_
      refine lv_iload X.1 X.2.1 dX1_layOut_85 (lv_at hl 7 rfl) ?_
      refine lv_iload X.1 X.2.1 dX1_layOut_87 (lv_at hl 1 rfl) ?_
      obtain ⟨r4, hr4, hf⟩ := bd_inv hf
      refine k_X4_costOf X hP hS hl.1 hk_l3 hr4 (tb t_807 rfl) (by decide) (Nat.le_of_ble_eq_true rfl) dX1_layOut_89 (fun H locs hP hS => ?_)
      refine lv_aload_n X.1 X.2.1 dX1_layOut_92 rfl (lv_at hl 2 rfl) ?_
      refine g_1_7 X hP ks_1 (tb t_280 rfl) dX1_layOut_93 ?_
      obtain ⟨s6, hr5, hf⟩ := bd_inv hf
      refine k_X2_addPage X hP hS hl.1 hk_l4 hr5 (tb t_829 rfl) (by decide) (Nat.le_of_ble_eq_true rfl) dX1_layOut_96 (fun H locs hP hS => ?_)
      refine lv_aload X.1 X.2.1 dX1_layOut_99 (lv_at hl 6 rfl) ?_
      refine lv_iload X.1 X.2.1 dX1_layOut_101 (lv_at hl 1 rfl) ?_
      refine lv_aload_n X.1 X.2.1 dX1_layOut_103 rfl (lv_at hl 2 rfl) ?_
      refine lv_aload_n X.1 X.2.1 dX1_layOut_104 rfl (lv_at hl 5 rfl) ?_
      refine lv_iload X.1 X.2.1 dX1_layOut_105 (lv_at hl 8 rfl) ?_
      refine lv_iload X.1 X.2.1 dX1_layOut_107 (lv_at hl 1 rfl) ?_
      obtain ⟨r7, hr7, hf⟩ := bd_inv hf
      refine k_X1_turnOf X hP hS hl.1 hk_l3 hr7 (tb t_833 rfl) (by decide) (Nat.le_of_ble_eq_true rfl) dX1_layOut_109 (fun H locs hP hS => ?_)
      obtain ⟨s9, hr8, hf⟩ := bd_inv hf
      refine k_X2_addTurn X hP hS hl.1 hk_l4 hr8 (tb t_837 rfl) (by decide) (Nat.le_of_ble_eq_true rfl) dX1_layOut_112 (fun H locs hP hS => ?_)
      refine lv_aload_n X.1 X.2.1 dX1_layOut_115 rfl (lv_at hl 2 rfl) ?_
      refine g_1_0 (r := 54) X hP ks_1 rfl (tb t_272 rfl) dX1_layOut_116 ?_
      refine lv_aload_n X.1 X.2.1 dX1_layOut_119 rfl (lv_at hl 3 rfl) ?_
      refine lv_aload_n X.1 X.2.1 dX1_layOut_120 rfl (lv_at hl 4 rfl) ?_
      refine lv_iload X.1 X.2.1 dX1_layOut_121 (lv_at hl 0 rfl) ?_
      refine lv_iload X.1 X.2.1 dX1_layOut_123 (lv_at hl 7 rfl) ?_
      refine lv_iload X.1 X.2.1 dX1_layOut_125 (lv_at hl 1 rfl) ?_
      obtain ⟨s11, hr10, hf⟩ := bd_inv hf
      refine k_X3_fill X hP hS hl.1 hk_l1 hk_l2 hr10 (tb t_841 rfl) (by decide) (Nat.le_of_ble_eq_true rfl) dX1_layOut_127 (fun H locs hP hS => ?_)
      refine lv_aload_n X.1 X.2.1 dX1_layOut_130 rfl (lv_at hl 2 rfl) ?_
      refine g_1_0 (r := 54) X hP ks_1 rfl (tb t_272 rfl) dX1_layOut_131 ?_
      refine lv_iload X.1 X.2.1 dX1_layOut_134 (lv_at hl 7 rfl) ?_
      refine lv_iload X.1 X.2.1 dX1_layOut_136 (lv_at hl 1 rfl) ?_
      refine lv_aload_n X.1 X.2.1 dX1_layOut_138 rfl (lv_at hl 4 rfl) ?_
      refine r_iconst X 1 dX1_layOut_139 ?_
      obtain ⟨j12, hij12, hjj12, hlj12, hf⟩ := ag_inv hf
      refine r_iald X hP hk_l2 rfl hij12 hjj12 dX1_layOut_140 ?_
      obtain ⟨s14, hr13, hf⟩ := bd_inv hf
      refine k_X3_fillPages X hP hS hl.1  hr13 (tb t_842 rfl) (by decide) (Nat.le_of_ble_eq_true rfl) dX1_layOut_141 (fun H locs hP hS => ?_)
      refine lv_aload_n X.1 X.2.1 dX1_layOut_144 rfl (lv_at hl 2 rfl) ?_
      refine lv_iload X.1 X.2.1 dX1_layOut_145 (lv_at hl 7 rfl) ?_
      refine lv_iload X.1 X.2.1 dX1_layOut_147 (lv_at hl 1 rfl) ?_
      refine lv_aload_n X.1 X.2.1 dX1_layOut_149 rfl (lv_at hl 4 rfl) ?_
      refine r_iconst X 1 dX1_layOut_150 ?_
      obtain ⟨j15, hij15, hjj15, hlj15, hf⟩ := ag_inv hf
      refine r_iald X hP hk_l2 rfl hij15 hjj15 dX1_layOut_151 ?_
      refine lv_aload X.1 X.2.1 dX1_layOut_152 (lv_at hl 6 rfl) ?_
      obtain ⟨s17, hr16, hf⟩ := bd_inv hf
      refine k_X1_addLines X hP hS hl.1 hk_l4 hr16 (tb t_843 rfl) (by decide) (Nat.le_of_ble_eq_true rfl) dX1_layOut_154 (fun H locs hP hS => ?_)
      refine lv_iload X.1 X.2.1 dX1_layOut_157 (lv_at hl 1 rfl) ?_
      refine r_iconst X 1 dX1_layOut_159 ?_
      refine r_iadd X dX1_layOut_160 ?_
      obtain ⟨l5_18, el5_18, hf⟩ := lt_inv hf
      refine r_eqi el5_18 ?_
      refine lv_istore (lv' := [(5, .int (i32 l5_18)), (9, .int (i32 r3)), (8, .int (i32 l8_2)), (0, .ref (gh G + 53)), (1, .ref (gh G + l1)), (2, .ref (gh G + l2)), (3, .ref (gh G + l3)), (4, .ref (gh G + l4)), (6, .int (i32 l6)), (7, .int (i32 l7))]) X.1 X.2.1 dX1_layOut_161 hl (by decide) rfl (fun ls hl => ?_)
      refine lv_iload X.1 X.2.1 dX1_layOut_163 (lv_at hl 8 rfl) ?_
      obtain ⟨r19, hr19, hf⟩ := bd_inv hf
      refine k_X1_following X hP hS hl.1  hr19 (tb t_812 rfl) (by decide) (Nat.le_of_ble_eq_true rfl) dX1_layOut_165 (fun H locs hP hS => ?_)
      refine lv_istore (lv' := [(6, .int (i32 r19)), (5, .int (i32 l5_18)), (9, .int (i32 r3)), (8, .int (i32 l8_2)), (0, .ref (gh G + 53)), (1, .ref (gh G + l1)), (2, .ref (gh G + l2)), (3, .ref (gh G + l3)), (4, .ref (gh G + l4)), (7, .int (i32 l7))]) X.1 X.2.1 dX1_layOut_168 hl (by decide) rfl (fun ls hl => ?_)
      obtain ⟨l7_20, el7_20, hf⟩ := lt_inv hf
      refine lv_iinc (v := i32 l7_20) (lv' := [(7, .int (i32 l7_20)), (6, .int (i32 r19)), (5, .int (i32 l5_18)), (9, .int (i32 r3)), (8, .int (i32 l8_2)), (0, .ref (gh G + 53)), (1, .ref (gh G + l1)), (2, .ref (gh G + l2)), (3, .ref (gh G + l3)), (4, .ref (gh G + l4))]) X.1 X.2.1 dX1_layOut_170 hl (k := 9) rfl (by rw [← el7_20]; exact i32_add _ _) (by decide) rfl (fun ls hl => ?_)
      refine lv_goto (tgt := 35) X.1 X.2.1 dX1_layOut_173 (by decide) ?_
      exact h35 s17 H locs ls l1 l2 l3 l4 l5_18 r19 l7_20 hk_l1 hk_l2 hk_l3 hk_l4 hP hS hf (lv_sub hl [5, 6, 7, 8, 9, 2, 1, 0] rfl)
theorem al_X1_layOut_35 {p : Program} {l : Launch} {e : Env} {R : Room} {s : State} {m : MethodId} {args : Array Value} {below : List Frame} {meth : Method} {c : Code} {G : GT} {τ : Mem} (X : CX p R s m args meth c cX1_layOut 10 RX1 none 4 138 G) : ∀ n, S_X1_layOut_35 (X1_layOut_L35 n) p l e R s m args below meth c G τ := by
  intro n
  induction n with
  | zero =>
    intro σ H locs ls l1 l2 l3 l4 l5 l6 l7 hk_l1 hk_l2 hk_l3 hk_l4 hP hS hf hl
    cases hf
  | succ n ih => exact a_X1_layOut_35 X ih
set_option maxHeartbeats 4000000 in
theorem a_X1_layOut_0 {p : Program} {l : Launch} {e : Env} {R : Room} {s : State} {m : MethodId} {args : Array Value} {below : List Frame} {meth : Method} {c : Code} {G : GT} {τ : Mem} (X : CX p R s m args meth c cX1_layOut 10 RX1 none 4 138 G) : S_X1_layOut_0 (X1_layOut) p l e R s m args below meth c G τ := by
  intro σ H locs ls l1 l2 l3 l4 hk_l1 hk_l2 hk_l3 hk_l4 hP hS hf hl
  unfold X1_layOut at hf
  refine lv_aload X.1 X.2.1 dX1_layOut_0 (lv_at hl 4 rfl) ?_
  obtain ⟨s2, hr1, hf⟩ := bd_inv hf
  refine k_X2_begin X hP hS hl.1 hk_l4 hr1 (tb t_820 rfl) (by decide) (Nat.le_of_ble_eq_true rfl) dX1_layOut_2 (fun H locs hP hS => ?_)
  refine lv_aload_n X.1 X.2.1 dX1_layOut_5 rfl (lv_at hl 3 rfl) ?_
  refine g_4_1 X hP hk_l3 (tb t_324 rfl) dX1_layOut_6 ?_
  refine r_if_eq (tgt := 25) X dX1_layOut_9 (by decide) (fun q => ?_) (fun q => ?_)
  · replace hf := it_inv q hf
    cases so_inv hf
    exact r_vret X hP hS dX1_layOut_25
  · replace hf := ie_inv q hf
    refine lv_aload_n X.1 X.2.1 dX1_layOut_12 rfl (lv_at hl 0 rfl) ?_
    refine g_1_3 (r := 60) X hP ks_1 rfl (tb t_276 rfl) dX1_layOut_13 ?_
    refine r_iconst X 0 dX1_layOut_16 ?_
    obtain ⟨j3, hij3, hjj3, hlj3, hf⟩ := ag_inv hf
    refine r_lald X hP (ch_1_3 ks_1).1 (ch_1_3 ks_1).2 hij3 hjj3 dX1_layOut_17 ?_
    refine r_ldc2 X 9223372036854775807 (tb t_798 rfl) (by decide) dX1_layOut_18 ?_
    refine r_lcmp_ne (tgt := 26) X dX1_layOut_21 dX1_layOut_22 (by decide) (fun q => ?_) (fun q => ?_)
    · replace hf := it_inv q hf
      refine r_iconst X 0 dX1_layOut_26 ?_
      refine lv_istore (lv' := [(5, .int (i32 0)), (0, .ref (gh G + 53)), (1, .ref (gh G + l1)), (2, .ref (gh G + l2)), (3, .ref (gh G + l3)), (4, .ref (gh G + l4))]) X.1 X.2.1 dX1_layOut_27 hl (by decide) rfl (fun ls hl => ?_)
      refine r_iconst X 0 dX1_layOut_29 ?_
      refine lv_istore (lv' := [(6, .int (i32 0)), (5, .int (i32 0)), (0, .ref (gh G + 53)), (1, .ref (gh G + l1)), (2, .ref (gh G + l2)), (3, .ref (gh G + l3)), (4, .ref (gh G + l4))]) X.1 X.2.1 dX1_layOut_30 hl (by decide) rfl (fun ls hl => ?_)
      refine r_iconst X 0 dX1_layOut_32 ?_
      refine lv_istore (lv' := [(7, .int (i32 0)), (6, .int (i32 0)), (5, .int (i32 0)), (0, .ref (gh G + 53)), (1, .ref (gh G + l1)), (2, .ref (gh G + l2)), (3, .ref (gh G + l3)), (4, .ref (gh G + l4))]) X.1 X.2.1 dX1_layOut_33 hl (by decide) rfl (fun ls hl => ?_)
      exact al_X1_layOut_35 X 5000 s2 H locs ls l1 l2 l3 l4 0 0 0 hk_l1 hk_l2 hk_l3 hk_l4 hP hS hf (lv_sub hl [3, 4, 5, 6, 7, 2, 1, 0] rfl)
    · replace hf := ie_inv q hf
      cases so_inv hf
      exact r_vret X hP hS dX1_layOut_25
set_option maxHeartbeats 4000000 in
theorem c_X1_layOut {l : Launch} {G : GT} {σ τ : Mem} {l1 : Nat} {l2 : Nat} {l3 : Nat} {l4 : Nat} (hk_l1 : kd l1 = 5) (hk_l2 : kd l2 = 13) (hk_l3 : kd l3 = 4) (hk_l4 : kd l4 = 2) (hf : X1_layOut σ l1 l2 l3 l4 = some τ) : CT l yX1_layOut cX1_layOut 10 none 4 138 G [.ref (gh G + 53), .ref (gh G + l1), .ref (gh G + l2), .ref (gh G + l3), .ref (gh G + l4)] σ τ none := by
  refine CT.mk (own := RX1) (by decide) rfl (Nat.le_of_ble_eq_true rfl) ?_
  intro p e s m below meth c ls X hP hS hl
  have hl : lv_has ls 10 [(0, .ref (gh G + 53)), (1, .ref (gh G + l1)), (2, .ref (gh G + l2)), (3, .ref (gh G + l3)), (4, .ref (gh G + l4))] := hl
  exact a_X1_layOut_0 X σ s.heap [] ls l1 l2 l3 l4 hk_l1 hk_l2 hk_l3 hk_l4 hP hS hf hl
theorem k_X1_layOut {p : Program} {l : Launch} {e : Env} {R : Room} {s : State} {m : MethodId} {args : Array Value} {below : List Frame} {meth : Method} {c : Code} {H : Heap} {locs : List Loc} {Q : State → Prop} {cc : ByteArray} {nL : Nat} {own : String} {ret : Option FieldType} {fF fL : Nat} {G : GT} {pc idx : Nat} {ls : Array Slot} {rest : List Value} {σ τ : Mem} {l1 : Nat} {l2 : Nat} {l3 : Nat} {l4 : Nat} (X : CX p R s m args meth c cc nL own ret fF fL G) (hP : PW G σ H) (hS : va_S (AA G) s.heap H locs) (hls : ls.size = nL) (hk_l1 : kd l1 = 5) (hk_l2 : kd l2 = 13) (hk_l3 : kd l3 = 4) (hk_l4 : kd l4 = 2) (hf : X1_layOut σ l1 l2 l3 l4 = some τ) (h1 : Cond.methodLink own idx yX1_layOut ∈ TB) (hR : 4 + 1 ≤ fF ∧ 8 + (10 + 11) + 138 ≤ fL) (hW : (rest.map fun v => v.category).sum ≤ 8) (hd : decode cc pc = .ok (.invokevirtual idx, 3)) (kk : ∀ (H1 : Heap) (locs1 : List Loc), PW G τ H1 → va_S (AA G) s.heap H1 locs1 → W p l e R s m args below meth c H1 locs1 0 0 Q (F0 m (pc + 3) ls (rest))) : W p l e R s m args below meth c H locs 0 0 Q (F0 m pc ls (.ref (gh G + l4) :: .ref (gh G + l3) :: .ref (gh G + l2) :: .ref (gh G + l1) :: .ref (gh G + 53) :: rest)) := r_callV (n := 4) X hP hS hls (c_X1_layOut hk_l1 hk_l2 hk_l3 hk_l4 hf) h1 (tb t_817 rfl) (tb t_818 rfl) (tb t_82 rfl) (tb t_819 rfl) (by decide +kernel) hR (r_recv X hP (kd_lt ks_1 (by decide)) (cE_1 ks_1) rfl) rfl rfl hW hd kk
