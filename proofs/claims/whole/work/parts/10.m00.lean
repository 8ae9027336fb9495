/-! J6_bitCount_0f7a4 -/
theorem dJ6_bitCount_0f7a4_0 : decode cJ6_bitCount_0f7a4 0 = .ok (.iload_n 0, 1) := by decide +kernel
theorem dJ6_bitCount_0f7a4_1 : decode cJ6_bitCount_0f7a4 1 = .ok (.iload_n 0, 1) := by decide +kernel
theorem dJ6_bitCount_0f7a4_2 : decode cJ6_bitCount_0f7a4 2 = .ok (.iconst 1, 1) := by decide +kernel
theorem dJ6_bitCount_0f7a4_3 : decode cJ6_bitCount_0f7a4 3 = .ok (.iushr, 1) := by decide +kernel
theorem dJ6_bitCount_0f7a4_4 : decode cJ6_bitCount_0f7a4 4 = .ok (.ldc_w 265, 3) := by decide +kernel
theorem dJ6_bitCount_0f7a4_7 : decode cJ6_bitCount_0f7a4 7 = .ok (.iand, 1) := by decide +kernel
theorem dJ6_bitCount_0f7a4_8 : decode cJ6_bitCount_0f7a4 8 = .ok (.isub, 1) := by decide +kernel
theorem dJ6_bitCount_0f7a4_9 : decode cJ6_bitCount_0f7a4 9 = .ok (.istore_n 0, 1) := by decide +kernel
theorem dJ6_bitCount_0f7a4_10 : decode cJ6_bitCount_0f7a4 10 = .ok (.iload_n 0, 1) := by decide +kernel
theorem dJ6_bitCount_0f7a4_11 : decode cJ6_bitCount_0f7a4 11 = .ok (.ldc_w 266, 3) := by decide +kernel
theorem dJ6_bitCount_0f7a4_14 : decode cJ6_bitCount_0f7a4 14 = .ok (.iand, 1) := by decide +kernel
theorem dJ6_bitCount_0f7a4_15 : decode cJ6_bitCount_0f7a4 15 = .ok (.iload_n 0, 1) := by decide +kernel
theorem dJ6_bitCount_0f7a4_16 : decode cJ6_bitCount_0f7a4 16 = .ok (.iconst 2, 1) := by decide +kernel
theorem dJ6_bitCount_0f7a4_17 : decode cJ6_bitCount_0f7a4 17 = .ok (.iushr, 1) := by decide +kernel
theorem dJ6_bitCount_0f7a4_18 : decode cJ6_bitCount_0f7a4 18 = .ok (.ldc_w 266, 3) := by decide +kernel
theorem dJ6_bitCount_0f7a4_21 : decode cJ6_bitCount_0f7a4 21 = .ok (.iand, 1) := by decide +kernel
theorem dJ6_bitCount_0f7a4_22 : decode cJ6_bitCount_0f7a4 22 = .ok (.iadd, 1) := by decide +kernel
theorem dJ6_bitCount_0f7a4_23 : decode cJ6_bitCount_0f7a4 23 = .ok (.istore_n 0, 1) := by decide +kernel
theorem dJ6_bitCount_0f7a4_24 : decode cJ6_bitCount_0f7a4 24 = .ok (.iload_n 0, 1) := by decide +kernel
theorem dJ6_bitCount_0f7a4_25 : decode cJ6_bitCount_0f7a4 25 = .ok (.iload_n 0, 1) := by decide +kernel
theorem dJ6_bitCount_0f7a4_26 : decode cJ6_bitCount_0f7a4 26 = .ok (.iconst 4, 1) := by decide +kernel
theorem dJ6_bitCount_0f7a4_27 : decode cJ6_bitCount_0f7a4 27 = .ok (.iushr, 1) := by decide +kernel
theorem dJ6_bitCount_0f7a4_28 : decode cJ6_bitCount_0f7a4 28 = .ok (.iadd, 1) := by decide +kernel
theorem dJ6_bitCount_0f7a4_29 : decode cJ6_bitCount_0f7a4 29 = .ok (.ldc_w 267, 3) := by decide +kernel
theorem dJ6_bitCount_0f7a4_32 : decode cJ6_bitCount_0f7a4 32 = .ok (.iand, 1) := by decide +kernel
theorem dJ6_bitCount_0f7a4_33 : decode cJ6_bitCount_0f7a4 33 = .ok (.istore_n 0, 1) := by decide +kernel
theorem dJ6_bitCount_0f7a4_34 : decode cJ6_bitCount_0f7a4 34 = .ok (.iload_n 0, 1) := by decide +kernel
theorem dJ6_bitCount_0f7a4_35 : decode cJ6_bitCount_0f7a4 35 = .ok (.iload_n 0, 1) := by decide +kernel
theorem dJ6_bitCount_0f7a4_36 : decode cJ6_bitCount_0f7a4 36 = .ok (.bipush 8, 2) := by decide +kernel
theorem dJ6_bitCount_0f7a4_38 : decode cJ6_bitCount_0f7a4 38 = .ok (.iushr, 1) := by decide +kernel
theorem dJ6_bitCount_0f7a4_39 : decode cJ6_bitCount_0f7a4 39 = .ok (.iadd, 1) := by decide +kernel
theorem dJ6_bitCount_0f7a4_40 : decode cJ6_bitCount_0f7a4 40 = .ok (.istore_n 0, 1) := by decide +kernel
theorem dJ6_bitCount_0f7a4_41 : decode cJ6_bitCount_0f7a4 41 = .ok (.iload_n 0, 1) := by decide +kernel
theorem dJ6_bitCount_0f7a4_42 : decode cJ6_bitCount_0f7a4 42 = .ok (.iload_n 0, 1) := by decide +kernel
theorem dJ6_bitCount_0f7a4_43 : decode cJ6_bitCount_0f7a4 43 = .ok (.bipush 16, 2) := by decide +kernel
theorem dJ6_bitCount_0f7a4_45 : decode cJ6_bitCount_0f7a4 45 = .ok (.iushr, 1) := by decide +kernel
theorem dJ6_bitCount_0f7a4_46 : decode cJ6_bitCount_0f7a4 46 = .ok (.iadd, 1) := by decide +kernel
theorem dJ6_bitCount_0f7a4_47 : decode cJ6_bitCount_0f7a4 47 = .ok (.istore_n 0, 1) := by decide +kernel
theorem dJ6_bitCount_0f7a4_48 : decode cJ6_bitCount_0f7a4 48 = .ok (.iload_n 0, 1) := by decide +kernel
theorem dJ6_bitCount_0f7a4_49 : decode cJ6_bitCount_0f7a4 49 = .ok (.bipush 63, 2) := by decide +kernel
theorem dJ6_bitCount_0f7a4_51 : decode cJ6_bitCount_0f7a4 51 = .ok (.iand, 1) := by decide +kernel
theorem dJ6_bitCount_0f7a4_52 : decode cJ6_bitCount_0f7a4 52 = .ok (.ireturn, 1) := by decide +kernel
def J6_bitCount_0f7a4 (σ : Mem) (l0 : Int) : Option (Int) :=
  lt (l0 - (ian (ius l0 1) 1431655765)) fun l0_1 =>
  lt ((ian l0_1 858993459) + (ian (ius l0_1 2) 858993459)) fun l0_2 =>
  lt (ian (l0_2 + (ius l0_2 4)) 252645135) fun l0_3 =>
  lt (l0_3 + (ius l0_3 8)) fun l0_4 =>
  lt (l0_4 + (ius l0_4 16)) fun l0_5 =>
  some (ian l0_5 63)
def S_J6_bitCount_0f7a4_0 (fn : Int → Option (Int)) (p : Program) (l : Launch) (e : Env) (R : Room) (s : State) (m : MethodId) (args : Array Value) (below : List Frame) (meth : Method) (c : Code) (G : GT) (σ : Mem) (res : Int) : Prop := ∀ (H : Heap) (locs : List Loc) (ls : Array Slot) (l0 : Int), PW G σ H → va_S (AA G) s.heap H locs → fn l0 = some res → lv_has ls 1 [(0, .int (i32 l0))] → W p l e R s m args below meth c H locs 0 0 (MQ below (QM G (some (.int (i32 res))) σ) args s 0 0 (AA G)) (F0 m 0 ls [])
set_option maxHeartbeats 4000000 in
theorem a_J6_bitCount_0f7a4_0 {p : Program} {l : Launch} {e : Env} {R : Room} {s : State} {m : MethodId} {args : Array Value} {below : List Frame} {meth : Method} {c : Code} {G : GT} {σ : Mem} {res : Int} (X : CX p R s m args meth c cJ6_bitCount_0f7a4 1 RJ6 (some FieldType.int) 1 60 G) : S_J6_bitCount_0f7a4_0 (J6_bitCount_0f7a4 σ) p l e R s m args below meth c G σ res := by
  intro H locs ls l0 hP hS hf hl
  unfold J6_bitCount_0f7a4 at hf
  refine lv_iload_n X.1 X.2.1 dJ6_bitCount_0f7a4_0 rfl (lv_at hl 0 rfl) ?_
  refine lv_iload_n X.1 X.2.1 dJ6_bitCount_0f7a4_1 rfl (lv_at hl 0 rfl) ?_
  refine r_iconst X 1 dJ6_bitCount_0f7a4_2 ?_
  refine r_iushr X dJ6_bitCount_0f7a4_3 ?_
  refine r_ldcw X 1431655765 (tb t_903 rfl) (by decide) dJ6_bitCount_0f7a4_4 ?_
  refine r_iand X dJ6_bitCount_0f7a4_7 ?_
  refine r_isub X dJ6_bitCount_0f7a4_8 ?_
  obtain ⟨l0_1, el0_1, hf⟩ := lt_inv hf
  refine r_eqi el0_1 ?_
  refine lv_istore_n (lv' := [(0, .int (i32 l0_1))]) X.1 X.2.1 dJ6_bitCount_0f7a4_9 rfl hl (by decide) rfl (fun ls hl => ?_)
  refine lv_iload_n X.1 X.2.1 dJ6_bitCount_0f7a4_10 rfl (lv_at hl 0 rfl) ?_
  refine r_ldcw X 858993459 (tb t_904 rfl) (by decide) dJ6_bitCount_0f7a4_11 ?_
  refine r_iand X dJ6_bitCount_0f7a4_14 ?_
  refine lv_iload_n X.1 X.2.1 dJ6_bitCount_0f7a4_15 rfl (lv_at hl 0 rfl) ?_
  refine r_iconst X 2 dJ6_bitCount_0f7a4_16 ?_
  refine r_iushr X dJ6_bitCount_0f7a4_17 ?_
  refine r_ldcw X 858993459 (tb t_904 rfl) (by decide) dJ6_bitCount_0f7a4_18 ?_
  refine r_iand X dJ6_bitCount_0f7a4_21 ?_
  refine r_iadd X dJ6_bitCount_0f7a4_22 ?_
  obtain ⟨l0_2, el0_2, hf⟩ := lt_inv hf
  refine r_eqi el0_2 ?_
  refine lv_istore_n (lv' := [(0, .int (i32 l0_2))]) X.1 X.2.1 dJ6_bitCount_0f7a4_23 rfl hl (by decide) rfl (fun ls hl => ?_)
  refine lv_iload_n X.1 X.2.1 dJ6_bitCount_0f7a4_24 rfl (lv_at hl 0 rfl) ?_
  refine lv_iload_n X.1 X.2.1 dJ6_bitCount_0f7a4_25 rfl (lv_at hl 0 rfl) ?_
  refine r_iconst X 4 dJ6_bitCount_0f7a4_26 ?_
  refine r_iushr X dJ6_bitCount_0f7a4_27 ?_
  refine r_iadd X dJ6_bitCount_0f7a4_28 ?_
  refine r_ldcw X 252645135 (tb t_905 rfl) (by decide) dJ6_bitCount_0f7a4_29 ?_
  refine r_iand X dJ6_bitCount_0f7a4_32 ?_
  obtain ⟨l0_3, el0_3, hf⟩ := lt_inv hf
  refine r_eqi el0_3 ?_
  refine lv_istore_n (lv' := [(0, .int (i32 l0_3))]) X.1 X.2.1 dJ6_bitCount_0f7a4_33 rfl hl (by decide) rfl (fun ls hl => ?_)
  refine lv_iload_n X.1 X.2.1 dJ6_bitCount_0f7a4_34 rfl (lv_at hl 0 rfl) ?_
  refine lv_iload_n X.1 X.2.1 dJ6_bitCount_0f7a4_35 rfl (lv_at hl 0 rfl) ?_
  refine r_bipush X 8 (by decide) dJ6_bitCount_0f7a4_36 ?_
  refine r_iushr X dJ6_bitCount_0f7a4_38 ?_
  refine r_iadd X dJ6_bitCount_0f7a4_39 ?_
  obtain ⟨l0_4, el0_4, hf⟩ := lt_inv hf
  refine r_eqi el0_4 ?_
  refine lv_istore_n (lv' := [(0, .int (i32 l0_4))]) X.1 X.2.1 dJ6_bitCount_0f7a4_40 rfl hl (by decide) rfl (fun ls hl => ?_)
  refine lv_iload_n X.1 X.2.1 dJ6_bitCount_0f7a4_41 rfl (lv_at hl 0 rfl) ?_
  refine lv_iload_n X.1 X.2.1 dJ6_bitCount_0f7a4_42 rfl (lv_at hl 0 rfl) ?_
  refine r_bipush X 16 (by decide) dJ6_bitCount_0f7a4_43 ?_
  refine r_iushr X dJ6_bitCount_0f7a4_45 ?_
  refine r_iadd X dJ6_bitCount_0f7a4_46 ?_
  obtain ⟨l0_5, el0_5, hf⟩ := lt_inv hf
  refine r_eqi el0_5 ?_
  refine lv_istore_n (lv' := [(0, .int (i32 l0_5))]) X.1 X.2.1 dJ6_bitCount_0f7a4_47 rfl hl (by decide) rfl (fun ls hl => ?_)
  refine lv_iload_n X.1 X.2.1 dJ6_bitCount_0f7a4_48 rfl (lv_at hl 0 rfl) ?_
  refine r_bipush X 63 (by decide) dJ6_bitCount_0f7a4_49 ?_
  refine r_iand X dJ6_bitCount_0f7a4_51 ?_
  cases so_inv hf
  exact r_iret X hP hS dJ6_bitCount_0f7a4_52
set_option maxHeartbeats 4000000 in
theorem c_J6_bitCount_0f7a4 {l : Launch} {G : GT} {σ : Mem} {res : Int} {l0 : Int} (hf : J6_bitCount_0f7a4 σ l0 = some res) : CT l yJ6_bitCount_0f7a4 cJ6_bitCount_0f7a4 1 (some FieldType.int) 1 60 G [.int (i32 l0)] σ σ (some (.int (i32 res))) := by
  refine CT.mk (own := RJ6) (by decide) rfl (Nat.le_of_ble_eq_true rfl) ?_
  intro p e s m below meth c ls X hP hS hl
  have hl : lv_has ls 1 [(0, .int (i32 l0))] := hl
  exact a_J6_bitCount_0f7a4_0 X  s.heap [] ls l0 hP hS hf hl
theorem k_J6_bitCount_0f7a4 {p : Program} {l : Launch} {e : Env} {R : Room} {s : State} {m : MethodId} {args : Array Value} {below : List Frame} {meth : Method} {c : Code} {H : Heap} {locs : List Loc} {Q : State → Prop} {cc : ByteArray} {nL : Nat} {own : String} {ret : Option FieldType} {fF fL : Nat} {G : GT} {pc idx : Nat} {ls : Array Slot} {rest : List Value} {σ : Mem} {res : Int} {l0 : Int} (X : CX p R s m args meth c cc nL own ret fF fL G) (hP : PW G σ H) (hS : va_S (AA G) s.heap H locs) (hls : ls.size = nL) (hf : J6_bitCount_0f7a4 σ l0 = some res) (h1 : Cond.methodLink own idx yJ6_bitCount_0f7a4 ∈ TB) (hR : 1 + 1 ≤ fF ∧ 8 + (1 + 11) + 60 ≤ fL) (hW : (rest.map fun v => v.category).sum ≤ 8) (hd : decode cc pc = .ok (.invokestatic idx, 3)) (kk : ∀ (H1 : Heap) (locs1 : List Loc), PW G σ H1 → va_S (AA G) s.heap H1 locs1 → W p l e R s m args below meth c H1 locs1 0 0 Q (F0 m (pc + 3) ls (.int (i32 res) :: rest))) : W p l e R s m args below meth c H locs 0 0 Q (F0 m pc ls (.int (i32 l0) :: rest)) := r_callS (n := 1) X hP hS hls (c_J6_bitCount_0f7a4 hf) h1 (tb t_901 rfl) (tb t_94 rfl) (tb t_902 rfl) (by decide +kernel) hR rfl rfl hW hd kk
theorem kn_J6_bitCount_0f7a4 {p : Program} {l : Launch} {e : Env} {R : Room} {s : State} {m : MethodId} {args : Array Value} {below : List Frame} {meth : Method} {c : Code} {H : Heap} {locs : List Loc} {Q : State → Prop} {cc : ByteArray} {nL : Nat} {own : String} {ret : Option FieldType} {fF fL : Nat} {G : GT} {pc idx : Nat} {ls : Array Slot} {rest : List Value} {σ : Mem} {res : Int} {l0 : Int} (X : CX p R s m args meth c cc nL own ret fF fL G) (hP : PW G σ H) (hS : va_S (AA G) s.heap H locs) (hls : ls.size = nL) (hf : J6_bitCount_0f7a4 σ l0 = some res) {host : String} (h1 : Cond.methodLinkNest own idx yJ6_bitCount_0f7a4 host ∈ NWl) (hR : 1 + 1 ≤ fF ∧ 8 + (1 + 11) + 60 ≤ fL) (hW : (rest.map fun v => v.category).sum ≤ 8) (hd : decode cc pc = .ok (.invokestatic idx, 3)) (kk : ∀ (H1 : Heap) (locs1 : List Loc), PW G σ H1 → va_S (AA G) s.heap H1 locs1 → W p l e R s m args below meth c H1 locs1 0 0 Q (F0 m (pc + 3) ls (.int (i32 res) :: rest))) : W p l e R s m args below meth c H locs 0 0 Q (F0 m pc ls (.int (i32 l0) :: rest)) := r_callSN (n := 1) X hP hS hls (c_J6_bitCount_0f7a4 hf) h1 (tb t_901 rfl) (tb t_94 rfl) (tb t_902 rfl) (by decide +kernel) hR rfl rfl hW hd kk
/-! J7_fill_53178 -/
theorem dJ7_fill_53178_0 : decode cJ7_fill_53178 0 = .ok (.iconst 0, 1) := by decide +kernel
theorem dJ7_fill_53178_1 : decode cJ7_fill_53178 1 = .ok (.istore_n 2, 1) := by decide +kernel
theorem dJ7_fill_53178_2 : decode cJ7_fill_53178 2 = .ok (.aload_n 0, 1) := by decide +kernel
theorem dJ7_fill_53178_3 : decode cJ7_fill_53178 3 = .ok (.arraylength, 1) := by decide +kernel
theorem dJ7_fill_53178_4 : decode cJ7_fill_53178 4 = .ok (.istore_n 3, 1) := by decide +kernel
theorem dJ7_fill_53178_5 : decode cJ7_fill_53178 5 = .ok (.iload_n 2, 1) := by decide +kernel
theorem dJ7_fill_53178_6 : decode cJ7_fill_53178 6 = .ok (.iload_n 3, 1) := by decide +kernel
theorem dJ7_fill_53178_7 : decode cJ7_fill_53178 7 = .ok (.if_icmp .ge 13, 3) := by decide +kernel
theorem dJ7_fill_53178_10 : decode cJ7_fill_53178 10 = .ok (.aload_n 0, 1) := by decide +kernel
theorem dJ7_fill_53178_11 : decode cJ7_fill_53178 11 = .ok (.iload_n 2, 1) := by decide +kernel
theorem dJ7_fill_53178_12 : decode cJ7_fill_53178 12 = .ok (.iload_n 1, 1) := by decide +kernel
theorem dJ7_fill_53178_13 : decode cJ7_fill_53178 13 = .ok (.iastore, 1) := by decide +kernel
theorem dJ7_fill_53178_14 : decode cJ7_fill_53178 14 = .ok (.iinc 2 1, 3) := by decide +kernel
theorem dJ7_fill_53178_17 : decode cJ7_fill_53178 17 = .ok (.goto (-12), 3) := by decide +kernel
theorem dJ7_fill_53178_20 : decode cJ7_fill_53178 20 = .ok (.return_, 1) := by decide +kernel
def S_J7_fill_53178_5 (fn : Mem → Nat → Int → Int → Int → Option (Mem)) (p : Program) (l : Launch) (e : Env) (R : Room) (s : State) (m : MethodId) (args : Array Value) (below : List Frame) (meth : Method) (c : Code) (G : GT) (τ : Mem) : Prop := ∀ (σ : Mem) (H : Heap) (locs : List Loc) (ls : Array Slot) (l0 : Nat) (l1 : Int) (l2 : Int) (l3 : Int), kd l0 = 13 → PW G σ H → va_S (AA G) s.heap H locs → fn σ l0 l1 l2 l3 = some τ → lv_has ls 4 [(0, .ref (gh G + l0)), (1, .int (i32 l1)), (2, .int (i32 l2)), (3, .int (i32 l3))] → W p l e R s m args below meth c H locs 0 0 (MQ below (QM G none τ) args s 0 0 (AA G)) (F0 m 5 ls [])
def J7_fill_53178_B5 (rec5 : Mem → Nat → Int → Int → Int → Option (Mem)) (σ : Mem) (l0 : Nat) (l1 : Int) (l2 : Int) (l3 : Int) : Option (Mem) :=
  if w32 l3 ≤ w32 l2 then
    some σ
  else
  ag (ln l0) l2 fun j1 =>
  lt (st σ l0 j1 l1) fun s2 =>
  lt (l2 + 1) fun l2_3 =>
  rec5 s2 l0 l1 l2_3 l3
def J7_fill_53178_L5 : Nat → Mem → Nat → Int → Int → Int → Option (Mem)
  | 0 => fun _ _ _ _ _ => none
  | n + 1 => J7_fill_53178_B5 (J7_fill_53178_L5 n)
def J7_fill_53178 (σ : Mem) (l0 : Nat) (l1 : Int) : Option (Mem) :=
  J7_fill_53178_L5 5000 σ l0 l1 0 ((ln l0 : Nat) : Int)
def S_J7_fill_53178_0 (fn : Mem → Nat → Int → Option (Mem)) (p : Program) (l : Launch) (e : Env) (R : Room) (s : State) (m : MethodId) (args : Array Value) (below : List Frame) (meth : Method) (c : Code) (G : GT) (τ : Mem) : Prop := ∀ (σ : Mem) (H : Heap) (locs : List Loc) (ls : Array Slot) (l0 : Nat) (l1 : Int), kd l0 = 13 → PW G σ H → va_S (AA G) s.heap H locs → fn σ l0 l1 = some τ → lv_has ls 4 [(0, .ref (gh G + l0)), (1, .int (i32 l1))] → W p l e R s m args below meth c H locs 0 0 (MQ below (QM G none τ) args s 0 0 (AA G)) (F0 m 0 ls [])
set_option maxHeartbeats 4000000 in
theorem a_J7_fill_53178_5 {p : Program} {l : Launch} {e : Env} {R : Room} {s : State} {m : MethodId} {args : Array Value} {below : List Frame} {meth : Method} {c : Code} {G : GT} {τ : Mem} {rec5 : Mem → Nat → Int → Int → Int → Option (Mem)} (X : CX p R s m args meth c cJ7_fill_53178 4 RJ7 none 1 60 G) (h5 : S_J7_fill_53178_5 rec5 p l e R s m args below meth c G τ) : S_J7_fill_53178_5 (J7_fill_53178_B5 rec5) p l e R s m args below meth c G τ := by
  intro σ H locs ls l0 l1 l2 l3 hk_l0 hP hS hf hl
  unfold J7_fill_53178_B5 at hf
  refine lv_iload_n X.1 X.2.1 dJ7_fill_53178_5 rfl (lv_at hl 2 rfl) ?_
  refine lv_iload_n X.1 X.2.1 dJ7_fill_53178_6 rfl (lv_at hl 3 rfl) ?_
  refine r_icmp_ge (tgt := 20) X dJ7_fill_53178_7 (by decide) (fun q => ?_) (fun q => ?_)
  · replace hf := it_inv q hf
    cases so_inv hf
    exact r_vret X hP hS dJ7_fill_53178_20
  · replace hf := ie_inv q hf
    refine lv_aload_n X.1 X.2.1 dJ7_fill_53178_10 rfl (lv_at hl 0 rfl) ?_
    refine lv_iload_n X.1 X.2.1 dJ7_fill_53178_11 rfl (lv_at hl 2 rfl) ?_
    refine lv_iload_n X.1 X.2.1 dJ7_fill_53178_12 rfl (lv_at hl 1 rfl) ?_
    obtain ⟨j1, hij1, hjj1, hlj1, hf⟩ := ag_inv hf
    refine r_iast X hP hS hk_l0 rfl hij1 hjj1 dJ7_fill_53178_13 (fun H locs hP hS => ?_)
    obtain ⟨s2, es2, hf⟩ := lt_inv hf
    rw [es2] at hP
    obtain ⟨l2_3, el2_3, hf⟩ := lt_inv hf
    refine lv_iinc (v := i32 l2_3) (lv' := [(2, .int (i32 l2_3)), (0, .ref (gh G + l0)), (1, .int (i32 l1)), (3, .int (i32 l3))]) X.1 X.2.1 dJ7_fill_53178_14 hl (k := 2) rfl (by rw [← el2_3]; exact i32_add _ _) (by decide) rfl (fun ls hl => ?_)
    refine lv_goto (tgt := 5) X.1 X.2.1 dJ7_fill_53178_17 (by decide) ?_
    exact h5 s2 H locs ls l0 l1 l2_3 l3 hk_l0 hP hS hf (lv_sub hl [1, 2, 0, 3] rfl)
theorem al_J7_fill_53178_5 {p : Program} {l : Launch} {e : Env} {R : Room} {s : State} {m : MethodId} {args : Array Value} {below : List Frame} {meth : Method} {c : Code} {G : GT} {τ : Mem} (X : CX p R s m args meth c cJ7_fill_53178 4 RJ7 none 1 60 G) : ∀ n, S_J7_fill_53178_5 (J7_fill_53178_L5 n) p l e R s m args below meth c G τ := by
  intro n
  induction n with
  | zero =>
    intro σ H locs ls l0 l1 l2 l3 hk_l0 hP hS hf hl
    cases hf
  | succ n ih => exact a_J7_fill_53178_5 X ih
set_option maxHeartbeats 4000000 in
theorem a_J7_fill_53178_0 {p : Program} {l : Launch} {e : Env} {R : Room} {s : State} {m : MethodId} {args : Array Value} {below : List Frame} {meth : Method} {c : Code} {G : GT} {τ : Mem} (X : CX p R s m args meth c cJ7_fill_53178 4 RJ7 none 1 60 G) : S_J7_fill_53178_0 (J7_fill_53178) p l e R s m args below meth c G τ := by
  intro σ H locs ls l0 l1 hk_l0 hP hS hf hl
  unfold J7_fill_53178 at hf
  refine r_iconst X 0 dJ7_fill_53178_0 ?_
  refine lv_istore_n (lv' := [(2, .int (i32 0)), (0, .ref (gh G + l0)), (1, .int (i32 l1))]) X.1 X.2.1 dJ7_fill_53178_1 rfl hl (by decide) rfl (fun ls hl => ?_)
  refine lv_aload_n X.1 X.2.1 dJ7_fill_53178_2 rfl (lv_at hl 1 rfl) ?_
  refine r_alen13 X hP hk_l0 rfl dJ7_fill_53178_3 ?_
  refine lv_istore_n (lv' := [(3, .int (i32 ((ln l0 : Nat) : Int))), (2, .int (i32 0)), (0, .ref (gh G + l0)), (1, .int (i32 l1))]) X.1 X.2.1 dJ7_fill_53178_4 rfl hl (by decide) rfl (fun ls hl => ?_)
  exact al_J7_fill_53178_5 X 5000 σ H locs ls l0 l1 0 ((ln l0 : Nat) : Int) hk_l0 hP hS hf (lv_sub hl [2, 3, 1, 0] rfl)
set_option maxHeartbeats 4000000 in
theorem c_J7_fill_53178 {l : Launch} {G : GT} {σ τ : Mem} {l0 : Nat} {l1 : Int} (hk_l0 : kd l0 = 13) (hf : J7_fill_53178 σ l0 l1 = some τ) : CT l yJ7_fill_53178 cJ7_fill_53178 4 none 1 60 G [.ref (gh G + l0), .int (i32 l1)] σ τ none := by
  refine CT.mk (own := RJ7) (by decide) rfl (Nat.le_of_ble_eq_true rfl) ?_
  intro p e s m below meth c ls X hP hS hl
  have hl : lv_has ls 4 [(0, .ref (gh G + l0)), (1, .int (i32 l1))] := hl
  exact a_J7_fill_53178_0 X σ s.heap [] ls l0 l1 hk_l0 hP hS hf hl
theorem k_J7_fill_53178 {p : Program} {l : Launch} {e : Env} {R : Room} {s : State} {m : MethodId} {args : Array Value} {below : List Frame} {meth : Method} {c : Code} {H : Heap} {locs : List Loc} {Q : State → Prop} {cc : ByteArray} {nL : Nat} {own : String} {ret : Option FieldType} {fF fL : Nat} {G : GT} {pc idx : Nat} {ls : Array Slot} {rest : List Value} {σ τ : Mem} {l0 : Nat} {l1 : Int} (X : CX p R s m args meth c cc nL own ret fF fL G) (hP : PW G σ H) (hS : va_S (AA G) s.heap H locs) (hls : ls.size = nL) (hk_l0 : kd l0 = 13) (hf : J7_fill_53178 σ l0 l1 = some τ) (h1 : Cond.methodLink own idx yJ7_fill_53178 ∈ TB) (hR : 1 + 1 ≤ fF ∧ 8 + (4 + 11) + 60 ≤ fL) (hW : (rest.map fun v => v.category).sum ≤ 8) (hd : decode cc pc = .ok (.invokestatic idx, 3)) (kk : ∀ (H1 : Heap) (locs1 : List Loc), PW G τ H1 → va_S (AA G) s.heap H1 locs1 → W p l e R s m args below meth c H1 locs1 0 0 Q (F0 m (pc + 3) ls (rest))) : W p l e R s m args below meth c H locs 0 0 Q (F0 m pc ls (.int (i32 l1) :: .ref (gh G + l0) :: rest)) := r_callS (n := 2) X hP hS hls (c_J7_fill_53178 hk_l0 hf) h1 (tb t_118 rfl) (tb t_78 rfl) (tb t_119 rfl) (by decide +kernel) hR rfl rfl hW hd kk
theorem kn_J7_fill_53178 {p : Program} {l : Launch} {e : Env} {R : Room} {s : State} {m : MethodId} {args : Array Value} {below : List Frame} {meth : Method} {c : Code} {H : Heap} {locs : List Loc} {Q : State → Prop} {cc : ByteArray} {nL : Nat} {own : String} {ret : Option FieldType} {fF fL : Nat} {G : GT} {pc idx : Nat} {ls : Array Slot} {rest : List Value} {σ τ : Mem} {l0 : Nat} {l1 : Int} (X : CX p R s m args meth c cc nL own ret fF fL G) (hP : PW G σ H) (hS : va_S (AA G) s.heap H locs) (hls : ls.size = nL) (hk_l0 : kd l0 = 13) (hf : J7_fill_53178 σ l0 l1 = some τ) {host : String} (h1 : Cond.methodLinkNest own idx yJ7_fill_53178 host ∈ NWl) (hR : 1 + 1 ≤ fF ∧ 8 + (4 + 11) + 60 ≤ fL) (hW : (rest.map fun v => v.category).sum ≤ 8) (hd : decode cc pc = .ok (.invokestatic idx, 3)) (kk : ∀ (H1 : Heap) (locs1 : List Loc), PW G τ H1 → va_S (AA G) s.heap H1 locs1 → W p l e R s m args below meth c H1 locs1 0 0 Q (F0 m (pc + 3) ls (rest))) : W p l e R s m args below meth c H locs 0 0 Q (F0 m pc ls (.int (i32 l1) :: .ref (gh G + l0) :: rest)) := r_callSN (n := 2) X hP hS hls (c_J7_fill_53178 hk_l0 hf) h1 (tb t_118 rfl) (tb t_78 rfl) (tb t_119 rfl) (by decide +kernel) hR rfl rfl hW hd kk
/-! J7_rangeCheck_23922 -/
theorem dJ7_rangeCheck_23922_0 : decode cJ7_rangeCheck_23922 0 = .ok (.iload_n 1, 1) := by decide +kernel
theorem dJ7_rangeCheck_23922_1 : decode cJ7_rangeCheck_23922 1 = .ok (.iload_n 2, 1) := by decide +kernel
theorem dJ7_rangeCheck_23922_2 : decode cJ7_rangeCheck_23922 2 = .ok (.if_icmp .le 44, 3) := by decide +kernel
theorem dJ7_rangeCheck_23922_5 : decode cJ7_rangeCheck_23922 5 = .ok (.new 43, 3) := by decide +kernel
theorem dJ7_rangeCheck_23922_8 : decode cJ7_rangeCheck_23922 8 = .ok (.dup, 1) := by decide +kernel
theorem dJ7_rangeCheck_23922_9 : decode cJ7_rangeCheck_23922 9 = .ok (.new 45, 3) := by decide +kernel
theorem dJ7_rangeCheck_23922_12 : decode cJ7_rangeCheck_23922 12 = .ok (.dup, 1) := by decide +kernel
theorem dJ7_rangeCheck_23922_13 : decode cJ7_rangeCheck_23922 13 = .ok (.invokespecial 47, 3) := by decide +kernel
theorem dJ7_rangeCheck_23922_16 : decode cJ7_rangeCheck_23922 16 = .ok (.ldc 48, 2) := by decide +kernel
theorem dJ7_rangeCheck_23922_18 : decode cJ7_rangeCheck_23922 18 = .ok (.invokevirtual 50, 3) := by decide +kernel
theorem dJ7_rangeCheck_23922_21 : decode cJ7_rangeCheck_23922 21 = .ok (.iload_n 1, 1) := by decide +kernel
theorem dJ7_rangeCheck_23922_22 : decode cJ7_rangeCheck_23922 22 = .ok (.invokevirtual 54, 3) := by decide +kernel
theorem dJ7_rangeCheck_23922_25 : decode cJ7_rangeCheck_23922 25 = .ok (.ldc 57, 2) := by decide +kernel
theorem dJ7_rangeCheck_23922_27 : decode cJ7_rangeCheck_23922 27 = .ok (.invokevirtual 50, 3) := by decide +kernel
theorem dJ7_rangeCheck_23922_30 : decode cJ7_rangeCheck_23922 30 = .ok (.iload_n 2, 1) := by decide +kernel
theorem dJ7_rangeCheck_23922_31 : decode cJ7_rangeCheck_23922 31 = .ok (.invokevirtual 54, 3) := by decide +kernel
theorem dJ7_rangeCheck_23922_34 : decode cJ7_rangeCheck_23922 34 = .ok (.ldc 59, 2) := by decide +kernel
theorem dJ7_rangeCheck_23922_36 : decode cJ7_rangeCheck_23922 36 = .ok (.invokevirtual 50, 3) := by decide +kernel
theorem dJ7_rangeCheck_23922_39 : decode cJ7_rangeCheck_23922 39 = .ok (.invokevirtual 61, 3) := by decide +kernel
theorem dJ7_rangeCheck_23922_42 : decode cJ7_rangeCheck_23922 42 = .ok (.invokespecial 65, 3) := by decide +kernel
theorem dJ7_rangeCheck_23922_45 : decode cJ7_rangeCheck_23922 45 = .ok (.athrow, 1) := by decide +kernel
theorem dJ7_rangeCheck_23922_46 : decode cJ7_rangeCheck_23922 46 = .ok (.iload_n 1, 1) := by decide +kernel
theorem dJ7_rangeCheck_23922_47 : decode cJ7_rangeCheck_23922 47 = .ok (.ifCond .ge 12, 3) := by decide +kernel
theorem dJ7_rangeCheck_23922_50 : decode cJ7_rangeCheck_23922 50 = .ok (.new 68, 3) := by decide +kernel
theorem dJ7_rangeCheck_23922_53 : decode cJ7_rangeCheck_23922 53 = .ok (.dup, 1) := by decide +kernel
theorem dJ7_rangeCheck_23922_54 : decode cJ7_rangeCheck_23922 54 = .ok (.iload_n 1, 1) := by decide +kernel
theorem dJ7_rangeCheck_23922_55 : decode cJ7_rangeCheck_23922 55 = .ok (.invokespecial 70, 3) := by decide +kernel
theorem dJ7_rangeCheck_23922_58 : decode cJ7_rangeCheck_23922 58 = .ok (.athrow, 1) := by decide +kernel
theorem dJ7_rangeCheck_23922_59 : decode cJ7_rangeCheck_23922 59 = .ok (.iload_n 2, 1) := by decide +kernel
theorem dJ7_rangeCheck_23922_60 : decode cJ7_rangeCheck_23922 60 = .ok (.iload_n 0, 1) := by decide +kernel
theorem dJ7_rangeCheck_23922_61 : decode cJ7_rangeCheck_23922 61 = .ok (.if_icmp .le 12, 3) := by decide +kernel
theorem dJ7_rangeCheck_23922_64 : decode cJ7_rangeCheck_23922 64 = .ok (.new 68, 3) := by decide +kernel
theorem dJ7_rangeCheck_23922_67 : decode cJ7_rangeCheck_23922 67 = .ok (.dup, 1) := by decide +kernel
theorem dJ7_rangeCheck_23922_68 : decode cJ7_rangeCheck_23922 68 = .ok (.iload_n 2, 1) := by decide +kernel
theorem dJ7_rangeCheck_23922_69 : decode cJ7_rangeCheck_23922 69 = .ok (.invokespecial 70, 3) := by decide +kernel
theorem dJ7_rangeCheck_23922_72 : decode cJ7_rangeCheck_23922 72 = .ok (.athrow, 1) := by decide +kernel
theorem dJ7_rangeCheck_23922_73 : decode cJ7_rangeCheck_23922 73 = .ok (.return_, 1) := by decide +kernel
def J7_rangeCheck_23922 (σ : Mem) (l0 : Int) (l1 : Int) (l2 : Int) : Option (Unit) :=
  if w32 l1 ≤ w32 l2 then
    if 0 ≤ w32 l1 then
      if w32 l2 ≤ w32 l0 then
        some ()
      else
      none
    else
    none
  else
  none
def S_J7_rangeCheck_23922_0 (fn : Int → Int → Int → Option (Unit)) (p : Program) (l : Launch) (e : Env) (R : Room) (s : State) (m : MethodId) (args : Array Value) (below : List Frame) (meth : Method) (c : Code) (G : GT) (σ : Mem) : Prop := ∀ (H : Heap) (locs : List Loc) (ls : Array Slot) (l0 : Int) (l1 : Int) (l2 : Int), PW G σ H → va_S (AA G) s.heap H locs → fn l0 l1 l2 = some () → lv_has ls 3 [(0, .int (i32 l0)), (1, .int (i32 l1)), (2, .int (i32 l2))] → W p l e R s m args below meth c H locs 0 0 (MQ below (QM G none σ) args s 0 0 (AA G)) (F0 m 0 ls [])
set_option maxHeartbeats 4000000 in
theorem a_J7_rangeCheck_23922_0 {p : Program} {l : Launch} {e : Env} {R : Room} {s : State} {m : MethodId} {args : Array Value} {below : List Frame} {meth : Method} {c : Code} {G : GT} {σ : Mem} (X : CX p R s m args meth c cJ7_rangeCheck_23922 3 RJ7 none 1 60 G) : S_J7_rangeCheck_23922_0 (J7_rangeCheck_23922 σ) p l e R s m args below meth c G σ := by
  intro H locs ls l0 l1 l2 hP hS hf hl
  unfold J7_rangeCheck_23922 at hf
  refine lv_iload_n X.1 X.2.1 dJ7_rangeCheck_23922_0 rfl (lv_at hl 1 rfl) ?_
  refine lv_iload_n X.1 X.2.1 dJ7_rangeCheck_23922_1 rfl (lv_at hl 2 rfl) ?_
  refine r_icmp_le (tgt := 46) X dJ7_rangeCheck_23922_2 (by decide) (fun q => ?_) (fun q => ?_)
  · replace hf := it_inv q hf
    refine lv_iload_n X.1 X.2.1 dJ7_rangeCheck_23922_46 rfl (lv_at hl 1 rfl) ?_
    refine r_if_ge (tgt := 59) X dJ7_rangeCheck_23922_47 (by decide) (fun q => ?_) (fun q => ?_)
    · replace hf := it_inv q hf
      refine lv_iload_n X.1 X.2.1 dJ7_rangeCheck_23922_59 rfl (lv_at hl 2 rfl) ?_
      refine lv_iload_n X.1 X.2.1 dJ7_rangeCheck_23922_60 rfl (lv_at hl 0 rfl) ?_
      refine r_icmp_le (tgt := 73) X dJ7_rangeCheck_23922_61 (by decide) (fun q => ?_) (fun q => ?_)
      · replace hf := it_inv q hf
        exact r_vret X hP hS dJ7_rangeCheck_23922_73
      · replace hf := ie_inv q hf
        cases hf
    · replace hf := ie_inv q hf
      cases hf
  · replace hf := ie_inv q hf
    cases hf
set_option maxHeartbeats 4000000 in
theorem c_J7_rangeCheck_23922 {l : Launch} {G : GT} {σ : Mem} {l0 : Int} {l1 : Int} {l2 : Int} (hf : J7_rangeCheck_23922 σ l0 l1 l2 = some ()) : CT l yJ7_rangeCheck_23922 cJ7_rangeCheck_23922 3 none 1 60 G [.int (i32 l0), .int (i32 l1), .int (i32 l2)] σ σ none := by
  refine CT.mk (own := RJ7) (by decide) rfl (Nat.le_of_ble_eq_true rfl) ?_
  intro p e s m below meth c ls X hP hS hl
  have hl : lv_has ls 3 [(0, .int (i32 l0)), (1, .int (i32 l1)), (2, .int (i32 l2))] := hl
  exact a_J7_rangeCheck_23922_0 X  s.heap [] ls l0 l1 l2 hP hS hf hl
theorem k_J7_rangeCheck_23922 {p : Program} {l : Launch} {e : Env} {R : Room} {s : State} {m : MethodId} {args : Array Value} {below : List Frame} {meth : Method} {c : Code} {H : Heap} {locs : List Loc} {Q : State → Prop} {cc : ByteArray} {nL : Nat} {own : String} {ret : Option FieldType} {fF fL : Nat} {G : GT} {pc idx : Nat} {ls : Array Slot} {rest : List Value} {σ : Mem} {l0 : Int} {l1 : Int} {l2 : Int} (X : CX p R s m args meth c cc nL own ret fF fL G) (hP : PW G σ H) (hS : va_S (AA G) s.heap H locs) (hls : ls.size = nL) (hf : J7_rangeCheck_23922 σ l0 l1 l2 = some ()) (h1 : Cond.methodLink own idx yJ7_rangeCheck_23922 ∈ TB) (hR : 1 + 1 ≤ fF ∧ 8 + (3 + 11) + 60 ≤ fL) (hW : (rest.map fun v => v.category).sum ≤ 8) (hd : decode cc pc = .ok (.invokestatic idx, 3)) (kk : ∀ (H1 : Heap) (locs1 : List Loc), PW G σ H1 → va_S (AA G) s.heap H1 locs1 → W p l e R s m args below meth c H1 locs1 0 0 Q (F0 m (pc + 3) ls (rest))) : W p l e R s m args below meth c H locs 0 0 Q (F0 m pc ls (.int (i32 l2) :: .int (i32 l1) :: .int (i32 l0) :: rest)) := r_callS (n := 3) X hP hS hls (c_J7_rangeCheck_23922 hf) h1 (tb t_796 rfl) (tb t_78 rfl) (tb t_797 rfl) (by decide +kernel) hR rfl rfl hW hd kk
theorem kn_J7_rangeCheck_23922 {p : Program} {l : Launch} {e : Env} {R : Room} {s : State} {m : MethodId} {args : Array Value} {below : List Frame} {meth : Method} {c : Code} {H : Heap} {locs : List Loc} {Q : State → Prop} {cc : ByteArray} {nL : Nat} {own : String} {ret : Option FieldType} {fF fL : Nat} {G : GT} {pc idx : Nat} {ls : Array Slot} {rest : List Value} {σ : Mem} {l0 : Int} {l1 : Int} {l2 : Int} (X : CX p R s m args meth c cc nL own ret fF fL G) (hP : PW G σ H) (hS : va_S (AA G) s.heap H locs) (hls : ls.size = nL) (hf : J7_rangeCheck_23922 σ l0 l1 l2 = some ()) {host : String} (h1 : Cond.methodLinkNest own idx yJ7_rangeCheck_23922 host ∈ NWl) (hR : 1 + 1 ≤ fF ∧ 8 + (3 + 11) + 60 ≤ fL) (hW : (rest.map fun v => v.category).sum ≤ 8) (hd : decode cc pc = .ok (.invokestatic idx, 3)) (kk : ∀ (H1 : Heap) (locs1 : List Loc), PW G σ H1 → va_S (AA G) s.heap H1 locs1 → W p l e R s m args below meth c H1 locs1 0 0 Q (F0 m (pc + 3) ls (rest))) : W p l e R s m args below meth c H locs 0 0 Q (F0 m pc ls (.int (i32 l2) :: .int (i32 l1) :: .int (i32 l0) :: rest)) := r_callSN (n := 3) X hP hS hls (c_J7_rangeCheck_23922 hf) h1 (tb t_796 rfl) (tb t_78 rfl) (tb t_797 rfl) (by decide +kernel) hR rfl rfl hW hd kk
/-! J7_fill_bad5a -/
theorem dJ7_fill_bad5a_0 : decode cJ7_fill_bad5a 0 = .ok (.aload_n 0, 1) := by decide +kernel
theorem dJ7_fill_bad5a_1 : decode cJ7_fill_bad5a 1 = .ok (.arraylength, 1) := by decide +kernel
theorem dJ7_fill_bad5a_2 : decode cJ7_fill_bad5a 2 = .ok (.iload_n 1, 1) := by decide +kernel
theorem dJ7_fill_bad5a_3 : decode cJ7_fill_bad5a 3 = .ok (.iload_n 2, 1) := by decide +kernel
theorem dJ7_fill_bad5a_4 : decode cJ7_fill_bad5a 4 = .ok (.invokestatic 13, 3) := by decide +kernel
theorem dJ7_fill_bad5a_7 : decode cJ7_fill_bad5a 7 = .ok (.iload_n 1, 1) := by decide +kernel
theorem dJ7_fill_bad5a_8 : decode cJ7_fill_bad5a 8 = .ok (.istore 5, 2) := by decide +kernel
theorem dJ7_fill_bad5a_10 : decode cJ7_fill_bad5a 10 = .ok (.iload 5, 2) := by decide +kernel
theorem dJ7_fill_bad5a_12 : decode cJ7_fill_bad5a 12 = .ok (.iload_n 2, 1) := by decide +kernel
theorem dJ7_fill_bad5a_13 : decode cJ7_fill_bad5a 13 = .ok (.if_icmp .ge 14, 3) := by decide +kernel
theorem dJ7_fill_bad5a_16 : decode cJ7_fill_bad5a 16 = .ok (.aload_n 0, 1) := by decide +kernel
theorem dJ7_fill_bad5a_17 : decode cJ7_fill_bad5a 17 = .ok (.iload 5, 2) := by decide +kernel
theorem dJ7_fill_bad5a_19 : decode cJ7_fill_bad5a 19 = .ok (.lload_n 3, 1) := by decide +kernel
theorem dJ7_fill_bad5a_20 : decode cJ7_fill_bad5a 20 = .ok (.lastore, 1) := by decide +kernel
theorem dJ7_fill_bad5a_21 : decode cJ7_fill_bad5a 21 = .ok (.iinc 5 1, 3) := by decide +kernel
theorem dJ7_fill_bad5a_24 : decode cJ7_fill_bad5a 24 = .ok (.goto (-14), 3) := by decide +kernel
theorem dJ7_fill_bad5a_27 : decode cJ7_fill_bad5a 27 = .ok (.return_, 1) := by decide +kernel
def S_J7_fill_bad5a_10 (fn : Mem → Nat → Int → Int → Int → Option (Mem)) (p : Program) (l : Launch) (e : Env) (R : Room) (s : State) (m : MethodId) (args : Array Value) (below : List Frame) (meth : Method) (c : Code) (G : GT) (τ : Mem) : Prop := ∀ (σ : Mem) (H : Heap) (locs : List Loc) (ls : Array Slot) (l0 : Nat) (l2 : Int) (l3 : Int) (l5 : Int), kd l0 = 14 → PW G σ H → va_S (AA G) s.heap H locs → fn σ l0 l2 l3 l5 = some τ → lv_has ls 6 [(0, .ref (gh G + l0)), (2, .int (i32 l2)), (3, .long (i64 l3)), (5, .int (i32 l5))] → W p l e R s m args below meth c H locs 0 0 (MQ below (QM G none τ) args s 0 0 (AA G)) (F0 m 10 ls [])
def J7_fill_bad5a_B10 (rec10 : Mem → Nat → Int → Int → Int → Option (Mem)) (σ : Mem) (l0 : Nat) (l2 : Int) (l3 : Int) (l5 : Int) : Option (Mem) :=
  if w32 l2 ≤ w32 l5 then
    some σ
  else
  ag (ln l0) l5 fun j1 =>
  lt (st σ l0 j1 l3) fun s2 =>
  lt (l5 + 1) fun l5_3 =>
  rec10 s2 l0 l2 l3 l5_3
def J7_fill_bad5a_L10 : Nat → Mem → Nat → Int → Int → Int → Option (Mem)
  | 0 => fun _ _ _ _ _ => none
  | n + 1 => J7_fill_bad5a_B10 (J7_fill_bad5a_L10 n)
def J7_fill_bad5a (σ : Mem) (l0 : Nat) (l1 : Int) (l2 : Int) (l3 : Int) : Option (Mem) :=
  bd (J7_rangeCheck_23922 σ ((ln l0 : Nat) : Int) l1 l2) fun _ =>
  J7_fill_bad5a_L10 5000 σ l0 l2 l3 l1
def S_J7_fill_bad5a_0 (fn : Mem → Nat → Int → Int → Int → Option (Mem)) (p : Program) (l : Launch) (e : Env) (R : Room) (s : State) (m : MethodId) (args : Array Value) (below : List Frame) (meth : Method) (c : Code) (G : GT) (τ : Mem) : Prop := ∀ (σ : Mem) (H : Heap) (locs : List Loc) (ls : Array Slot) (l0 : Nat) (l1 : Int) (l2 : Int) (l3 : Int), kd l0 = 14 → PW G σ H → va_S (AA G) s.heap H locs → fn σ l0 l1 l2 l3 = some τ → lv_has ls 6 [(0, .ref (gh G + l0)), (1, .int (i32 l1)), (2, .int (i32 l2)), (3, .long (i64 l3))] → W p l e R s m args below meth c H locs 0 0 (MQ below (QM G none τ) args s 0 0 (AA G)) (F0 m 0 ls [])
set_option maxHeartbeats 4000000 in
theorem a_J7_fill_bad5a_10 {p : Program} {l : Launch} {e : Env} {R : Room} {s : State} {m : MethodId} {args : Array Value} {below : List Frame} {meth : Method} {c : Code} {G : GT} {τ : Mem} {rec10 : Mem → Nat → Int → Int → Int → Option (Mem)} (X : CX p R s m args meth c cJ7_fill_bad5a 6 RJ7 none 2 82 G) (h10 : S_J7_fill_bad5a_10 rec10 p l e R s m args below meth c G τ) : S_J7_fill_bad5a_10 (J7_fill_bad5a_B10 rec10) p l e R s m args below meth c G τ := by
  intro σ H locs ls l0 l2 l3 l5 hk_l0 hP hS hf hl
  unfold J7_fill_bad5a_B10 at hf
  refine lv_iload X.1 X.2.1 dJ7_fill_bad5a_10 (lv_at hl 3 rfl) ?_
  refine lv_iload_n X.1 X.2.1 dJ7_fill_bad5a_12 rfl (lv_at hl 1 rfl) ?_
  refine r_icmp_ge (tgt := 27) X dJ7_fill_bad5a_13 (by decide) (fun q => ?_) (fun q => ?_)
  · replace hf := it_inv q hf
    cases so_inv hf
    exact r_vret X hP hS dJ7_fill_bad5a_27
  · replace hf := ie_inv q hf
    refine lv_aload_n X.1 X.2.1 dJ7_fill_bad5a_16 rfl (lv_at hl 0 rfl) ?_
    refine lv_iload X.1 X.2.1 dJ7_fill_bad5a_17 (lv_at hl 3 rfl) ?_
    refine lv_lload_n X.1 X.2.1 dJ7_fill_bad5a_19 rfl (lv_at hl 2 rfl) ?_
    obtain ⟨j1, hij1, hjj1, hlj1, hf⟩ := ag_inv hf
    refine r_last X hP hS hk_l0 rfl hij1 hjj1 dJ7_fill_bad5a_20 (fun H locs hP hS => ?_)
    obtain ⟨s2, es2, hf⟩ := lt_inv hf
    rw [es2] at hP
    obtain ⟨l5_3, el5_3, hf⟩ := lt_inv hf
    refine lv_iinc (v := i32 l5_3) (lv' := [(5, .int (i32 l5_3)), (0, .ref (gh G + l0)), (2, .int (i32 l2)), (3, .long (i64 l3))]) X.1 X.2.1 dJ7_fill_bad5a_21 hl (k := 3) rfl (by rw [← el5_3]; exact i32_add _ _) (by decide) rfl (fun ls hl => ?_)
    refine lv_goto (tgt := 10) X.1 X.2.1 dJ7_fill_bad5a_24 (by decide) ?_
    exact h10 s2 H locs ls l0 l2 l3 l5_3 hk_l0 hP hS hf (lv_sub hl [1, 2, 3, 0] rfl)
theorem al_J7_fill_bad5a_10 {p : Program} {l : Launch} {e : Env} {R : Room} {s : State} {m : MethodId} {args : Array Value} {below : List Frame} {meth : Method} {c : Code} {G : GT} {τ : Mem} (X : CX p R s m args meth c cJ7_fill_bad5a 6 RJ7 none 2 82 G) : ∀ n, S_J7_fill_bad5a_10 (J7_fill_bad5a_L10 n) p l e R s m args below meth c G τ := by
  intro n
  induction n with
  | zero =>
    intro σ H locs ls l0 l2 l3 l5 hk_l0 hP hS hf hl
    cases hf
  | succ n ih => exact a_J7_fill_bad5a_10 X ih
set_option maxHeartbeats 4000000 in
theorem a_J7_fill_bad5a_0 {p : Program} {l : Launch} {e : Env} {R : Room} {s : State} {m : MethodId} {args : Array Value} {below : List Frame} {meth : Method} {c : Code} {G : GT} {τ : Mem} (X : CX p R s m args meth c cJ7_fill_bad5a 6 RJ7 none 2 82 G) : S_J7_fill_bad5a_0 (J7_fill_bad5a) p l e R s m args below meth c G τ := by
  intro σ H locs ls l0 l1 l2 l3 hk_l0 hP hS hf hl
  unfold J7_fill_bad5a at hf
  refine lv_aload_n X.1 X.2.1 dJ7_fill_bad5a_0 rfl (lv_at hl 0 rfl) ?_
  refine r_alen14 X hP hk_l0 rfl dJ7_fill_bad5a_1 ?_
  refine lv_iload_n X.1 X.2.1 dJ7_fill_bad5a_2 rfl (lv_at hl 1 rfl) ?_
  refine lv_iload_n X.1 X.2.1 dJ7_fill_bad5a_3 rfl (lv_at hl 2 rfl) ?_
  obtain ⟨_, hr1, hf⟩ := bd_inv hf
  refine k_J7_rangeCheck_23922 X hP hS hl.1  hr1 (tb t_795 rfl) (by decide) (Nat.le_of_ble_eq_true rfl) dJ7_fill_bad5a_4 (fun H locs hP hS => ?_)
  refine lv_iload_n X.1 X.2.1 dJ7_fill_bad5a_7 rfl (lv_at hl 1 rfl) ?_
  refine lv_istore (lv' := [(5, .int (i32 l1)), (0, .ref (gh G + l0)), (1, .int (i32 l1)), (2, .int (i32 l2)), (3, .long (i64 l3))]) X.1 X.2.1 dJ7_fill_bad5a_8 hl (by decide) rfl (fun ls hl => ?_)
  exact al_J7_fill_bad5a_10 X 5000 σ H locs ls l0 l2 l3 l1 hk_l0 hP hS hf (lv_sub hl [1, 3, 4, 0] rfl)
set_option maxHeartbeats 4000000 in
theorem c_J7_fill_bad5a {l : Launch} {G : GT} {σ τ : Mem} {l0 : Nat} {l1 : Int} {l2 : Int} {l3 : Int} (hk_l0 : kd l0 = 14) (hf : J7_fill_bad5a σ l0 l1 l2 l3 = some τ) : CT l yJ7_fill_bad5a cJ7_fill_bad5a 6 none 2 82 G [.ref (gh G + l0), .int (i32 l1), .int (i32 l2), .long (i64 l3)] σ τ none := by
  refine CT.mk (own := RJ7) (by decide) rfl (Nat.le_of_ble_eq_true rfl) ?_
  intro p e s m below meth c ls X hP hS hl
  have hl : lv_has ls 6 [(0, .ref (gh G + l0)), (1, .int (i32 l1)), (2, .int (i32 l2)), (3, .long (i64 l3))] := hl
  exact a_J7_fill_bad5a_0 X σ s.heap [] ls l0 l1 l2 l3 hk_l0 hP hS hf hl
theorem k_J7_fill_bad5a {p : Program} {l : Launch} {e : Env} {R : Room} {s : State} {m : MethodId} {args : Array Value} {below : List Frame} {meth : Method} {c : Code} {H : Heap} {locs : List Loc} {Q : State → Prop} {cc : ByteArray} {nL : Nat} {own : String} {ret : Option FieldType} {fF fL : Nat} {G : GT} {pc idx : Nat} {ls : Array Slot} {rest : List Value} {σ τ : Mem} {l0 : Nat} {l1 : Int} {l2 : Int} {l3 : Int} (X : CX p R s m args meth c cc nL own ret fF fL G) (hP : PW G σ H) (hS : va_S (AA G) s.heap H locs) (hls : ls.size = nL) (hk_l0 : kd l0 = 14) (hf : J7_fill_bad5a σ l0 l1 l2 l3 = some τ) (h1 : Cond.methodLink own idx yJ7_fill_bad5a ∈ TB) (hR : 2 + 1 ≤ fF ∧ 8 + (6 + 11) + 82 ≤ fL) (hW : (rest.map fun v => v.category).sum ≤ 8) (hd : decode cc pc = .ok (.invokestatic idx, 3)) (kk : ∀ (H1 : Heap) (locs1 : List Loc), PW G τ H1 → va_S (AA G) s.heap H1 locs1 → W p l e R s m args below meth c H1 locs1 0 0 Q (F0 m (pc + 3) ls (rest))) : W p l e R s m args below meth c H locs 0 0 Q (F0 m pc ls (.long (i64 l3) :: .int (i32 l2) :: .int (i32 l1) :: .ref (gh G + l0) :: rest)) := r_callS (n := 4) X hP hS hls (c_J7_fill_bad5a hk_l0 hf) h1 (tb t_793 rfl) (tb t_78 rfl) (tb t_794 rfl) (by decide +kernel) hR rfl rfl hW hd kk
theorem kn_J7_fill_bad5a {p : Program} {l : Launch} {e : Env} {R : Room} {s : State} {m : MethodId} {args : Array Value} {below : List Frame} {meth : Method} {c : Code} {H : Heap} {locs : List Loc} {Q : State → Prop} {cc : ByteArray} {nL : Nat} {own : String} {ret : Option FieldType} {fF fL : Nat} {G : GT} {pc idx : Nat} {ls : Array Slot} {rest : List Value} {σ τ : Mem} {l0 : Nat} {l1 : Int} {l2 : Int} {l3 : Int} (X : CX p R s m args meth c cc nL own ret fF fL G) (hP : PW G σ H) (hS : va_S (AA G) s.heap H locs) (hls : ls.size = nL) (hk_l0 : kd l0 = 14) (hf : J7_fill_bad5a σ l0 l1 l2 l3 = some τ) {host : String} (h1 : Cond.methodLinkNest own idx yJ7_fill_bad5a host ∈ NWl) (hR : 2 + 1 ≤ fF ∧ 8 + (6 + 11) + 82 ≤ fL) (hW : (rest.map fun v => v.category).sum ≤ 8) (hd : decode cc pc = .ok (.invokestatic idx, 3)) (kk : ∀ (H1 : Heap) (locs1 : List Loc), PW G τ H1 → va_S (AA G) s.heap H1 locs1 → W p l e R s m args below meth c H1 locs1 0 0 Q (F0 m (pc + 3) ls (rest))) : W p l e R s m args below meth c H locs 0 0 Q (F0 m pc ls (.long (i64 l3) :: .int (i32 l2) :: .int (i32 l1) :: .ref (gh G + l0) :: rest)) := r_callSN (n := 4) X hP hS hls (c_J7_fill_bad5a hk_l0 hf) h1 (tb t_793 rfl) (tb t_78 rfl) (tb t_794 rfl) (by decide +kernel) hR rfl rfl hW hd kk
/-! X0_add -/
theorem dX0_add_0 : decode cX0_add 0 = .ok (.aload_n 0, 1) := by decide +kernel
theorem dX0_add_1 : decode cX0_add 1 = .ok (.getfield 30, 3) := by decide +kernel
theorem dX0_add_4 : decode cX0_add 4 = .ok (.bipush 30, 2) := by decide +kernel
theorem dX0_add_6 : decode cX0_add 6 = .ok (.if_icmp .lt 5, 3) := by decide +kernel
theorem dX0_add_9 : decode cX0_add 9 = .ok (.iconst (-1), 1) := by decide +kernel
theorem dX0_add_10 : decode cX0_add 10 = .ok (.ireturn, 1) := by decide +kernel
theorem dX0_add_11 : decode cX0_add 11 = .ok (.aload_n 0, 1) := by decide +kernel
theorem dX0_add_12 : decode cX0_add 12 = .ok (.getfield 9, 3) := by decide +kernel
theorem dX0_add_15 : decode cX0_add 15 = .ok (.aload_n 0, 1) := by decide +kernel
theorem dX0_add_16 : decode cX0_add 16 = .ok (.getfield 30, 3) := by decide +kernel
theorem dX0_add_19 : decode cX0_add 19 = .ok (.iload_n 1, 1) := by decide +kernel
theorem dX0_add_20 : decode cX0_add 20 = .ok (.iastore, 1) := by decide +kernel
theorem dX0_add_21 : decode cX0_add 21 = .ok (.aload_n 0, 1) := by decide +kernel
theorem dX0_add_22 : decode cX0_add 22 = .ok (.getfield 15, 3) := by decide +kernel
theorem dX0_add_25 : decode cX0_add 25 = .ok (.aload_n 0, 1) := by decide +kernel
theorem dX0_add_26 : decode cX0_add 26 = .ok (.getfield 30, 3) := by decide +kernel
theorem dX0_add_29 : decode cX0_add 29 = .ok (.iload_n 2, 1) := by decide +kernel
theorem dX0_add_30 : decode cX0_add 30 = .ok (.iastore, 1) := by decide +kernel
theorem dX0_add_31 : decode cX0_add 31 = .ok (.aload_n 0, 1) := by decide +kernel
theorem dX0_add_32 : decode cX0_add 32 = .ok (.getfield 18, 3) := by decide +kernel
theorem dX0_add_35 : decode cX0_add 35 = .ok (.aload_n 0, 1) := by decide +kernel
theorem dX0_add_36 : decode cX0_add 36 = .ok (.getfield 30, 3) := by decide +kernel
theorem dX0_add_39 : decode cX0_add 39 = .ok (.iload_n 3, 1) := by decide +kernel
theorem dX0_add_40 : decode cX0_add 40 = .ok (.iastore, 1) := by decide +kernel
theorem dX0_add_41 : decode cX0_add 41 = .ok (.aload_n 0, 1) := by decide +kernel
theorem dX0_add_42 : decode cX0_add 42 = .ok (.dup, 1) := by decide +kernel
theorem dX0_add_43 : decode cX0_add 43 = .ok (.getfield 30, 3) := by decide +kernel
theorem dX0_add_46 : decode cX0_add 46 = .ok (.iconst 1, 1) := by decide +kernel
theorem dX0_add_47 : decode cX0_add 47 = .ok (.iadd, 1) := by decide +kernel
theorem dX0_add_48 : decode cX0_add 48 = .ok (.putfield 30, 3) := by decide +kernel
theorem dX0_add_51 : decode cX0_add 51 = .ok (.aload_n 0, 1) := by decide +kernel
theorem dX0_add_52 : decode cX0_add 52 = .ok (.getfield 30, 3) := by decide +kernel
theorem dX0_add_55 : decode cX0_add 55 = .ok (.iconst 1, 1) := by decide +kernel
theorem dX0_add_56 : decode cX0_add 56 = .ok (.isub, 1) := by decide +kernel
theorem dX0_add_57 : decode cX0_add 57 = .ok (.ireturn, 1) := by decide +kernel
def X0_add (σ : Mem) (l0 : Nat) (l1 : Int) (l2 : Int) (l3 : Int) : Option (Int × Mem) :=
  if w32 (σ l0 3) < w32 30 then
    ag 30 (σ l0 3) fun j1 =>
    lt (st σ (l0 + 1) j1 l1) fun s2 =>
    ag 30 (s2 l0 3) fun j3 =>
    lt (st s2 (l0 + 2) j3 l2) fun s4 =>
    ag 30 (s4 l0 3) fun j5 =>
    lt (st s4 (l0 + 3) j5 l3) fun s6 =>
    lt (st s6 l0 3 ((s6 l0 3) + 1)) fun s7 =>
    some ((s7 l0 3) - 1, s7)
  else
  some ((-1), σ)
def S_X0_add_0 (fn : Mem → Nat → Int → Int → Int → Option (Int × Mem)) (p : Program) (l : Launch) (e : Env) (R : Room) (s : State) (m : MethodId) (args : Array Value) (below : List Frame) (meth : Method) (c : Code) (G : GT) (τ : Mem) (res : Int) : Prop := ∀ (σ : Mem) (H : Heap) (locs : List Loc) (ls : Array Slot) (l0 : Nat) (l1 : Int) (l2 : Int) (l3 : Int), kd l0 = 0 → PW G σ H → va_S (AA G) s.heap H locs → fn σ l0 l1 l2 l3 = some (res, τ) → lv_has ls 4 [(0, .ref (gh G + l0)), (1, .int (i32 l1)), (2, .int (i32 l2)), (3, .int (i32 l3))] → W p l e R s m args below meth c H locs 0 0 (MQ below (QM G (some (.int (i32 res))) τ) args s 0 0 (AA G)) (F0 m 0 ls [])
set_option maxHeartbeats 4000000 in
theorem a_X0_add_0 {p : Program} {l : Launch} {e : Env} {R : Room} {s : State} {m : MethodId} {args : Array Value} {below : List Frame} {meth : Method} {c : Code} {G : GT} {τ : Mem} {res : Int} (X : CX p R s m args meth c cX0_add 4 RX0 (some FieldType.int) 1 60 G) : S_X0_add_0 (X0_add) p l e R s m args below meth c G τ res := by
  intro σ H locs ls l0 l1 l2 l3 hk_l0 hP hS hf hl
  unfold X0_add at hf
  refine lv_aload_n X.1 X.2.1 dX0_add_0 rfl (lv_at hl 0 rfl) ?_
  refine g_0_3 X hP hk_l0 (tb t_129 rfl) dX0_add_1 ?_
  refine r_bipush X 30 (by decide) dX0_add_4 ?_
  refine r_icmp_lt (tgt := 11) X dX0_add_6 (by decide) (fun q => ?_) (fun q => ?_)
  · replace hf := it_inv q hf
    refine lv_aload_n X.1 X.2.1 dX0_add_11 rfl (lv_at hl 0 rfl) ?_
    refine g_0_0 (r := l0 + 1) X hP hk_l0 rfl (tb t_120 rfl) dX0_add_12 ?_
    refine lv_aload_n X.1 X.2.1 dX0_add_15 rfl (lv_at hl 0 rfl) ?_
    refine g_0_3 X hP hk_l0 (tb t_129 rfl) dX0_add_16 ?_
    refine lv_iload_n X.1 X.2.1 dX0_add_19 rfl (lv_at hl 1 rfl) ?_
    obtain ⟨j1, hij1, hjj1, hlj1, hf⟩ := ag_inv hf
    refine r_iast X hP hS (ch_0_0 hk_l0).1 (ch_0_0 hk_l0).2 hij1 hjj1 dX0_add_20 (fun H locs hP hS => ?_)
    obtain ⟨s2, es2, hf⟩ := lt_inv hf
    rw [es2] at hP
    refine lv_aload_n X.1 X.2.1 dX0_add_21 rfl (lv_at hl 0 rfl) ?_
    refine g_0_1 (r := l0 + 2) X hP hk_l0 rfl (tb t_123 rfl) dX0_add_22 ?_
    refine lv_aload_n X.1 X.2.1 dX0_add_25 rfl (lv_at hl 0 rfl) ?_
    refine g_0_3 X hP hk_l0 (tb t_129 rfl) dX0_add_26 ?_
    refine lv_iload_n X.1 X.2.1 dX0_add_29 rfl (lv_at hl 2 rfl) ?_
    obtain ⟨j3, hij3, hjj3, hlj3, hf⟩ := ag_inv hf
    refine r_iast X hP hS (ch_0_1 hk_l0).1 (ch_0_1 hk_l0).2 hij3 hjj3 dX0_add_30 (fun H locs hP hS => ?_)
    obtain ⟨s4, es4, hf⟩ := lt_inv hf
    rw [es4] at hP
    refine lv_aload_n X.1 X.2.1 dX0_add_31 rfl (lv_at hl 0 rfl) ?_
    refine g_0_2 (r := l0 + 3) X hP hk_l0 rfl (tb t_126 rfl) dX0_add_32 ?_
    refine lv_aload_n X.1 X.2.1 dX0_add_35 rfl (lv_at hl 0 rfl) ?_
    refine g_0_3 X hP hk_l0 (tb t_129 rfl) dX0_add_36 ?_
    refine lv_iload_n X.1 X.2.1 dX0_add_39 rfl (lv_at hl 3 rfl) ?_
    obtain ⟨j5, hij5, hjj5, hlj5, hf⟩ := ag_inv hf
    refine r_iast X hP hS (ch_0_2 hk_l0).1 (ch_0_2 hk_l0).2 hij5 hjj5 dX0_add_40 (fun H locs hP hS => ?_)
    obtain ⟨s6, es6, hf⟩ := lt_inv hf
    rw [es6] at hP
    refine lv_aload_n X.1 X.2.1 dX0_add_41 rfl (lv_at hl 0 rfl) ?_
    refine lv_dup X.1 X.2.1 dX0_add_42 rfl ?_
    refine g_0_3 X hP hk_l0 (tb t_129 rfl) dX0_add_43 ?_
    refine r_iconst X 1 dX0_add_46 ?_
    refine r_iadd X dX0_add_47 ?_
    refine p_0_3 X hP hS hk_l0 (tb t_129 rfl) dX0_add_48 (fun H locs hP hS => ?_)
    obtain ⟨s7, es7, hf⟩ := lt_inv hf
    rw [es7] at hP
    refine lv_aload_n X.1 X.2.1 dX0_add_51 rfl (lv_at hl 0 rfl) ?_
    refine g_0_3 X hP hk_l0 (tb t_129 rfl) dX0_add_52 ?_
    refine r_iconst X 1 dX0_add_55 ?_
    refine r_isub X dX0_add_56 ?_
    obtain ⟨rfl, rfl⟩ := so2_inv hf
    exact r_iret X hP hS dX0_add_57
  · replace hf := ie_inv q hf
    refine r_iconst X (-1) dX0_add_9 ?_
    obtain ⟨rfl, rfl⟩ := so2_inv hf
    exact r_iret X hP hS dX0_add_10
set_option maxHeartbeats 4000000 in
theorem c_X0_add {l : Launch} {G : GT} {σ τ : Mem} {res : Int} {l0 : Nat} {l1 : Int} {l2 : Int} {l3 : Int} (hk_l0 : kd l0 = 0) (hf : X0_add σ l0 l1 l2 l3 = some (res, τ)) : CT l yX0_add cX0_add 4 (some FieldType.int) 1 60 G [.ref (gh G + l0), .int (i32 l1), .int (i32 l2), .int (i32 l3)] σ τ (some (.int (i32 res))) := by
  refine CT.mk (own := RX0) (by decide) rfl (Nat.le_of_ble_eq_true rfl) ?_
  intro p e s m below meth c ls X hP hS hl
  have hl : lv_has ls 4 [(0, .ref (gh G + l0)), (1, .int (i32 l1)), (2, .int (i32 l2)), (3, .int (i32 l3))] := hl
  exact a_X0_add_0 X σ s.heap [] ls l0 l1 l2 l3 hk_l0 hP hS hf hl
theorem k_X0_add {p : Program} {l : Launch} {e : Env} {R : Room} {s : State} {m : MethodId} {args : Array Value} {below : List Frame} {meth : Method} {c : Code} {H : Heap} {locs : List Loc} {Q : State → Prop} {cc : ByteArray} {nL : Nat} {own : String} {ret : Option FieldType} {fF fL : Nat} {G : GT} {pc idx : Nat} {ls : Array Slot} {rest : List Value} {σ τ : Mem} {res : Int} {l0 : Nat} {l1 : Int} {l2 : Int} {l3 : Int} (X : CX p R s m args meth c cc nL own ret fF fL G) (hP : PW G σ H) (hS : va_S (AA G) s.heap H locs) (hls : ls.size = nL) (hk_l0 : kd l0 = 0) (hf : X0_add σ l0 l1 l2 l3 = some (res, τ)) (h1 : Cond.methodLink own idx yX0_add ∈ TB) (hR : 1 + 1 ≤ fF ∧ 8 + (4 + 11) + 60 ≤ fL) (hW : (rest.map fun v => v.category).sum ≤ 8) (hd : decode cc pc = .ok (.invokevirtual idx, 3)) (kk : ∀ (H1 : Heap) (locs1 : List Loc), PW G τ H1 → va_S (AA G) s.heap H1 locs1 → W p l e R s m args below meth c H1 locs1 0 0 Q (F0 m (pc + 3) ls (.int (i32 res) :: rest))) : W p l e R s m args below meth c H locs 0 0 Q (F0 m pc ls (.int (i32 l3) :: .int (i32 l2) :: .int (i32 l1) :: .ref (gh G + l0) :: rest)) := r_callV (n := 3) X hP hS hls (c_X0_add hk_l0 hf) h1 (tb t_928 rfl) (tb t_929 rfl) (tb t_77 rfl) (tb t_930 rfl) (by decide +kernel) hR (r_recv X hP (kd_lt hk_l0 (by decide)) (cE_0 hk_l0) rfl) rfl rfl hW hd kk
/-! X0_become -/
theorem dX0_become_0 : decode cX0_become 0 = .ok (.aload_n 1, 1) := by decide +kernel
theorem dX0_become_1 : decode cX0_become 1 = .ok (.getfield 9, 3) := by decide +kernel
theorem dX0_become_4 : decode cX0_become 4 = .ok (.iconst 0, 1) := by decide +kernel
theorem dX0_become_5 : decode cX0_become 5 = .ok (.aload_n 0, 1) := by decide +kernel
theorem dX0_become_6 : decode cX0_become 6 = .ok (.getfield 9, 3) := by decide +kernel
theorem dX0_become_9 : decode cX0_become 9 = .ok (.iconst 0, 1) := by decide +kernel
theorem dX0_become_10 : decode cX0_become 10 = .ok (.bipush 30, 2) := by decide +kernel
theorem dX0_become_12 : decode cX0_become 12 = .ok (.invokestatic 34, 3) := by decide +kernel
theorem dX0_become_15 : decode cX0_become 15 = .ok (.aload_n 1, 1) := by decide +kernel
theorem dX0_become_16 : decode cX0_become 16 = .ok (.getfield 15, 3) := by decide +kernel
theorem dX0_become_19 : decode cX0_become 19 = .ok (.iconst 0, 1) := by decide +kernel
theorem dX0_become_20 : decode cX0_become 20 = .ok (.aload_n 0, 1) := by decide +kernel
theorem dX0_become_21 : decode cX0_become 21 = .ok (.getfield 15, 3) := by decide +kernel
theorem dX0_become_24 : decode cX0_become 24 = .ok (.iconst 0, 1) := by decide +kernel
theorem dX0_become_25 : decode cX0_become 25 = .ok (.bipush 30, 2) := by decide +kernel
theorem dX0_become_27 : decode cX0_become 27 = .ok (.invokestatic 34, 3) := by decide +kernel
theorem dX0_become_30 : decode cX0_become 30 = .ok (.aload_n 1, 1) := by decide +kernel
theorem dX0_become_31 : decode cX0_become 31 = .ok (.getfield 18, 3) := by decide +kernel
theorem dX0_become_34 : decode cX0_become 34 = .ok (.iconst 0, 1) := by decide +kernel
theorem dX0_become_35 : decode cX0_become 35 = .ok (.aload_n 0, 1) := by decide +kernel
theorem dX0_become_36 : decode cX0_become 36 = .ok (.getfield 18, 3) := by decide +kernel
theorem dX0_become_39 : decode cX0_become 39 = .ok (.iconst 0, 1) := by decide +kernel
theorem dX0_become_40 : decode cX0_become 40 = .ok (.bipush 30, 2) := by decide +kernel
theorem dX0_become_42 : decode cX0_become 42 = .ok (.invokestatic 34, 3) := by decide +kernel
theorem dX0_become_45 : decode cX0_become 45 = .ok (.aload_n 1, 1) := by decide +kernel
theorem dX0_become_46 : decode cX0_become 46 = .ok (.getfield 21, 3) := by decide +kernel
theorem dX0_become_49 : decode cX0_become 49 = .ok (.iconst 0, 1) := by decide +kernel
theorem dX0_become_50 : decode cX0_become 50 = .ok (.aload_n 0, 1) := by decide +kernel
theorem dX0_become_51 : decode cX0_become 51 = .ok (.getfield 21, 3) := by decide +kernel
theorem dX0_become_54 : decode cX0_become 54 = .ok (.iconst 0, 1) := by decide +kernel
theorem dX0_become_55 : decode cX0_become 55 = .ok (.bipush 10, 2) := by decide +kernel
theorem dX0_become_57 : decode cX0_become 57 = .ok (.invokestatic 34, 3) := by decide +kernel
theorem dX0_become_60 : decode cX0_become 60 = .ok (.aload_n 0, 1) := by decide +kernel
theorem dX0_become_61 : decode cX0_become 61 = .ok (.aload_n 1, 1) := by decide +kernel
theorem dX0_become_62 : decode cX0_become 62 = .ok (.getfield 30, 3) := by decide +kernel
theorem dX0_become_65 : decode cX0_become 65 = .ok (.putfield 30, 3) := by decide +kernel
theorem dX0_become_68 : decode cX0_become 68 = .ok (.return_, 1) := by decide +kernel
def X0_become (σ : Mem) (l0 : Nat) (l1 : Nat) : Option (Mem) :=
  ac 30 30 0 0 30 <|
  lt (cpy σ (l1 + 1) (w32 0).toNat (l0 + 1) (w32 0).toNat (w32 30).toNat) fun s2 =>
  ac 30 30 0 0 30 <|
  lt (cpy s2 (l1 + 2) (w32 0).toNat (l0 + 2) (w32 0).toNat (w32 30).toNat) fun s4 =>
  ac 30 30 0 0 30 <|
  lt (cpy s4 (l1 + 3) (w32 0).toNat (l0 + 3) (w32 0).toNat (w32 30).toNat) fun s6 =>
  ac 10 10 0 0 10 <|
  lt (cpy s6 (l1 + 4) (w32 0).toNat (l0 + 4) (w32 0).toNat (w32 10).toNat) fun s8 =>
  lt (st s8 l0 3 (s8 l1 3)) fun s9 =>
  some s9
def S_X0_become_0 (fn : Mem → Nat → Nat → Option (Mem)) (p : Program) (l : Launch) (e : Env) (R : Room) (s : State) (m : MethodId) (args : Array Value) (below : List Frame) (meth : Method) (c : Code) (G : GT) (τ : Mem) : Prop := ∀ (σ : Mem) (H : Heap) (locs : List Loc) (ls : Array Slot) (l0 : Nat) (l1 : Nat), kd l0 = 0 → kd l1 = 0 → PW G σ H → va_S (AA G) s.heap H locs → fn σ l0 l1 = some τ → lv_has ls 2 [(0, .ref (gh G + l0)), (1, .ref (gh G + l1))] → W p l e R s m args below meth c H locs 0 0 (MQ below (QM G none τ) args s 0 0 (AA G)) (F0 m 0 ls [])
set_option maxHeartbeats 4000000 in
theorem a_X0_become_0 {p : Program} {l : Launch} {e : Env} {R : Room} {s : State} {m : MethodId} {args : Array Value} {below : List Frame} {meth : Method} {c : Code} {G : GT} {τ : Mem} (X : CX p R s m args meth c cX0_become 2 RX0 none 1 60 G) : S_X0_become_0 (X0_become) p l e R s m args below meth c G τ := by
  intro σ H locs ls l0 l1 hk_l0 hk_l1 hP hS hf hl
  unfold X0_become at hf
  refine lv_aload_n X.1 X.2.1 dX0_become_0 rfl (lv_at hl 1 rfl) ?_
  refine g_0_0 (r := l1 + 1) X hP hk_l1 rfl (tb t_120 rfl) dX0_become_1 ?_
  refine r_iconst X 0 dX0_become_4 ?_
  refine lv_aload_n X.1 X.2.1 dX0_become_5 rfl (lv_at hl 0 rfl) ?_
  refine g_0_0 (r := l0 + 1) X hP hk_l0 rfl (tb t_120 rfl) dX0_become_6 ?_
  refine r_iconst X 0 dX0_become_9 ?_
  refine r_bipush X 30 (by decide) dX0_become_10 ?_
  obtain ⟨hc1, hf⟩ := ac_inv hf
  refine r_acopy X hl.1 hP hS (tb t_1053 rfl) (tb t_618 rfl) (tb t_617 rfl) (tb t_93 rfl) (by decide) (Nat.le_of_ble_eq_true rfl) (ch_0_0 hk_l1).1 (ch_0_0 hk_l1).2 (ch_0_0 hk_l0).1 (ch_0_0 hk_l0).2 hc1 dX0_become_12 (fun H locs hP hS => ?_)
  obtain ⟨s2, es2, hf⟩ := lt_inv hf
  rw [es2] at hP
  refine lv_aload_n X.1 X.2.1 dX0_become_15 rfl (lv_at hl 1 rfl) ?_
  refine g_0_1 (r := l1 + 2) X hP hk_l1 rfl (tb t_123 rfl) dX0_become_16 ?_
  refine r_iconst X 0 dX0_become_19 ?_
  refine lv_aload_n X.1 X.2.1 dX0_become_20 rfl (lv_at hl 0 rfl) ?_
  refine g_0_1 (r := l0 + 2) X hP hk_l0 rfl (tb t_123 rfl) dX0_become_21 ?_
  refine r_iconst X 0 dX0_become_24 ?_
  refine r_bipush X 30 (by decide) dX0_become_25 ?_
  obtain ⟨hc3, hf⟩ := ac_inv hf
  refine r_acopy X hl.1 hP hS (tb t_1053 rfl) (tb t_618 rfl) (tb t_617 rfl) (tb t_93 rfl) (by decide) (Nat.le_of_ble_eq_true rfl) (ch_0_1 hk_l1).1 (ch_0_1 hk_l1).2 (ch_0_1 hk_l0).1 (ch_0_1 hk_l0).2 hc3 dX0_become_27 (fun H locs hP hS => ?_)
  obtain ⟨s4, es4, hf⟩ := lt_inv hf
  rw [es4] at hP
  refine lv_aload_n X.1 X.2.1 dX0_become_30 rfl (lv_at hl 1 rfl) ?_
  refine g_0_2 (r := l1 + 3) X hP hk_l1 rfl (tb t_126 rfl) dX0_become_31 ?_
  refine r_iconst X 0 dX0_become_34 ?_
  refine lv_aload_n X.1 X.2.1 dX0_become_35 rfl (lv_at hl 0 rfl) ?_
  refine g_0_2 (r := l0 + 3) X hP hk_l0 rfl (tb t_126 rfl) dX0_become_36 ?_
  refine r_iconst X 0 dX0_become_39 ?_
  refine r_bipush X 30 (by decide) dX0_become_40 ?_
  obtain ⟨hc5, hf⟩ := ac_inv hf
  refine r_acopy X hl.1 hP hS (tb t_1053 rfl) (tb t_618 rfl) (tb t_617 rfl) (tb t_93 rfl) (by decide) (Nat.le_of_ble_eq_true rfl) (ch_0_2 hk_l1).1 (ch_0_2 hk_l1).2 (ch_0_2 hk_l0).1 (ch_0_2 hk_l0).2 hc5 dX0_become_42 (fun H locs hP hS => ?_)
  obtain ⟨s6, es6, hf⟩ := lt_inv hf
  rw [es6] at hP
  refine lv_aload_n X.1 X.2.1 dX0_become_45 rfl (lv_at hl 1 rfl) ?_
  refine g_0_4 (r := l1 + 4) X hP hk_l1 rfl (tb t_132 rfl) dX0_become_46 ?_
  refine r_iconst X 0 dX0_become_49 ?_
  refine lv_aload_n X.1 X.2.1 dX0_become_50 rfl (lv_at hl 0 rfl) ?_
  refine g_0_4 (r := l0 + 4) X hP hk_l0 rfl (tb t_132 rfl) dX0_become_51 ?_
  refine r_iconst X 0 dX0_become_54 ?_
  refine r_bipush X 10 (by decide) dX0_become_55 ?_
  obtain ⟨hc7, hf⟩ := ac_inv hf
  refine r_acopy X hl.1 hP hS (tb t_1053 rfl) (tb t_618 rfl) (tb t_617 rfl) (tb t_93 rfl) (by decide) (Nat.le_of_ble_eq_true rfl) (ch_0_4 hk_l1).1 (ch_0_4 hk_l1).2 (ch_0_4 hk_l0).1 (ch_0_4 hk_l0).2 hc7 dX0_become_57 (fun H locs hP hS => ?_)
  obtain ⟨s8, es8, hf⟩ := lt_inv hf
  rw [es8] at hP
  refine lv_aload_n X.1 X.2.1 dX0_become_60 rfl (lv_at hl 0 rfl) ?_
  refine lv_aload_n X.1 X.2.1 dX0_become_61 rfl (lv_at hl 1 rfl) ?_
  refine g_0_3 X hP hk_l1 (tb t_129 rfl) dX0_become_62 ?_
  refine p_0_3 X hP hS hk_l0 (tb t_129 rfl) dX0_become_65 (fun H locs hP hS => ?_)
  obtain ⟨s9, es9, hf⟩ := lt_inv hf
  rw [es9] at hP
  cases so_inv hf
  exact r_vret X hP hS dX0_become_68
set_option maxHeartbeats 4000000 in
theorem c_X0_become {l : Launch} {G : GT} {σ τ : Mem} {l0 : Nat} {l1 : Nat} (hk_l0 : kd l0 = 0) (hk_l1 : kd l1 = 0) (hf : X0_become σ l0 l1 = some τ) : CT l yX0_become cX0_become 2 none 1 60 G [.ref (gh G + l0), .ref (gh G + l1)] σ τ none := by
  refine CT.mk (own := RX0) (by decide) rfl (Nat.le_of_ble_eq_true rfl) ?_
  intro p e s m below meth c ls X hP hS hl
  have hl : lv_has ls 2 [(0, .ref (gh G + l0)), (1, .ref (gh G + l1))] := hl
  exact a_X0_become_0 X σ s.heap [] ls l0 l1 hk_l0 hk_l1 hP hS hf hl
theorem k_X0_become {p : Program} {l : Launch} {e : Env} {R : Room} {s : State} {m : MethodId} {args : Array Value} {below : List Frame} {meth : Method} {c : Code} {H : Heap} {locs : List Loc} {Q : State → Prop} {cc : ByteArray} {nL : Nat} {own : String} {ret : Option FieldType} {fF fL : Nat} {G : GT} {pc idx : Nat} {ls : Array Slot} {rest : List Value} {σ τ : Mem} {l0 : Nat} {l1 : Nat} (X : CX p R s m args meth c cc nL own ret fF fL G) (hP : PW G σ H) (hS : va_S (AA G) s.heap H locs) (hls : ls.size = nL) (hk_l0 : kd l0 = 0) (hk_l1 : kd l1 = 0) (hf : X0_become σ l0 l1 = some τ) (h1 : Cond.methodLink own idx yX0_become ∈ TB) (hR : 1 + 1 ≤ fF ∧ 8 + (2 + 11) + 60 ≤ fL) (hW : (rest.map fun v => v.category).sum ≤ 8) (hd : decode cc pc = .ok (.invokevirtual idx, 3)) (kk : ∀ (H1 : Heap) (locs1 : List Loc), PW G τ H1 → va_S (AA G) s.heap H1 locs1 → W p l e R s m args below meth c H1 locs1 0 0 Q (F0 m (pc + 3) ls (rest))) : W p l e R s m args below meth c H locs 0 0 Q (F0 m pc ls (.ref (gh G + l1) :: .ref (gh G + l0) :: rest)) := r_callV (n := 1) X hP hS hls (c_X0_become hk_l0 hk_l1 hf) h1 (tb t_1050 rfl) (tb t_1051 rfl) (tb t_77 rfl) (tb t_1052 rfl) (by decide +kernel) hR (r_recv X hP (kd_lt hk_l0 (by decide)) (cE_0 hk_l0) rfl) rfl rfl hW hd kk
/-! X0_renumberSpots -/
theorem dX0_renumberSpots_0 : decode cX0_renumberSpots 0 = .ok (.iconst 0, 1) := by decide +kernel
theorem dX0_renumberSpots_1 : decode cX0_renumberSpots 1 = .ok (.istore_n 3, 1) := by decide +kernel
theorem dX0_renumberSpots_2 : decode cX0_renumberSpots 2 = .ok (.iload_n 3, 1) := by decide +kernel
theorem dX0_renumberSpots_3 : decode cX0_renumberSpots 3 = .ok (.bipush 10, 2) := by decide +kernel
theorem dX0_renumberSpots_5 : decode cX0_renumberSpots 5 = .ok (.if_icmp .ge 26, 3) := by decide +kernel
theorem dX0_renumberSpots_8 : decode cX0_renumberSpots 8 = .ok (.aload_n 0, 1) := by decide +kernel
theorem dX0_renumberSpots_9 : decode cX0_renumberSpots 9 = .ok (.getfield 21, 3) := by decide +kernel
theorem dX0_renumberSpots_12 : decode cX0_renumberSpots 12 = .ok (.iload_n 3, 1) := by decide +kernel
theorem dX0_renumberSpots_13 : decode cX0_renumberSpots 13 = .ok (.iaload, 1) := by decide +kernel
theorem dX0_renumberSpots_14 : decode cX0_renumberSpots 14 = .ok (.iload_n 1, 1) := by decide +kernel
theorem dX0_renumberSpots_15 : decode cX0_renumberSpots 15 = .ok (.if_icmp .ne 10, 3) := by decide +kernel
theorem dX0_renumberSpots_18 : decode cX0_renumberSpots 18 = .ok (.aload_n 0, 1) := by decide +kernel
theorem dX0_renumberSpots_19 : decode cX0_renumberSpots 19 = .ok (.getfield 21, 3) := by decide +kernel
theorem dX0_renumberSpots_22 : decode cX0_renumberSpots 22 = .ok (.iload_n 3, 1) := by decide +kernel
theorem dX0_renumberSpots_23 : decode cX0_renumberSpots 23 = .ok (.iload_n 2, 1) := by decide +kernel
theorem dX0_renumberSpots_24 : decode cX0_renumberSpots 24 = .ok (.iastore, 1) := by decide +kernel
theorem dX0_renumberSpots_25 : decode cX0_renumberSpots 25 = .ok (.iinc 3 1, 3) := by decide +kernel
theorem dX0_renumberSpots_28 : decode cX0_renumberSpots 28 = .ok (.goto (-26), 3) := by decide +kernel
theorem dX0_renumberSpots_31 : decode cX0_renumberSpots 31 = .ok (.return_, 1) := by decide +kernel
def S_X0_renumberSpots_2 (fn : Mem → Nat → Int → Int → Int → Option (Mem)) (p : Program) (l : Launch) (e : Env) (R : Room) (s : State) (m : MethodId) (args : Array Value) (below : List Frame) (meth : Method) (c : Code) (G : GT) (τ : Mem) : Prop := ∀ (σ : Mem) (H : Heap) (locs : List Loc) (ls : Array Slot) (l0 : Nat) (l1 : Int) (l2 : Int) (l3 : Int), kd l0 = 0 → PW G σ H → va_S (AA G) s.heap H locs → fn σ l0 l1 l2 l3 = some τ → lv_has ls 4 [(0, .ref (gh G + l0)), (1, .int (i32 l1)), (2, .int (i32 l2)), (3, .int (i32 l3))] → W p l e R s m args below meth c H locs 0 0 (MQ below (QM G none τ) args s 0 0 (AA G)) (F0 m 2 ls [])
def X0_renumberSpots_B25 (rec2 : Mem → Nat → Int → Int → Int → Option (Mem)) (σ : Mem) (l0 : Nat) (l1 : Int) (l2 : Int) (l3 : Int) : Option (Mem) :=
  lt (l3 + 1) fun l3_1 =>
  rec2 σ l0 l1 l2 l3_1
def S_X0_renumberSpots_25 (fn : Mem → Nat → Int → Int → Int → Option (Mem)) (p : Program) (l : Launch) (e : Env) (R : Room) (s : State) (m : MethodId) (args : Array Value) (below : List Frame) (meth : Method) (c : Code) (G : GT) (τ : Mem) : Prop := ∀ (σ : Mem) (H : Heap) (locs : List Loc) (ls : Array Slot) (l0 : Nat) (l1 : Int) (l2 : Int) (l3 : Int), kd l0 = 0 → PW G σ H → va_S (AA G) s.heap H locs → fn σ l0 l1 l2 l3 = some τ → lv_has ls 4 [(0, .ref (gh G + l0)), (1, .int (i32 l1)), (2, .int (i32 l2)), (3, .int (i32 l3))] → W p l e R s m args below meth c H locs 0 0 (MQ below (QM G none τ) args s 0 0 (AA G)) (F0 m 25 ls [])
def X0_renumberSpots_B2 (rec2 : Mem → Nat → Int → Int → Int → Option (Mem)) (σ : Mem) (l0 : Nat) (l1 : Int) (l2 : Int) (l3 : Int) : Option (Mem) :=
  if w32 10 ≤ w32 l3 then
    some σ
  else
  ag 10 l3 fun j1 =>
  if w32 (σ (l0 + 4) j1) ≠ w32 l1 then
    X0_renumberSpots_B25 rec2 σ l0 l1 l2 l3
  else
  ag 10 l3 fun j2 =>
  lt (st σ (l0 + 4) j2 l2) fun s3 =>
  X0_renumberSpots_B25 rec2 s3 l0 l1 l2 l3
def X0_renumberSpots_L2 : Nat → Mem → Nat → Int → Int → Int → Option (Mem)
  | 0 => fun _ _ _ _ _ => none
  | n + 1 => X0_renumberSpots_B2 (X0_renumberSpots_L2 n)
def X0_renumberSpots (σ : Mem) (l0 : Nat) (l1 : Int) (l2 : Int) : Option (Mem) :=
  X0_renumberSpots_L2 5000 σ l0 l1 l2 0
def S_X0_renumberSpots_0 (fn : Mem → Nat → Int → Int → Option (Mem)) (p : Program) (l : Launch) (e : Env) (R : Room) (s : State) (m : MethodId) (args : Array Value) (below : List Frame) (meth : Method) (c : Code) (G : GT) (τ : Mem) : Prop := ∀ (σ : Mem) (H : Heap) (locs : List Loc) (ls : Array Slot) (l0 : Nat) (l1 : Int) (l2 : Int), kd l0 = 0 → PW G σ H → va_S (AA G) s.heap H locs → fn σ l0 l1 l2 = some τ → lv_has ls 4 [(0, .ref (gh G + l0)), (1, .int (i32 l1)), (2, .int (i32 l2))] → W p l e R s m args below meth c H locs 0 0 (MQ below (QM G none τ) args s 0 0 (AA G)) (F0 m 0 ls [])
set_option maxHeartbeats 4000000 in
theorem a_X0_renumberSpots_25 {p : Program} {l : Launch} {e : Env} {R : Room} {s : State} {m : MethodId} {args : Array Value} {below : List Frame} {meth : Method} {c : Code} {G : GT} {τ : Mem} {rec2 : Mem → Nat → Int → Int → Int → Option (Mem)} (X : CX p R s m args meth c cX0_renumberSpots 4 RX0 none 1 60 G) (h2 : S_X0_renumberSpots_2 rec2 p l e R s m args below meth c G τ) : S_X0_renumberSpots_25 (X0_renumberSpots_B25 rec2) p l e R s m args below meth c G τ := by
  intro σ H locs ls l0 l1 l2 l3 hk_l0 hP hS hf hl
  unfold X0_renumberSpots_B25 at hf
  obtain ⟨l3_1, el3_1, hf⟩ := lt_inv hf
  refine lv_iinc (v := i32 l3_1) (lv' := [(3, .int (i32 l3_1)), (0, .ref (gh G + l0)), (1, .int (i32 l1)), (2, .int (i32 l2))]) X.1 X.2.1 dX0_renumberSpots_25 hl (k := 3) rfl (by rw [← el3_1]; exact i32_add _ _) (by decide) rfl (fun ls hl => ?_)
  refine lv_goto (tgt := 2) X.1 X.2.1 dX0_renumberSpots_28 (by decide) ?_
  exact h2 σ H locs ls l0 l1 l2 l3_1 hk_l0 hP hS hf (lv_sub hl [1, 2, 3, 0] rfl)
set_option maxHeartbeats 4000000 in
theorem a_X0_renumberSpots_2 {p : Program} {l : Launch} {e : Env} {R : Room} {s : State} {m : MethodId} {args : Array Value} {below : List Frame} {meth : Method} {c : Code} {G : GT} {τ : Mem} {rec2 : Mem → Nat → Int → Int → Int → Option (Mem)} (X : CX p R s m args meth c cX0_renumberSpots 4 RX0 none 1 60 G) (h2 : S_X0_renumberSpots_2 rec2 p l e R s m args below meth c G τ) : S_X0_renumberSpots_2 (X0_renumberSpots_B2 rec2) p l e R s m args below meth c G τ := by
  intro σ H locs ls l0 l1 l2 l3 hk_l0 hP hS hf hl
  unfold X0_renumberSpots_B2 at hf
  refine lv_iload_n X.1 X.2.1 dX0_renumberSpots_2 rfl (lv_at hl 3 rfl) ?_
  refine r_bipush X 10 (by decide) dX0_renumberSpots_3 ?_
  refine r_icmp_ge (tgt := 31) X dX0_renumberSpots_5 (by decide) (fun q => ?_) (fun q => ?_)
  · replace hf := it_inv q hf
    cases so_inv hf
    exact r_vret X hP hS dX0_renumberSpots_31
  · replace hf := ie_inv q hf
    refine lv_aload_n X.1 X.2.1 dX0_renumberSpots_8 rfl (lv_at hl 0 rfl) ?_
    refine g_0_4 (r := l0 + 4) X hP hk_l0 rfl (tb t_132 rfl) dX0_renumberSpots_9 ?_
    refine lv_iload_n X.1 X.2.1 dX0_renumberSpots_12 rfl (lv_at hl 3 rfl) ?_
    obtain ⟨j1, hij1, hjj1, hlj1, hf⟩ := ag_inv hf
    refine r_iald X hP (ch_0_4 hk_l0).1 (ch_0_4 hk_l0).2 hij1 hjj1 dX0_renumberSpots_13 ?_
    refine lv_iload_n X.1 X.2.1 dX0_renumberSpots_14 rfl (lv_at hl 1 rfl) ?_
    refine r_icmp_ne (tgt := 25) X dX0_renumberSpots_15 (by decide) (fun q => ?_) (fun q => ?_)
    · replace hf := it_inv q hf
      exact a_X0_renumberSpots_25 X h2 σ H locs ls l0 l1 l2 l3 hk_l0 hP hS hf hl
    · replace hf := ie_inv q hf
      refine lv_aload_n X.1 X.2.1 dX0_renumberSpots_18 rfl (lv_at hl 0 rfl) ?_
      refine g_0_4 (r := l0 + 4) X hP hk_l0 rfl (tb t_132 rfl) dX0_renumberSpots_19 ?_
      refine lv_iload_n X.1 X.2.1 dX0_renumberSpots_22 rfl (lv_at hl 3 rfl) ?_
      refine lv_iload_n X.1 X.2.1 dX0_renumberSpots_23 rfl (lv_at hl 2 rfl) ?_
      obtain ⟨j2, hij2, hjj2, hlj2, hf⟩ := ag_inv hf
      refine r_iast X hP hS (ch_0_4 hk_l0).1 (ch_0_4 hk_l0).2 hij2 hjj2 dX0_renumberSpots_24 (fun H locs hP hS => ?_)
      obtain ⟨s3, es3, hf⟩ := lt_inv hf
      rw [es3] at hP
      exact a_X0_renumberSpots_25 X h2 s3 H locs ls l0 l1 l2 l3 hk_l0 hP hS hf hl
theorem al_X0_renumberSpots_2 {p : Program} {l : Launch} {e : Env} {R : Room} {s : State} {m : MethodId} {args : Array Value} {below : List Frame} {meth : Method} {c : Code} {G : GT} {τ : Mem} (X : CX p R s m args meth c cX0_renumberSpots 4 RX0 none 1 60 G) : ∀ n, S_X0_renumberSpots_2 (X0_renumberSpots_L2 n) p l e R s m args below meth c G τ := by
  intro n
  induction n with
  | zero =>
    intro σ H locs ls l0 l1 l2 l3 hk_l0 hP hS hf hl
    cases hf
  | succ n ih => exact a_X0_renumberSpots_2 X ih
set_option maxHeartbeats 4000000 in
theorem a_X0_renumberSpots_0 {p : Program} {l : Launch} {e : Env} {R : Room} {s : State} {m : MethodId} {args : Array Value} {below : List Frame} {meth : Method} {c : Code} {G : GT} {τ : Mem} (X : CX p R s m args meth c cX0_renumberSpots 4 RX0 none 1 60 G) : S_X0_renumberSpots_0 (X0_renumberSpots) p l e R s m args below meth c G τ := by
  intro σ H locs ls l0 l1 l2 hk_l0 hP hS hf hl
  unfold X0_renumberSpots at hf
  refine r_iconst X 0 dX0_renumberSpots_0 ?_
  refine lv_istore_n (lv' := [(3, .int (i32 0)), (0, .ref (gh G + l0)), (1, .int (i32 l1)), (2, .int (i32 l2))]) X.1 X.2.1 dX0_renumberSpots_1 rfl hl (by decide) rfl (fun ls hl => ?_)
  exact al_X0_renumberSpots_2 X 5000 σ H locs ls l0 l1 l2 0 hk_l0 hP hS hf (lv_sub hl [1, 2, 3, 0] rfl)
set_option maxHeartbeats 4000000 in
theorem c_X0_renumberSpots {l : Launch} {G : GT} {σ τ : Mem} {l0 : Nat} {l1 : Int} {l2 : Int} (hk_l0 : kd l0 = 0) (hf : X0_renumberSpots σ l0 l1 l2 = some τ) : CT l yX0_renumberSpots cX0_renumberSpots 4 none 1 60 G [.ref (gh G + l0), .int (i32 l1), .int (i32 l2)] σ τ none := by
  refine CT.mk (own := RX0) (by decide) rfl (Nat.le_of_ble_eq_true rfl) ?_
  intro p e s m below meth c ls X hP hS hl
  have hl : lv_has ls 4 [(0, .ref (gh G + l0)), (1, .int (i32 l1)), (2, .int (i32 l2))] := hl
  exact a_X0_renumberSpots_0 X σ s.heap [] ls l0 l1 l2 hk_l0 hP hS hf hl
theorem k_X0_renumberSpots {p : Program} {l : Launch} {e : Env} {R : Room} {s : State} {m : MethodId} {args : Array Value} {below : List Frame} {meth : Method} {c : Code} {H : Heap} {locs : List Loc} {Q : State → Prop} {cc : ByteArray} {nL : Nat} {own : String} {ret : Option FieldType} {fF fL : Nat} {G : GT} {pc idx : Nat} {ls : Array Slot} {rest : List Value} {σ τ : Mem} {l0 : Nat} {l1 : Int} {l2 : Int} (X : CX p R s m args meth c cc nL own ret fF fL G) (hP : PW G σ H) (hS : va_S (AA G) s.heap H locs) (hls : ls.size = nL) (hk_l0 : kd l0 = 0) (hf : X0_renumberSpots σ l0 l1 l2 = some τ) (h1 : Cond.methodLink own idx yX0_renumberSpots ∈ TB) (hR : 1 + 1 ≤ fF ∧ 8 + (4 + 11) + 60 ≤ fL) (hW : (rest.map fun v => v.category).sum ≤ 8) (hd : decode cc pc = .ok (.invokevirtual idx, 3)) (kk : ∀ (H1 : Heap) (locs1 : List Loc), PW G τ H1 → va_S (AA G) s.heap H1 locs1 → W p l e R s m args below meth c H1 locs1 0 0 Q (F0 m (pc + 3) ls (rest))) : W p l e R s m args below meth c H locs 0 0 Q (F0 m pc ls (.int (i32 l2) :: .int (i32 l1) :: .ref (gh G + l0) :: rest)) := r_callV (n := 2) X hP hS hls (c_X0_renumberSpots hk_l0 hf) h1 (tb t_960 rfl) (tb t_31 rfl) (tb t_77 rfl) (tb t_961 rfl) (by decide +kernel) hR (r_recv X hP (kd_lt hk_l0 (by decide)) (cE_0 hk_l0) rfl) rfl rfl hW hd kk
/-! X0_dropPart -/
theorem dX0_dropPart_0 : decode cX0_dropPart 0 = .ok (.iconst 0, 1) := by decide +kernel
theorem dX0_dropPart_1 : decode cX0_dropPart 1 = .ok (.istore_n 2, 1) := by decide +kernel
theorem dX0_dropPart_2 : decode cX0_dropPart 2 = .ok (.iconst 0, 1) := by decide +kernel
theorem dX0_dropPart_3 : decode cX0_dropPart 3 = .ok (.istore_n 3, 1) := by decide +kernel
theorem dX0_dropPart_4 : decode cX0_dropPart 4 = .ok (.iload_n 3, 1) := by decide +kernel
theorem dX0_dropPart_5 : decode cX0_dropPart 5 = .ok (.aload_n 0, 1) := by decide +kernel
theorem dX0_dropPart_6 : decode cX0_dropPart 6 = .ok (.getfield 30, 3) := by decide +kernel
theorem dX0_dropPart_9 : decode cX0_dropPart 9 = .ok (.if_icmp .ge 85, 3) := by decide +kernel
theorem dX0_dropPart_12 : decode cX0_dropPart 12 = .ok (.aload_n 0, 1) := by decide +kernel
theorem dX0_dropPart_13 : decode cX0_dropPart 13 = .ok (.getfield 15, 3) := by decide +kernel
theorem dX0_dropPart_16 : decode cX0_dropPart 16 = .ok (.iload_n 3, 1) := by decide +kernel
theorem dX0_dropPart_17 : decode cX0_dropPart 17 = .ok (.iaload, 1) := by decide +kernel
theorem dX0_dropPart_18 : decode cX0_dropPart 18 = .ok (.iload_n 1, 1) := by decide +kernel
theorem dX0_dropPart_19 : decode cX0_dropPart 19 = .ok (.if_icmp .ne 7, 3) := by decide +kernel
theorem dX0_dropPart_22 : decode cX0_dropPart 22 = .ok (.iconst 1, 1) := by decide +kernel
theorem dX0_dropPart_23 : decode cX0_dropPart 23 = .ok (.goto 4, 3) := by decide +kernel
theorem dX0_dropPart_26 : decode cX0_dropPart 26 = .ok (.iconst 0, 1) := by decide +kernel
theorem dX0_dropPart_27 : decode cX0_dropPart 27 = .ok (.istore 4, 2) := by decide +kernel
theorem dX0_dropPart_29 : decode cX0_dropPart 29 = .ok (.aload_n 0, 1) := by decide +kernel
theorem dX0_dropPart_30 : decode cX0_dropPart 30 = .ok (.iload_n 3, 1) := by decide +kernel
theorem dX0_dropPart_31 : decode cX0_dropPart 31 = .ok (.iload 4, 2) := by decide +kernel
theorem dX0_dropPart_33 : decode cX0_dropPart 33 = .ok (.ifCond .eq 7, 3) := by decide +kernel
theorem dX0_dropPart_36 : decode cX0_dropPart 36 = .ok (.iconst (-1), 1) := by decide +kernel
theorem dX0_dropPart_37 : decode cX0_dropPart 37 = .ok (.goto 4, 3) := by decide +kernel
theorem dX0_dropPart_40 : decode cX0_dropPart 40 = .ok (.iload_n 2, 1) := by decide +kernel
theorem dX0_dropPart_41 : decode cX0_dropPart 41 = .ok (.invokevirtual 40, 3) := by decide +kernel
theorem dX0_dropPart_44 : decode cX0_dropPart 44 = .ok (.iload 4, 2) := by decide +kernel
theorem dX0_dropPart_46 : decode cX0_dropPart 46 = .ok (.ifCond .ne 42, 3) := by decide +kernel
theorem dX0_dropPart_49 : decode cX0_dropPart 49 = .ok (.aload_n 0, 1) := by decide +kernel
theorem dX0_dropPart_50 : decode cX0_dropPart 50 = .ok (.getfield 9, 3) := by decide +kernel
theorem dX0_dropPart_53 : decode cX0_dropPart 53 = .ok (.iload_n 2, 1) := by decide +kernel
theorem dX0_dropPart_54 : decode cX0_dropPart 54 = .ok (.aload_n 0, 1) := by decide +kernel
theorem dX0_dropPart_55 : decode cX0_dropPart 55 = .ok (.getfield 9, 3) := by decide +kernel
theorem dX0_dropPart_58 : decode cX0_dropPart 58 = .ok (.iload_n 3, 1) := by decide +kernel
theorem dX0_dropPart_59 : decode cX0_dropPart 59 = .ok (.iaload, 1) := by decide +kernel
theorem dX0_dropPart_60 : decode cX0_dropPart 60 = .ok (.iastore, 1) := by decide +kernel
theorem dX0_dropPart_61 : decode cX0_dropPart 61 = .ok (.aload_n 0, 1) := by decide +kernel
theorem dX0_dropPart_62 : decode cX0_dropPart 62 = .ok (.getfield 15, 3) := by decide +kernel
theorem dX0_dropPart_65 : decode cX0_dropPart 65 = .ok (.iload_n 2, 1) := by decide +kernel
theorem dX0_dropPart_66 : decode cX0_dropPart 66 = .ok (.aload_n 0, 1) := by decide +kernel
theorem dX0_dropPart_67 : decode cX0_dropPart 67 = .ok (.getfield 15, 3) := by decide +kernel
theorem dX0_dropPart_70 : decode cX0_dropPart 70 = .ok (.iload_n 3, 1) := by decide +kernel
theorem dX0_dropPart_71 : decode cX0_dropPart 71 = .ok (.iaload, 1) := by decide +kernel
theorem dX0_dropPart_72 : decode cX0_dropPart 72 = .ok (.iastore, 1) := by decide +kernel
theorem dX0_dropPart_73 : decode cX0_dropPart 73 = .ok (.aload_n 0, 1) := by decide +kernel
theorem dX0_dropPart_74 : decode cX0_dropPart 74 = .ok (.getfield 18, 3) := by decide +kernel
theorem dX0_dropPart_77 : decode cX0_dropPart 77 = .ok (.iload_n 2, 1) := by decide +kernel
theorem dX0_dropPart_78 : decode cX0_dropPart 78 = .ok (.aload_n 0, 1) := by decide +kernel
theorem dX0_dropPart_79 : decode cX0_dropPart 79 = .ok (.getfield 18, 3) := by decide +kernel
theorem dX0_dropPart_82 : decode cX0_dropPart 82 = .ok (.iload_n 3, 1) := by decide +kernel
theorem dX0_dropPart_83 : decode cX0_dropPart 83 = .ok (.iaload, 1) := by decide +kernel
theorem dX0_dropPart_84 : decode cX0_dropPart 84 = .ok (.iastore, 1) := by decide +kernel
theorem dX0_dropPart_85 : decode cX0_dropPart 85 = .ok (.iinc 2 1, 3) := by decide +kernel
theorem dX0_dropPart_88 : decode cX0_dropPart 88 = .ok (.iinc 3 1, 3) := by decide +kernel
theorem dX0_dropPart_91 : decode cX0_dropPart 91 = .ok (.goto (-87), 3) := by decide +kernel
theorem dX0_dropPart_94 : decode cX0_dropPart 94 = .ok (.aload_n 0, 1) := by decide +kernel
theorem dX0_dropPart_95 : decode cX0_dropPart 95 = .ok (.getfield 30, 3) := by decide +kernel
theorem dX0_dropPart_98 : decode cX0_dropPart 98 = .ok (.iload_n 2, 1) := by decide +kernel
theorem dX0_dropPart_99 : decode cX0_dropPart 99 = .ok (.isub, 1) := by decide +kernel
theorem dX0_dropPart_100 : decode cX0_dropPart 100 = .ok (.istore_n 3, 1) := by decide +kernel
theorem dX0_dropPart_101 : decode cX0_dropPart 101 = .ok (.aload_n 0, 1) := by decide +kernel
theorem dX0_dropPart_102 : decode cX0_dropPart 102 = .ok (.iload_n 2, 1) := by decide +kernel
theorem dX0_dropPart_103 : decode cX0_dropPart 103 = .ok (.putfield 30, 3) := by decide +kernel
theorem dX0_dropPart_106 : decode cX0_dropPart 106 = .ok (.iload_n 3, 1) := by decide +kernel
theorem dX0_dropPart_107 : decode cX0_dropPart 107 = .ok (.ireturn, 1) := by decide +kernel
def S_X0_dropPart_4 (fn : Mem → Nat → Int → Int → Int → Option (Int × Mem)) (p : Program) (l : Launch) (e : Env) (R : Room) (s : State) (m : MethodId) (args : Array Value) (below : List Frame) (meth : Method) (c : Code) (G : GT) (τ : Mem) (res : Int) : Prop := ∀ (σ : Mem) (H : Heap) (locs : List Loc) (ls : Array Slot) (l0 : Nat) (l1 : Int) (l2 : Int) (l3 : Int), kd l0 = 0 → PW G σ H → va_S (AA G) s.heap H locs → fn σ l0 l1 l2 l3 = some (res, τ) → lv_has ls 5 [(0, .ref (gh G + l0)), (1, .int (i32 l1)), (2, .int (i32 l2)), (3, .int (i32 l3))] → W p l e R s m args below meth c H locs 0 0 (MQ below (QM G (some (.int (i32 res))) τ) args s 0 0 (AA G)) (F0 m 4 ls [])
def X0_dropPart_B88 (rec4 : Mem → Nat → Int → Int → Int → Option (Int × Mem)) (σ : Mem) (l0 : Nat) (l1 : Int) (l2 : Int) (l3 : Int) : Option (Int × Mem) :=
  lt (l3 + 1) fun l3_1 =>
  rec4 σ l0 l1 l2 l3_1
def S_X0_dropPart_88 (fn : Mem → Nat → Int → Int → Int → Option (Int × Mem)) (p : Program) (l : Launch) (e : Env) (R : Room) (s : State) (m : MethodId) (args : Array Value) (below : List Frame) (meth : Method) (c : Code) (G : GT) (τ : Mem) (res : Int) : Prop := ∀ (σ : Mem) (H : Heap) (locs : List Loc) (ls : Array Slot) (l0 : Nat) (l1 : Int) (l2 : Int) (l3 : Int), kd l0 = 0 → PW G σ H → va_S (AA G) s.heap H locs → fn σ l0 l1 l2 l3 = some (res, τ) → lv_has ls 5 [(0, .ref (gh G + l0)), (1, .int (i32 l1)), (2, .int (i32 l2)), (3, .int (i32 l3))] → W p l e R s m args below meth c H locs 0 0 (MQ below (QM G (some (.int (i32 res))) τ) args s 0 0 (AA G)) (F0 m 88 ls [])
def X0_dropPart_B41 (rec4 : Mem → Nat → Int → Int → Int → Option (Int × Mem)) (σ : Mem) (l0 : Nat) (l1 : Int) (l2 : Int) (l3 : Int) (l4 : Int) (k0 : Nat) (k1 : Int) (k2 : Int) : Option (Int × Mem) :=
  bd (X0_renumberSpots σ k0 k1 k2) fun s2 =>
  if w32 l4 ≠ 0 then
    X0_dropPart_B88 rec4 s2 l0 l1 l2 l3
  else
  ag 30 l3 fun j3 =>
  ag 30 l2 fun j4 =>
  lt (st s2 (l0 + 1) j4 (s2 (l0 + 1) j3)) fun s5 =>
  ag 30 l3 fun j6 =>
  ag 30 l2 fun j7 =>
  lt (st s5 (l0 + 2) j7 (s5 (l0 + 2) j6)) fun s8 =>
  ag 30 l3 fun j9 =>
  ag 30 l2 fun j10 =>
  lt (st s8 (l0 + 3) j10 (s8 (l0 + 3) j9)) fun s11 =>
  lt (l2 + 1) fun l2_12 =>
  X0_dropPart_B88 rec4 s11 l0 l1 l2_12 l3
def S_X0_dropPart_41 (fn : Mem → Nat → Int → Int → Int → Int → Nat → Int → Int → Option (Int × Mem)) (p : Program) (l : Launch) (e : Env) (R : Room) (s : State) (m : MethodId) (args : Array Value) (below : List Frame) (meth : Method) (c : Code) (G : GT) (τ : Mem) (res : Int) : Prop := ∀ (σ : Mem) (H : Heap) (locs : List Loc) (ls : Array Slot) (l0 : Nat) (l1 : Int) (l2 : Int) (l3 : Int) (l4 : Int) (k0 : Nat) (k1 : Int) (k2 : Int), kd l0 = 0 → kd k0 = 0 → PW G σ H → va_S (AA G) s.heap H locs → fn σ l0 l1 l2 l3 l4 k0 k1 k2 = some (res, τ) → lv_has ls 5 [(0, .ref (gh G + l0)), (1, .int (i32 l1)), (2, .int (i32 l2)), (3, .int (i32 l3)), (4, .int (i32 l4))] → W p l e R s m args below meth c H locs 0 0 (MQ below (QM G (some (.int (i32 res))) τ) args s 0 0 (AA G)) (F0 m 41 ls [.int (i32 k2), .int (i32 k1), .ref (gh G + k0)])
def X0_dropPart_B27 (rec4 : Mem → Nat → Int → Int → Int → Option (Int × Mem)) (σ : Mem) (l0 : Nat) (l1 : Int) (l2 : Int) (l3 : Int) (k0 : Int) : Option (Int × Mem) :=
  if w32 k0 = 0 then
    X0_dropPart_B41 rec4 σ l0 l1 l2 l3 k0 l0 l3 l2
  else
  X0_dropPart_B41 rec4 σ l0 l1 l2 l3 k0 l0 l3 (-1)
def S_X0_dropPart_27 (fn : Mem → Nat → Int → Int → Int → Int → Option (Int × Mem)) (p : Program) (l : Launch) (e : Env) (R : Room) (s : State) (m : MethodId) (args : Array Value) (below : List Frame) (meth : Method) (c : Code) (G : GT) (τ : Mem) (res : Int) : Prop := ∀ (σ : Mem) (H : Heap) (locs : List Loc) (ls : Array Slot) (l0 : Nat) (l1 : Int) (l2 : Int) (l3 : Int) (k0 : Int), kd l0 = 0 → PW G σ H → va_S (AA G) s.heap H locs → fn σ l0 l1 l2 l3 k0 = some (res, τ) → lv_has ls 5 [(0, .ref (gh G + l0)), (1, .int (i32 l1)), (2, .int (i32 l2)), (3, .int (i32 l3))] → W p l e R s m args below meth c H locs 0 0 (MQ below (QM G (some (.int (i32 res))) τ) args s 0 0 (AA G)) (F0 m 27 ls [.int (i32 k0)])
def X0_dropPart_B4 (rec4 : Mem → Nat → Int → Int → Int → Option (Int × Mem)) (σ : Mem) (l0 : Nat) (l1 : Int) (l2 : Int) (l3 : Int) : Option (Int × Mem) :=
  if w32 (σ l0 3) ≤ w32 l3 then
    lt ((σ l0 3) - l2) fun l3_1 =>
    lt (st σ l0 3 l2) fun s2 =>
    some (l3_1, s2)
  else
  ag 30 l3 fun j3 =>
  if w32 (σ (l0 + 2) j3) ≠ w32 l1 then
    X0_dropPart_B27 rec4 σ l0 l1 l2 l3 0
  else
  X0_dropPart_B27 rec4 σ l0 l1 l2 l3 1
def X0_dropPart_L4 : Nat → Mem → Nat → Int → Int → Int → Option (Int × Mem)
  | 0 => fun _ _ _ _ _ => none
  | n + 1 => X0_dropPart_B4 (X0_dropPart_L4 n)
def X0_dropPart (σ : Mem) (l0 : Nat) (l1 : Int) : Option (Int × Mem) :=
  X0_dropPart_L4 5000 σ l0 l1 0 0
def S_X0_dropPart_0 (fn : Mem → Nat → Int → Option (Int × Mem)) (p : Program) (l : Launch) (e : Env) (R : Room) (s : State) (m : MethodId) (args : Array Value) (below : List Frame) (meth : Method) (c : Code) (G : GT) (τ : Mem) (res : Int) : Prop := ∀ (σ : Mem) (H : Heap) (locs : List Loc) (ls : Array Slot) (l0 : Nat) (l1 : Int), kd l0 = 0 → PW G σ H → va_S (AA G) s.heap H locs → fn σ l0 l1 = some (res, τ) → lv_has ls 5 [(0, .ref (gh G + l0)), (1, .int (i32 l1))] → W p l e R s m args below meth c H locs 0 0 (MQ below (QM G (some (.int (i32 res))) τ) args s 0 0 (AA G)) (F0 m 0 ls [])
set_option maxHeartbeats 4000000 in
theorem a_X0_dropPart_88 {p : Program} {l : Launch} {e : Env} {R : Room} {s : State} {m : MethodId} {args : Array Value} {below : List Frame} {meth : Method} {c : Code} {G : GT} {τ : Mem} {res : Int} {rec4 : Mem → Nat → Int → Int → Int → Option (Int × Mem)} (X : CX p R s m args meth c cX0_dropPart 5 RX0 (some FieldType.int) 2 83 G) (h4 : S_X0_dropPart_4 rec4 p l e R s m args below meth c G τ res) : S_X0_dropPart_88 (X0_dropPart_B88 rec4) p l e R s m args below meth c G τ res := by
  intro σ H locs ls l0 l1 l2 l3 hk_l0 hP hS hf hl
  unfold X0_dropPart_B88 at hf
  obtain ⟨l3_1, el3_1, hf⟩ := lt_inv hf
  refine lv_iinc (v := i32 l3_1) (lv' := [(3, .int (i32 l3_1)), (0, .ref (gh G + l0)), (1, .int (i32 l1)), (2, .int (i32 l2))]) X.1 X.2.1 dX0_dropPart_88 hl (k := 3) rfl (by rw [← el3_1]; exact i32_add _ _) (by decide) rfl (fun ls hl => ?_)
  refine lv_goto (tgt := 4) X.1 X.2.1 dX0_dropPart_91 (by decide) ?_
  exact h4 σ H locs ls l0 l1 l2 l3_1 hk_l0 hP hS hf (lv_sub hl [1, 2, 3, 0] rfl)
set_option maxHeartbeats 4000000 in
theorem a_X0_dropPart_41 {p : Program} {l : Launch} {e : Env} {R : Room} {s : State} {m : MethodId} {args : Array Value} {below : List Frame} {meth : Method} {c : Code} {G : GT} {τ : Mem} {res : Int} {rec4 : Mem → Nat → Int → Int → Int → Option (Int × Mem)} (X : CX p R s m args meth c cX0_dropPart 5 RX0 (some FieldType.int) 2 83 G) (h4 : S_X0_dropPart_4 rec4 p l e R s m args below meth c G τ res) : S_X0_dropPart_41 (X0_dropPart_B41 rec4) p l e R s m args below meth c G τ res := by
  intro σ H locs ls l0 l1 l2 l3 l4 k0 k1 k2 hk_l0 hk_k0 hP hS hf hl
  unfold X0_dropPart_B41 at hf
  obtain ⟨s2, hr1, hf⟩ := bd_inv hf
  refine k_X0_renumberSpots X hP hS hl.1 hk_k0 hr1 (tb t_958 rfl) (by decide) (Nat.le_of_ble_eq_true rfl) dX0_dropPart_41 (fun H locs hP hS => ?_)
  refine lv_iload X.1 X.2.1 dX0_dropPart_44 (lv_at hl 4 rfl) ?_
  refine r_if_ne (tgt := 88) X dX0_dropPart_46 (by decide) (fun q => ?_) (fun q => ?_)
  · replace hf := it_inv q hf
    exact a_X0_dropPart_88 X h4 s2 H locs ls l0 l1 l2 l3 hk_l0 hP hS hf (lv_sub hl [0, 1, 2, 3] rfl)
  · replace hf := ie_inv q hf
    refine lv_aload_n X.1 X.2.1 dX0_dropPart_49 rfl (lv_at hl 0 rfl) ?_
    refine g_0_0 (r := l0 + 1) X hP hk_l0 rfl (tb t_120 rfl) dX0_dropPart_50 ?_
    refine lv_iload_n X.1 X.2.1 dX0_dropPart_53 rfl (lv_at hl 2 rfl) ?_
    refine lv_aload_n X.1 X.2.1 dX0_dropPart_54 rfl (lv_at hl 0 rfl) ?_
    refine g_0_0 (r := l0 + 1) X hP hk_l0 rfl (tb t_120 rfl) dX0_dropPart_55 ?_
    refine lv_iload_n X.1 X.2.1 dX0_dropPart_58 rfl (lv_at hl 3 rfl) ?_
    obtain ⟨j3, hij3, hjj3, hlj3, hf⟩ := ag_inv hf
    refine r_iald X hP (ch_0_0 hk_l0).1 (ch_0_0 hk_l0).2 hij3 hjj3 dX0_dropPart_59 ?_
    obtain ⟨j4, hij4, hjj4, hlj4, hf⟩ := ag_inv hf
    refine r_iast X hP hS (ch_0_0 hk_l0).1 (ch_0_0 hk_l0).2 hij4 hjj4 dX0_dropPart_60 (fun H locs hP hS => ?_)
    obtain ⟨s5, es5, hf⟩ := lt_inv hf
    rw [es5] at hP
    refine lv_aload_n X.1 X.2.1 dX0_dropPart_61 rfl (lv_at hl 0 rfl) ?_
    refine g_0_1 (r := l0 + 2) X hP hk_l0 rfl (tb t_123 rfl) dX0_dropPart_62 ?_
    refine lv_iload_n X.1 X.2.1 dX0_dropPart_65 rfl (lv_at hl 2 rfl) ?_
    refine lv_aload_n X.1 X.2.1 dX0_dropPart_66 rfl (lv_at hl 0 rfl) ?_
    refine g_0_1 (r := l0 + 2) X hP hk_l0 rfl (tb t_123 rfl) dX0_dropPart_67 ?_
    refine lv_iload_n X.1 X.2.1 dX0_dropPart_70 rfl (lv_at hl 3 rfl) ?_
    obtain ⟨j6, hij6, hjj6, hlj6, hf⟩ := ag_inv hf
    refine r_iald X hP (ch_0_1 hk_l0).1 (ch_0_1 hk_l0).2 hij6 hjj6 dX0_dropPart_71 ?_
    obtain ⟨j7, hij7, hjj7, hlj7, hf⟩ := ag_inv hf
    refine r_iast X hP hS (ch_0_1 hk_l0).1 (ch_0_1 hk_l0).2 hij7 hjj7 dX0_dropPart_72 (fun H locs hP hS => ?_)
    obtain ⟨s8, es8, hf⟩ := lt_inv hf
    rw [es8] at hP
    refine lv_aload_n X.1 X.2.1 dX0_dropPart_73 rfl (lv_at hl 0 rfl) ?_
    refine g_0_2 (r := l0 + 3) X hP hk_l0 rfl (tb t_126 rfl) dX0_dropPart_74 ?_
    refine lv_iload_n X.1 X.2.1 dX0_dropPart_77 rfl (lv_at hl 2 rfl) ?_
    refine lv_aload_n X.1 X.2.1 dX0_dropPart_78 rfl (lv_at hl 0 rfl) ?_
    refine g_0_2 (r := l0 + 3) X hP hk_l0 rfl (tb t_126 rfl) dX0_dropPart_79 ?_
    refine lv_iload_n X.1 X.2.1 dX0_dropPart_82 rfl (lv_at hl 3 rfl) ?_
    obtain ⟨j9, hij9, hjj9, hlj9, hf⟩ := ag_inv hf
    refine r_iald X hP (ch_0_2 hk_l0).1 (ch_0_2 hk_l0).2 hij9 hjj9 dX0_dropPart_83 ?_
    obtain ⟨j10, hij10, hjj10, hlj10, hf⟩ := ag_inv hf
    refine r_iast X hP hS (ch_0_2 hk_l0).1 (ch_0_2 hk_l0).2 hij10 hjj10 dX0_dropPart_84 (fun H locs hP hS => ?_)
    obtain ⟨s11, es11, hf⟩ := lt_inv hf
    rw [es11] at hP
    obtain ⟨l2_12, el2_12, hf⟩ := lt_inv hf
    refine lv_iinc (v := i32 l2_12) (lv' := [(2, .int (i32 l2_12)), (0, .ref (gh G + l0)), (1, .int (i32 l1)), (3, .int (i32 l3)), (4, .int (i32 l4))]) X.1 X.2.1 dX0_dropPart_85 hl (k := 2) rfl (by rw [← el2_12]; exact i32_add _ _) (by decide) rfl (fun ls hl => ?_)
    exact a_X0_dropPart_88 X h4 s11 H locs ls l0 l1 l2_12 l3 hk_l0 hP hS hf (lv_sub hl [1, 2, 0, 3] rfl)
set_option maxHeartbeats 4000000 in
theorem a_X0_dropPart_27 {p : Program} {l : Launch} {e : Env} {R : Room} {s : State} {m : MethodId} {args : Array Value} {below : List Frame} {meth : Method} {c : Code} {G : GT} {τ : Mem} {res : Int} {rec4 : Mem → Nat → Int → Int → Int → Option (Int × Mem)} (X : CX p R s m args meth c cX0_dropPart 5 RX0 (some FieldType.int) 2 83 G) (h4 : S_X0_dropPart_4 rec4 p l e R s m args below meth c G τ res) : S_X0_dropPart_27 (X0_dropPart_B27 rec4) p l e R s m args below meth c G τ res := by
  intro σ H locs ls l0 l1 l2 l3 k0 hk_l0 hP hS hf hl
  unfold X0_dropPart_B27 at hf
  refine lv_istore (lv' := [(4, .int (i32 k0)), (0, .ref (gh G + l0)), (1, .int (i32 l1)), (2, .int (i32 l2)), (3, .int (i32 l3))]) X.1 X.2.1 dX0_dropPart_27 hl (by decide) rfl (fun ls hl => ?_)
  refine lv_aload_n X.1 X.2.1 dX0_dropPart_29 rfl (lv_at hl 1 rfl) ?_
  refine lv_iload_n X.1 X.2.1 dX0_dropPart_30 rfl (lv_at hl 4 rfl) ?_
  refine lv_iload X.1 X.2.1 dX0_dropPart_31 (lv_at hl 0 rfl) ?_
  refine r_if_eq (tgt := 40) X dX0_dropPart_33 (by decide) (fun q => ?_) (fun q => ?_)
  · replace hf := it_inv q hf
    refine lv_iload_n X.1 X.2.1 dX0_dropPart_40 rfl (lv_at hl 3 rfl) ?_
    exact a_X0_dropPart_41 X h4 σ H locs ls l0 l1 l2 l3 k0 l0 l3 l2 hk_l0 hk_l0 hP hS hf (lv_sub hl [1, 2, 3, 4, 0] rfl)
  · replace hf := ie_inv q hf
    refine r_iconst X (-1) dX0_dropPart_36 ?_
    refine lv_goto (tgt := 41) X.1 X.2.1 dX0_dropPart_37 (by decide) ?_
    exact a_X0_dropPart_41 X h4 σ H locs ls l0 l1 l2 l3 k0 l0 l3 (-1) hk_l0 hk_l0 hP hS hf (lv_sub hl [1, 2, 3, 4, 0] rfl)
set_option maxHeartbeats 4000000 in
theorem a_X0_dropPart_4 {p : Program} {l : Launch} {e : Env} {R : Room} {s : State} {m : MethodId} {args : Array Value} {below : List Frame} {meth : Method} {c : Code} {G : GT} {τ : Mem} {res : Int} {rec4 : Mem → Nat → Int → Int → Int → Option (Int × Mem)} (X : CX p R s m args meth c cX0_dropPart 5 RX0 (some FieldType.int) 2 83 G) (h4 : S_X0_dropPart_4 rec4 p l e R s m args below meth c G τ res) : S_X0_dropPart_4 (X0_dropPart_B4 rec4) p l e R s m args below meth c G τ res := by
  intro σ H locs ls l0 l1 l2 l3 hk_l0 hP hS hf hl
  unfold X0_dropPart_B4 at hf
  refine lv_iload_n X.1 X.2.1 dX0_dropPart_4 rfl (lv_at hl 3 rfl) ?_
  refine lv_aload_n X.1 X.2.1 dX0_dropPart_5 rfl (lv_at hl 0 rfl) ?_
  refine g_0_3 X hP hk_l0 (tb t_129 rfl) dX0_dropPart_6 ?_
  refine r_icmp_ge (tgt := 94) X dX0_dropPart_9 (by decide) (fun q => ?_) (fun q => ?_)
  · replace hf := it_inv q hf
    refine lv_aload_n X.1 X.2.1 dX0_dropPart_94 rfl (lv_at hl 0 rfl) ?_
    refine g_0_3 X hP hk_l0 (tb t_129 rfl) dX0_dropPart_95 ?_
    refine lv_iload_n X.1 X.2.1 dX0_dropPart_98 rfl (lv_at hl 2 rfl) ?_
    refine r_isub X dX0_dropPart_99 ?_
    obtain ⟨l3_1, el3_1, hf⟩ := lt_inv hf
    refine r_eqi el3_1 ?_
    refine lv_istore_n (lv' := [(3, .int (i32 l3_1)), (0, .ref (gh G + l0)), (1, .int (i32 l1)), (2, .int (i32 l2))]) X.1 X.2.1 dX0_dropPart_100 rfl hl (by decide) rfl (fun ls hl => ?_)
    refine lv_aload_n X.1 X.2.1 dX0_dropPart_101 rfl (lv_at hl 1 rfl) ?_
    refine lv_iload_n X.1 X.2.1 dX0_dropPart_102 rfl (lv_at hl 3 rfl) ?_
    refine p_0_3 X hP hS hk_l0 (tb t_129 rfl) dX0_dropPart_103 (fun H locs hP hS => ?_)
    obtain ⟨s2, es2, hf⟩ := lt_inv hf
    rw [es2] at hP
    refine lv_iload_n X.1 X.2.1 dX0_dropPart_106 rfl (lv_at hl 0 rfl) ?_
    obtain ⟨rfl, rfl⟩ := so2_inv hf
    exact r_iret X hP hS dX0_dropPart_107
  · replace hf := ie_inv q hf
    refine lv_aload_n X.1 X.2.1 dX0_dropPart_12 rfl (lv_at hl 0 rfl) ?_
    refine g_0_1 (r := l0 + 2) X hP hk_l0 rfl (tb t_123 rfl) dX0_dropPart_13 ?_
    refine lv_iload_n X.1 X.2.1 dX0_dropPart_16 rfl (lv_at hl 3 rfl) ?_
    obtain ⟨j3, hij3, hjj3, hlj3, hf⟩ := ag_inv hf
    refine r_iald X hP (ch_0_1 hk_l0).1 (ch_0_1 hk_l0).2 hij3 hjj3 dX0_dropPart_17 ?_
    refine lv_iload_n X.1 X.2.1 dX0_dropPart_18 rfl (lv_at hl 1 rfl) ?_
    refine r_icmp_ne (tgt := 26) X dX0_dropPart_19 (by decide) (fun q => ?_) (fun q => ?_)
    · replace hf := it_inv q hf
      refine r_iconst X 0 dX0_dropPart_26 ?_
      exact a_X0_dropPart_27 X h4 σ H locs ls l0 l1 l2 l3 0 hk_l0 hP hS hf hl
    · replace hf := ie_inv q hf
      refine r_iconst X 1 dX0_dropPart_22 ?_
      refine lv_goto (tgt := 27) X.1 X.2.1 dX0_dropPart_23 (by decide) ?_
      exact a_X0_dropPart_27 X h4 σ H locs ls l0 l1 l2 l3 1 hk_l0 hP hS hf hl
theorem al_X0_dropPart_4 {p : Program} {l : Launch} {e : Env} {R : Room} {s : State} {m : MethodId} {args : Array Value} {below : List Frame} {meth : Method} {c : Code} {G : GT} {τ : Mem} {res : Int} (X : CX p R s m args meth c cX0_dropPart 5 RX0 (some FieldType.int) 2 83 G) : ∀ n, S_X0_dropPart_4 (X0_dropPart_L4 n) p l e R s m args below meth c G τ res := by
  intro n
  induction n with
  | zero =>
    intro σ H locs ls l0 l1 l2 l3 hk_l0 hP hS hf hl
    cases hf
  | succ n ih => exact a_X0_dropPart_4 X ih
set_option maxHeartbeats 4000000 in
theorem a_X0_dropPart_0 {p : Program} {l : Launch} {e : Env} {R : Room} {s : State} {m : MethodId} {args : Array Value} {below : List Frame} {meth : Method} {c : Code} {G : GT} {τ : Mem} {res : Int} (X : CX p R s m args meth c cX0_dropPart 5 RX0 (some FieldType.int) 2 83 G) : S_X0_dropPart_0 (X0_dropPart) p l e R s m args below meth c G τ res := by
  intro σ H locs ls l0 l1 hk_l0 hP hS hf hl
  unfold X0_dropPart at hf
  refine r_iconst X 0 dX0_dropPart_0 ?_
  refine lv_istore_n (lv' := [(2, .int (i32 0)), (0, .ref (gh G + l0)), (1, .int (i32 l1))]) X.1 X.2.1 dX0_dropPart_1 rfl hl (by decide) rfl (fun ls hl => ?_)
  refine r_iconst X 0 dX0_dropPart_2 ?_
  refine lv_istore_n (lv' := [(3, .int (i32 0)), (2, .int (i32 0)), (0, .ref (gh G + l0)), (1, .int (i32 l1))]) X.1 X.2.1 dX0_dropPart_3 rfl hl (by decide) rfl (fun ls hl => ?_)
  exact al_X0_dropPart_4 X 5000 σ H locs ls l0 l1 0 0 hk_l0 hP hS hf (lv_sub hl [2, 3, 1, 0] rfl)
set_option maxHeartbeats 4000000 in
theorem c_X0_dropPart {l : Launch} {G : GT} {σ τ : Mem} {res : Int} {l0 : Nat} {l1 : Int} (hk_l0 : kd l0 = 0) (hf : X0_dropPart σ l0 l1 = some (res, τ)) : CT l yX0_dropPart cX0_dropPart 5 (some FieldType.int) 2 83 G [.ref (gh G + l0), .int (i32 l1)] σ τ (some (.int (i32 res))) := by
  refine CT.mk (own := RX0) (by decide) rfl (Nat.le_of_ble_eq_true rfl) ?_
  intro p e s m below meth c ls X hP hS hl
  have hl : lv_has ls 5 [(0, .ref (gh G + l0)), (1, .int (i32 l1))] := hl
  exact a_X0_dropPart_0 X σ s.heap [] ls l0 l1 hk_l0 hP hS hf hl
theorem k_X0_dropPart {p : Program} {l : Launch} {e : Env} {R : Room} {s : State} {m : MethodId} {args : Array Value} {below : List Frame} {meth : Method} {c : Code} {H : Heap} {locs : List Loc} {Q : State → Prop} {cc : ByteArray} {nL : Nat} {own : String} {ret : Option FieldType} {fF fL : Nat} {G : GT} {pc idx : Nat} {ls : Array Slot} {rest : List Value} {σ τ : Mem} {res : Int} {l0 : Nat} {l1 : Int} (X : CX p R s m args meth c cc nL own ret fF fL G) (hP : PW G σ H) (hS : va_S (AA G) s.heap H locs) (hls : ls.size = nL) (hk_l0 : kd l0 = 0) (hf : X0_dropPart σ l0 l1 = some (res, τ)) (h1 : Cond.methodLink own idx yX0_dropPart ∈ TB) (hR : 2 + 1 ≤ fF ∧ 8 + (5 + 11) + 83 ≤ fL) (hW : (rest.map fun v => v.category).sum ≤ 8) (hd : decode cc pc = .ok (.invokevirtual idx, 3)) (kk : ∀ (H1 : Heap) (locs1 : List Loc), PW G τ H1 → va_S (AA G) s.heap H1 locs1 → W p l e R s m args below meth c H1 locs1 0 0 Q (F0 m (pc + 3) ls (.int (i32 res) :: rest))) : W p l e R s m args below meth c H locs 0 0 Q (F0 m pc ls (.int (i32 l1) :: .ref (gh G + l0) :: rest)) := r_callV (n := 1) X hP hS hls (c_X0_dropPart hk_l0 hf) h1 (tb t_955 rfl) (tb t_956 rfl) (tb t_77 rfl) (tb t_957 rfl) (by decide +kernel) hR (r_recv X hP (kd_lt hk_l0 (by decide)) (cE_0 hk_l0) rfl) rfl rfl hW hd kk
/-! X0_has -/
theorem dX0_has_0 : decode cX0_has 0 = .ok (.iload_n 1, 1) := by decide +kernel
theorem dX0_has_1 : decode cX0_has 1 = .ok (.ifCond .lt 15, 3) := by decide +kernel
theorem dX0_has_4 : decode cX0_has 4 = .ok (.iload_n 1, 1) := by decide +kernel
theorem dX0_has_5 : decode cX0_has 5 = .ok (.aload_n 0, 1) := by decide +kernel
theorem dX0_has_6 : decode cX0_has 6 = .ok (.getfield 30, 3) := by decide +kernel
theorem dX0_has_9 : decode cX0_has 9 = .ok (.if_icmp .ge 7, 3) := by decide +kernel
theorem dX0_has_12 : decode cX0_has 12 = .ok (.iconst 1, 1) := by decide +kernel
theorem dX0_has_13 : decode cX0_has 13 = .ok (.goto 4, 3) := by decide +kernel
theorem dX0_has_16 : decode cX0_has 16 = .ok (.iconst 0, 1) := by decide +kernel
theorem dX0_has_17 : decode cX0_has 17 = .ok (.ireturn, 1) := by decide +kernel
def X0_has (σ : Mem) (l0 : Nat) (l1 : Int) : Option (Int) :=
  if w32 l1 < 0 then
    some 0
  else
  if w32 (σ l0 3) ≤ w32 l1 then
    some 0
  else
  some 1
def S_X0_has_0 (fn : Nat → Int → Option (Int)) (p : Program) (l : Launch) (e : Env) (R : Room) (s : State) (m : MethodId) (args : Array Value) (below : List Frame) (meth : Method) (c : Code) (G : GT) (σ : Mem) (res : Int) : Prop := ∀ (H : Heap) (locs : List Loc) (ls : Array Slot) (l0 : Nat) (l1 : Int), kd l0 = 0 → PW G σ H → va_S (AA G) s.heap H locs → fn l0 l1 = some res → lv_has ls 2 [(0, .ref (gh G + l0)), (1, .int (i32 l1))] → W p l e R s m args below meth c H locs 0 0 (MQ below (QM G (some (.int (i32 res))) σ) args s 0 0 (AA G)) (F0 m 0 ls [])
set_option maxHeartbeats 4000000 in
theorem a_X0_has_0 {p : Program} {l : Launch} {e : Env} {R : Room} {s : State} {m : MethodId} {args : Array Value} {below : List Frame} {meth : Method} {c : Code} {G : GT} {σ : Mem} {res : Int} (X : CX p R s m args meth c cX0_has 2 RX0 (some FieldType.boolean) 1 60 G) : S_X0_has_0 (X0_has σ) p l e R s m args below meth c G σ res := by
  intro H locs ls l0 l1 hk_l0 hP hS hf hl
  unfold X0_has at hf
  refine lv_iload_n X.1 X.2.1 dX0_has_0 rfl (lv_at hl 1 rfl) ?_
  refine r_if_lt (tgt := 16) X dX0_has_1 (by decide) (fun q => ?_) (fun q => ?_)
  · replace hf := it_inv q hf
    refine r_iconst X 0 dX0_has_16 ?_
    cases so_inv hf
    exact r_zret X hP hS (Or.inl rfl) dX0_has_17
  · replace hf := ie_inv q hf
    refine lv_iload_n X.1 X.2.1 dX0_has_4 rfl (lv_at hl 1 rfl) ?_
    refine lv_aload_n X.1 X.2.1 dX0_has_5 rfl (lv_at hl 0 rfl) ?_
    refine g_0_3 X hP hk_l0 (tb t_129 rfl) dX0_has_6 ?_
    refine r_icmp_ge (tgt := 16) X dX0_has_9 (by decide) (fun q => ?_) (fun q => ?_)
    · replace hf := it_inv q hf
      refine r_iconst X 0 dX0_has_16 ?_
      cases so_inv hf
      exact r_zret X hP hS (Or.inl rfl) dX0_has_17
    · replace hf := ie_inv q hf
      refine r_iconst X 1 dX0_has_12 ?_
      refine lv_goto (tgt := 17) X.1 X.2.1 dX0_has_13 (by decide) ?_
      cases so_inv hf
      exact r_zret X hP hS (Or.inr rfl) dX0_has_17
set_option maxHeartbeats 4000000 in
theorem c_X0_has {l : Launch} {G : GT} {σ : Mem} {res : Int} {l0 : Nat} {l1 : Int} (hk_l0 : kd l0 = 0) (hf : X0_has σ l0 l1 = some res) : CT l yX0_has cX0_has 2 (some FieldType.boolean) 1 60 G [.ref (gh G + l0), .int (i32 l1)] σ σ (some (.int (i32 res))) := by
  refine CT.mk (own := RX0) (by decide) rfl (Nat.le_of_ble_eq_true rfl) ?_
  intro p e s m below meth c ls X hP hS hl
  have hl : lv_has ls 2 [(0, .ref (gh G + l0)), (1, .int (i32 l1))] := hl
  exact a_X0_has_0 X  s.heap [] ls l0 l1 hk_l0 hP hS hf hl
theorem k_X0_has {p : Program} {l : Launch} {e : Env} {R : Room} {s : State} {m : MethodId} {args : Array Value} {below : List Frame} {meth : Method} {c : Code} {H : Heap} {locs : List Loc} {Q : State → Prop} {cc : ByteArray} {nL : Nat} {own : String} {ret : Option FieldType} {fF fL : Nat} {G : GT} {pc idx : Nat} {ls : Array Slot} {rest : List Value} {σ : Mem} {res : Int} {l0 : Nat} {l1 : Int} (X : CX p R s m args meth c cc nL own ret fF fL G) (hP : PW G σ H) (hS : va_S (AA G) s.heap H locs) (hls : ls.size = nL) (hk_l0 : kd l0 = 0) (hf : X0_has σ l0 l1 = some res) (h1 : Cond.methodLink own idx yX0_has ∈ TB) (hR : 1 + 1 ≤ fF ∧ 8 + (2 + 11) + 60 ≤ fL) (hW : (rest.map fun v => v.category).sum ≤ 8) (hd : decode cc pc = .ok (.invokevirtual idx, 3)) (kk : ∀ (H1 : Heap) (locs1 : List Loc), PW G σ H1 → va_S (AA G) s.heap H1 locs1 → W p l e R s m args below meth c H1 locs1 0 0 Q (F0 m (pc + 3) ls (.int (i32 res) :: rest))) : W p l e R s m args below meth c H locs 0 0 Q (F0 m pc ls (.int (i32 l1) :: .ref (gh G + l0) :: rest)) := r_callV (n := 1) X hP hS hls (c_X0_has hk_l0 hf) h1 (tb t_936 rfl) (tb t_937 rfl) (tb t_77 rfl) (tb t_938 rfl) (by decide +kernel) hR (r_recv X hP (kd_lt hk_l0 (by decide)) (cE_0 hk_l0) rfl) rfl rfl hW hd kk
/-! X0_heldSpots -/
theorem dX0_heldSpots_0 : decode cX0_heldSpots 0 = .ok (.iconst 0, 1) := by decide +kernel
theorem dX0_heldSpots_1 : decode cX0_heldSpots 1 = .ok (.istore_n 1, 1) := by decide +kernel
theorem dX0_heldSpots_2 : decode cX0_heldSpots 2 = .ok (.iconst 0, 1) := by decide +kernel
theorem dX0_heldSpots_3 : decode cX0_heldSpots 3 = .ok (.istore_n 2, 1) := by decide +kernel
theorem dX0_heldSpots_4 : decode cX0_heldSpots 4 = .ok (.iload_n 2, 1) := by decide +kernel
theorem dX0_heldSpots_5 : decode cX0_heldSpots 5 = .ok (.bipush 10, 2) := by decide +kernel
theorem dX0_heldSpots_7 : decode cX0_heldSpots 7 = .ok (.if_icmp .ge 21, 3) := by decide +kernel
theorem dX0_heldSpots_10 : decode cX0_heldSpots 10 = .ok (.aload_n 0, 1) := by decide +kernel
theorem dX0_heldSpots_11 : decode cX0_heldSpots 11 = .ok (.getfield 21, 3) := by decide +kernel
theorem dX0_heldSpots_14 : decode cX0_heldSpots 14 = .ok (.iload_n 2, 1) := by decide +kernel
theorem dX0_heldSpots_15 : decode cX0_heldSpots 15 = .ok (.iaload, 1) := by decide +kernel
theorem dX0_heldSpots_16 : decode cX0_heldSpots 16 = .ok (.ifCond .lt 6, 3) := by decide +kernel
theorem dX0_heldSpots_19 : decode cX0_heldSpots 19 = .ok (.iinc 1 1, 3) := by decide +kernel
theorem dX0_heldSpots_22 : decode cX0_heldSpots 22 = .ok (.iinc 2 1, 3) := by decide +kernel
theorem dX0_heldSpots_25 : decode cX0_heldSpots 25 = .ok (.goto (-21), 3) := by decide +kernel
theorem dX0_heldSpots_28 : decode cX0_heldSpots 28 = .ok (.iload_n 1, 1) := by decide +kernel
theorem dX0_heldSpots_29 : decode cX0_heldSpots 29 = .ok (.ireturn, 1) := by decide +kernel
def S_X0_heldSpots_4 (fn : Nat → Int → Int → Option (Int)) (p : Program) (l : Launch) (e : Env) (R : Room) (s : State) (m : MethodId) (args : Array Value) (below : List Frame) (meth : Method) (c : Code) (G : GT) (σ : Mem) (res : Int) : Prop := ∀ (H : Heap) (locs : List Loc) (ls : Array Slot) (l0 : Nat) (l1 : Int) (l2 : Int), kd l0 = 0 → PW G σ H → va_S (AA G) s.heap H locs → fn l0 l1 l2 = some res → lv_has ls 3 [(0, .ref (gh G + l0)), (1, .int (i32 l1)), (2, .int (i32 l2))] → W p l e R s m args below meth c H locs 0 0 (MQ below (QM G (some (.int (i32 res))) σ) args s 0 0 (AA G)) (F0 m 4 ls [])
def X0_heldSpots_B22 (rec4 : Nat → Int → Int → Option (Int)) (σ : Mem) (l0 : Nat) (l1 : Int) (l2 : Int) : Option (Int) :=
  lt (l2 + 1) fun l2_1 =>
  rec4 l0 l1 l2_1
def S_X0_heldSpots_22 (fn : Nat → Int → Int → Option (Int)) (p : Program) (l : Launch) (e : Env) (R : Room) (s : State) (m : MethodId) (args : Array Value) (below : List Frame) (meth : Method) (c : Code) (G : GT) (σ : Mem) (res : Int) : Prop := ∀ (H : Heap) (locs : List Loc) (ls : Array Slot) (l0 : Nat) (l1 : Int) (l2 : Int), kd l0 = 0 → PW G σ H → va_S (AA G) s.heap H locs → fn l0 l1 l2 = some res → lv_has ls 3 [(0, .ref (gh G + l0)), (1, .int (i32 l1)), (2, .int (i32 l2))] → W p l e R s m args below meth c H locs 0 0 (MQ below (QM G (some (.int (i32 res))) σ) args s 0 0 (AA G)) (F0 m 22 ls [])
def X0_heldSpots_B4 (rec4 : Nat → Int → Int → Option (Int)) (σ : Mem) (l0 : Nat) (l1 : Int) (l2 : Int) : Option (Int) :=
  if w32 10 ≤ w32 l2 then
    some l1
  else
  ag 10 l2 fun j1 =>
  if w32 (σ (l0 + 4) j1) < 0 then
    X0_heldSpots_B22 rec4 σ l0 l1 l2
  else
  lt (l1 + 1) fun l1_2 =>
  X0_heldSpots_B22 rec4 σ l0 l1_2 l2
def X0_heldSpots_L4 (σ : Mem) : Nat → Nat → Int → Int → Option (Int)
  | 0 => fun _ _ _ => none
  | n + 1 => X0_heldSpots_B4 (X0_heldSpots_L4 σ n) σ
def X0_heldSpots (σ : Mem) (l0 : Nat) : Option (Int) :=
  X0_heldSpots_L4 σ 5000 l0 0 0
def S_X0_heldSpots_0 (fn : Nat → Option (Int)) (p : Program) (l : Launch) (e : Env) (R : Room) (s : State) (m : MethodId) (args : Array Value) (below : List Frame) (meth : Method) (c : Code) (G : GT) (σ : Mem) (res : Int) : Prop := ∀ (H : Heap) (locs : List Loc) (ls : Array Slot) (l0 : Nat), kd l0 = 0 → PW G σ H → va_S (AA G) s.heap H locs → fn l0 = some res → lv_has ls 3 [(0, .ref (gh G + l0))] → W p l e R s m args below meth c H locs 0 0 (MQ below (QM G (some (.int (i32 res))) σ) args s 0 0 (AA G)) (F0 m 0 ls [])
set_option maxHeartbeats 4000000 in
theorem a_X0_heldSpots_22 {p : Program} {l : Launch} {e : Env} {R : Room} {s : State} {m : MethodId} {args : Array Value} {below : List Frame} {meth : Method} {c : Code} {G : GT} {σ : Mem} {res : Int} {rec4 : Nat → Int → Int → Option (Int)} (X : CX p R s m args meth c cX0_heldSpots 3 RX0 (some FieldType.int) 1 60 G) (h4 : S_X0_heldSpots_4 rec4 p l e R s m args below meth c G σ res) : S_X0_heldSpots_22 (X0_heldSpots_B22 rec4 σ) p l e R s m args below meth c G σ res := by
  intro H locs ls l0 l1 l2 hk_l0 hP hS hf hl
  unfold X0_heldSpots_B22 at hf
  obtain ⟨l2_1, el2_1, hf⟩ := lt_inv hf
  refine lv_iinc (v := i32 l2_1) (lv' := [(2, .int (i32 l2_1)), (0, .ref (gh G + l0)), (1, .int (i32 l1))]) X.1 X.2.1 dX0_heldSpots_22 hl (k := 2) rfl (by rw [← el2_1]; exact i32_add _ _) (by decide) rfl (fun ls hl => ?_)
  refine lv_goto (tgt := 4) X.1 X.2.1 dX0_heldSpots_25 (by decide) ?_
  exact h4  H locs ls l0 l1 l2_1 hk_l0 hP hS hf (lv_sub hl [1, 2, 0] rfl)
set_option maxHeartbeats 4000000 in
theorem a_X0_heldSpots_4 {p : Program} {l : Launch} {e : Env} {R : Room} {s : State} {m : MethodId} {args : Array Value} {below : List Frame} {meth : Method} {c : Code} {G : GT} {σ : Mem} {res : Int} {rec4 : Nat → Int → Int → Option (Int)} (X : CX p R s m args meth c cX0_heldSpots 3 RX0 (some FieldType.int) 1 60 G) (h4 : S_X0_heldSpots_4 rec4 p l e R s m args below meth c G σ res) : S_X0_heldSpots_4 (X0_heldSpots_B4 rec4 σ) p l e R s m args below meth c G σ res := by
  intro H locs ls l0 l1 l2 hk_l0 hP hS hf hl
  unfold X0_heldSpots_B4 at hf
  refine lv_iload_n X.1 X.2.1 dX0_heldSpots_4 rfl (lv_at hl 2 rfl) ?_
  refine r_bipush X 10 (by decide) dX0_heldSpots_5 ?_
  refine r_icmp_ge (tgt := 28) X dX0_heldSpots_7 (by decide) (fun q => ?_) (fun q => ?_)
  · replace hf := it_inv q hf
    refine lv_iload_n X.1 X.2.1 dX0_heldSpots_28 rfl (lv_at hl 1 rfl) ?_
    cases so_inv hf
    exact r_iret X hP hS dX0_heldSpots_29
  · replace hf := ie_inv q hf
    refine lv_aload_n X.1 X.2.1 dX0_heldSpots_10 rfl (lv_at hl 0 rfl) ?_
    refine g_0_4 (r := l0 + 4) X hP hk_l0 rfl (tb t_132 rfl) dX0_heldSpots_11 ?_
    refine lv_iload_n X.1 X.2.1 dX0_heldSpots_14 rfl (lv_at hl 2 rfl) ?_
    obtain ⟨j1, hij1, hjj1, hlj1, hf⟩ := ag_inv hf
    refine r_iald X hP (ch_0_4 hk_l0).1 (ch_0_4 hk_l0).2 hij1 hjj1 dX0_heldSpots_15 ?_
    refine r_if_lt (tgt := 22) X dX0_heldSpots_16 (by decide) (fun q => ?_) (fun q => ?_)
    · replace hf := it_inv q hf
      exact a_X0_heldSpots_22 X h4  H locs ls l0 l1 l2 hk_l0 hP hS hf hl
    · replace hf := ie_inv q hf
      obtain ⟨l1_2, el1_2, hf⟩ := lt_inv hf
      refine lv_iinc (v := i32 l1_2) (lv' := [(1, .int (i32 l1_2)), (0, .ref (gh G + l0)), (2, .int (i32 l2))]) X.1 X.2.1 dX0_heldSpots_19 hl (k := 1) rfl (by rw [← el1_2]; exact i32_add _ _) (by decide) rfl (fun ls hl => ?_)
      exact a_X0_heldSpots_22 X h4  H locs ls l0 l1_2 l2 hk_l0 hP hS hf (lv_sub hl [1, 0, 2] rfl)
theorem al_X0_heldSpots_4 {p : Program} {l : Launch} {e : Env} {R : Room} {s : State} {m : MethodId} {args : Array Value} {below : List Frame} {meth : Method} {c : Code} {G : GT} {σ : Mem} {res : Int} (X : CX p R s m args meth c cX0_heldSpots 3 RX0 (some FieldType.int) 1 60 G) : ∀ n, S_X0_heldSpots_4 (X0_heldSpots_L4 σ n) p l e R s m args below meth c G σ res := by
  intro n
  induction n with
  | zero =>
    intro H locs ls l0 l1 l2 hk_l0 hP hS hf hl
    cases hf
  | succ n ih => exact a_X0_heldSpots_4 X ih
set_option maxHeartbeats 4000000 in
theorem a_X0_heldSpots_0 {p : Program} {l : Launch} {e : Env} {R : Room} {s : State} {m : MethodId} {args : Array Value} {below : List Frame} {meth : Method} {c : Code} {G : GT} {σ : Mem} {res : Int} (X : CX p R s m args meth c cX0_heldSpots 3 RX0 (some FieldType.int) 1 60 G) : S_X0_heldSpots_0 (X0_heldSpots σ) p l e R s m args below meth c G σ res := by
  intro H locs ls l0 hk_l0 hP hS hf hl
  unfold X0_heldSpots at hf
  refine r_iconst X 0 dX0_heldSpots_0 ?_
  refine lv_istore_n (lv' := [(1, .int (i32 0)), (0, .ref (gh G + l0))]) X.1 X.2.1 dX0_heldSpots_1 rfl hl (by decide) rfl (fun ls hl => ?_)
  refine r_iconst X 0 dX0_heldSpots_2 ?_
  refine lv_istore_n (lv' := [(2, .int (i32 0)), (1, .int (i32 0)), (0, .ref (gh G + l0))]) X.1 X.2.1 dX0_heldSpots_3 rfl hl (by decide) rfl (fun ls hl => ?_)
  exact al_X0_heldSpots_4 X 5000  H locs ls l0 0 0 hk_l0 hP hS hf (lv_sub hl [2, 1, 0] rfl)
set_option maxHeartbeats 4000000 in
theorem c_X0_heldSpots {l : Launch} {G : GT} {σ : Mem} {res : Int} {l0 : Nat} (hk_l0 : kd l0 = 0) (hf : X0_heldSpots σ l0 = some res) : CT l yX0_heldSpots cX0_heldSpots 3 (some FieldType.int) 1 60 G [.ref (gh G + l0)] σ σ (some (.int (i32 res))) := by
  refine CT.mk (own := RX0) (by decide) rfl (Nat.le_of_ble_eq_true rfl) ?_
  intro p e s m below meth c ls X hP hS hl
  have hl : lv_has ls 3 [(0, .ref (gh G + l0))] := hl
  exact a_X0_heldSpots_0 X  s.heap [] ls l0 hk_l0 hP hS hf hl
theorem k_X0_heldSpots {p : Program} {l : Launch} {e : Env} {R : Room} {s : State} {m : MethodId} {args : Array Value} {below : List Frame} {meth : Method} {c : Code} {H : Heap} {locs : List Loc} {Q : State → Prop} {cc : ByteArray} {nL : Nat} {own : String} {ret : Option FieldType} {fF fL : Nat} {G : GT} {pc idx : Nat} {ls : Array Slot} {rest : List Value} {σ : Mem} {res : Int} {l0 : Nat} (X : CX p R s m args meth c cc nL own ret fF fL G) (hP : PW G σ H) (hS : va_S (AA G) s.heap H locs) (hls : ls.size = nL) (hk_l0 : kd l0 = 0) (hf : X0_heldSpots σ l0 = some res) (h1 : Cond.methodLink own idx yX0_heldSpots ∈ TB) (hR : 1 + 1 ≤ fF ∧ 8 + (3 + 11) + 60 ≤ fL) (hW : (rest.map fun v => v.category).sum ≤ 8) (hd : decode cc pc = .ok (.invokevirtual idx, 3)) (kk : ∀ (H1 : Heap) (locs1 : List Loc), PW G σ H1 → va_S (AA G) s.heap H1 locs1 → W p l e R s m args below meth c H1 locs1 0 0 Q (F0 m (pc + 3) ls (.int (i32 res) :: rest))) : W p l e R s m args below meth c H locs 0 0 Q (F0 m pc ls (.ref (gh G + l0) :: rest)) := r_callV (n := 0) X hP hS hls (c_X0_heldSpots hk_l0 hf) h1 (tb t_1071 rfl) (tb t_1072 rfl) (tb t_77 rfl) (tb t_1073 rfl) (by decide +kernel) hR (r_recv X hP (kd_lt hk_l0 (by decide)) (cE_0 hk_l0) rfl) rfl rfl hW hd kk
/-! X0_isUnder -/
theorem dX0_isUnder_0 : decode cX0_isUnder 0 = .ok (.iload_n 0, 1) := by decide +kernel
theorem dX0_isUnder_1 : decode cX0_isUnder 1 = .ok (.istore_n 2, 1) := by decide +kernel
theorem dX0_isUnder_2 : decode cX0_isUnder 2 = .ok (.iconst 0, 1) := by decide +kernel
theorem dX0_isUnder_3 : decode cX0_isUnder 3 = .ok (.istore_n 3, 1) := by decide +kernel
theorem dX0_isUnder_4 : decode cX0_isUnder 4 = .ok (.iload_n 3, 1) := by decide +kernel
theorem dX0_isUnder_5 : decode cX0_isUnder 5 = .ok (.bipush 7, 2) := by decide +kernel
theorem dX0_isUnder_7 : decode cX0_isUnder 7 = .ok (.if_icmp .ge 32, 3) := by decide +kernel
theorem dX0_isUnder_10 : decode cX0_isUnder 10 = .ok (.iload_n 2, 1) := by decide +kernel
theorem dX0_isUnder_11 : decode cX0_isUnder 11 = .ok (.ifCond .lt 28, 3) := by decide +kernel
theorem dX0_isUnder_14 : decode cX0_isUnder 14 = .ok (.iload_n 2, 1) := by decide +kernel
theorem dX0_isUnder_15 : decode cX0_isUnder 15 = .ok (.bipush 7, 2) := by decide +kernel
theorem dX0_isUnder_17 : decode cX0_isUnder 17 = .ok (.if_icmp .ge 22, 3) := by decide +kernel
theorem dX0_isUnder_20 : decode cX0_isUnder 20 = .ok (.iload_n 2, 1) := by decide +kernel
theorem dX0_isUnder_21 : decode cX0_isUnder 21 = .ok (.iload_n 1, 1) := by decide +kernel
theorem dX0_isUnder_22 : decode cX0_isUnder 22 = .ok (.if_icmp .ne 5, 3) := by decide +kernel
theorem dX0_isUnder_25 : decode cX0_isUnder 25 = .ok (.iconst 1, 1) := by decide +kernel
theorem dX0_isUnder_26 : decode cX0_isUnder 26 = .ok (.ireturn, 1) := by decide +kernel
theorem dX0_isUnder_27 : decode cX0_isUnder 27 = .ok (.getstatic 44, 3) := by decide +kernel
theorem dX0_isUnder_30 : decode cX0_isUnder 30 = .ok (.iload_n 2, 1) := by decide +kernel
theorem dX0_isUnder_31 : decode cX0_isUnder 31 = .ok (.iaload, 1) := by decide +kernel
theorem dX0_isUnder_32 : decode cX0_isUnder 32 = .ok (.istore_n 2, 1) := by decide +kernel
theorem dX0_isUnder_33 : decode cX0_isUnder 33 = .ok (.iinc 3 1, 3) := by decide +kernel
theorem dX0_isUnder_36 : decode cX0_isUnder 36 = .ok (.goto (-32), 3) := by decide +kernel
theorem dX0_isUnder_39 : decode cX0_isUnder 39 = .ok (.iconst 0, 1) := by decide +kernel
theorem dX0_isUnder_40 : decode cX0_isUnder 40 = .ok (.ireturn, 1) := by decide +kernel
def S_X0_isUnder_4 (fn : Int → Int → Int → Option (Int)) (p : Program) (l : Launch) (e : Env) (R : Room) (s : State) (m : MethodId) (args : Array Value) (below : List Frame) (meth : Method) (c : Code) (G : GT) (σ : Mem) (res : Int) : Prop := ∀ (H : Heap) (locs : List Loc) (ls : Array Slot) (l1 : Int) (l2 : Int) (l3 : Int), PW G σ H → va_S (AA G) s.heap H locs → fn l1 l2 l3 = some res → lv_has ls 4 [(1, .int (i32 l1)), (2, .int (i32 l2)), (3, .int (i32 l3))] → W p l e R s m args below meth c H locs 0 0 (MQ below (QM G (some (.int (i32 res))) σ) args s 0 0 (AA G)) (F0 m 4 ls [])
def X0_isUnder_B4 (rec4 : Int → Int → Int → Option (Int)) (σ : Mem) (l1 : Int) (l2 : Int) (l3 : Int) : Option (Int) :=
  if w32 7 ≤ w32 l3 then
    some 0
  else
  if w32 l2 < 0 then
    some 0
  else
  if w32 7 ≤ w32 l2 then
    some 0
  else
  if w32 l2 ≠ w32 l1 then
    ag 7 l2 fun j1 =>
    lt (sv 4 j1) fun l2_2 =>
    lt (l3 + 1) fun l3_3 =>
    rec4 l1 l2_2 l3_3
  else
  some 1
def X0_isUnder_L4 (σ : Mem) : Nat → Int → Int → Int → Option (Int)
  | 0 => fun _ _ _ => none
  | n + 1 => X0_isUnder_B4 (X0_isUnder_L4 σ n) σ
def X0_isUnder (σ : Mem) (l0 : Int) (l1 : Int) : Option (Int) :=
  X0_isUnder_L4 σ 5000 l1 l0 0
def S_X0_isUnder_0 (fn : Int → Int → Option (Int)) (p : Program) (l : Launch) (e : Env) (R : Room) (s : State) (m : MethodId) (args : Array Value) (below : List Frame) (meth : Method) (c : Code) (G : GT) (σ : Mem) (res : Int) : Prop := ∀ (H : Heap) (locs : List Loc) (ls : Array Slot) (l0 : Int) (l1 : Int), PW G σ H → va_S (AA G) s.heap H locs → fn l0 l1 = some res → lv_has ls 4 [(0, .int (i32 l0)), (1, .int (i32 l1))] → W p l e R s m args below meth c H locs 0 0 (MQ below (QM G (some (.int (i32 res))) σ) args s 0 0 (AA G)) (F0 m 0 ls [])
set_option maxHeartbeats 4000000 in
theorem a_X0_isUnder_4 {p : Program} {l : Launch} {e : Env} {R : Room} {s : State} {m : MethodId} {args : Array Value} {below : List Frame} {meth : Method} {c : Code} {G : GT} {σ : Mem} {res : Int} {rec4 : Int → Int → Int → Option (Int)} (X : CX p R s m args meth c cX0_isUnder 4 RX0 (some FieldType.boolean) 1 60 G) (h4 : S_X0_isUnder_4 rec4 p l e R s m args below meth c G σ res) : S_X0_isUnder_4 (X0_isUnder_B4 rec4 σ) p l e R s m args below meth c G σ res := by
  intro H locs ls l1 l2 l3 hP hS hf hl
  unfold X0_isUnder_B4 at hf
  refine lv_iload_n X.1 X.2.1 dX0_isUnder_4 rfl (lv_at hl 2 rfl) ?_
  refine r_bipush X 7 (by decide) dX0_isUnder_5 ?_
  refine r_icmp_ge (tgt := 39) X dX0_isUnder_7 (by decide) (fun q => ?_) (fun q => ?_)
  · replace hf := it_inv q hf
    refine r_iconst X 0 dX0_isUnder_39 ?_
    cases so_inv hf
    exact r_zret X hP hS (Or.inl rfl) dX0_isUnder_40
  · replace hf := ie_inv q hf
    refine lv_iload_n X.1 X.2.1 dX0_isUnder_10 rfl (lv_at hl 1 rfl) ?_
    refine r_if_lt (tgt := 39) X dX0_isUnder_11 (by decide) (fun q => ?_) (fun q => ?_)
    · replace hf := it_inv q hf
      refine r_iconst X 0 dX0_isUnder_39 ?_
      cases so_inv hf
      exact r_zret X hP hS (Or.inl rfl) dX0_isUnder_40
    · replace hf := ie_inv q hf
      refine lv_iload_n X.1 X.2.1 dX0_isUnder_14 rfl (lv_at hl 1 rfl) ?_
      refine r_bipush X 7 (by decide) dX0_isUnder_15 ?_
      refine r_icmp_ge (tgt := 39) X dX0_isUnder_17 (by decide) (fun q => ?_) (fun q => ?_)
      · replace hf := it_inv q hf
        refine r_iconst X 0 dX0_isUnder_39 ?_
        cases so_inv hf
        exact r_zret X hP hS (Or.inl rfl) dX0_isUnder_40
      · replace hf := ie_inv q hf
        refine lv_iload_n X.1 X.2.1 dX0_isUnder_20 rfl (lv_at hl 1 rfl) ?_
        refine lv_iload_n X.1 X.2.1 dX0_isUnder_21 rfl (lv_at hl 0 rfl) ?_
        refine r_icmp_ne (tgt := 27) X dX0_isUnder_22 (by decide) (fun q => ?_) (fun q => ?_)
        · replace hf := it_inv q hf
          refine r_getsN (i := 4) (host := RX10) X hS (by decide) (by decide +kernel) dX0_isUnder_27 ?_
          refine lv_iload_n X.1 X.2.1 dX0_isUnder_30 rfl (lv_at hl 1 rfl) ?_
          obtain ⟨j1, hij1, hjj1, hlj1, hf⟩ := ag_inv hf
          refine r_sald (i := 4) X hS (by decide) (n := 7) rfl hij1 hjj1 dX0_isUnder_31 ?_
          obtain ⟨l2_2, el2_2, hf⟩ := lt_inv hf
          refine r_eqi el2_2 ?_
          refine lv_istore_n (lv' := [(2, .int (i32 l2_2)), (1, .int (i32 l1)), (3, .int (i32 l3))]) X.1 X.2.1 dX0_isUnder_32 rfl hl (by decide) rfl (fun ls hl => ?_)
          obtain ⟨l3_3, el3_3, hf⟩ := lt_inv hf
          refine lv_iinc (v := i32 l3_3) (lv' := [(3, .int (i32 l3_3)), (2, .int (i32 l2_2)), (1, .int (i32 l1))]) X.1 X.2.1 dX0_isUnder_33 hl (k := 2) rfl (by rw [← el3_3]; exact i32_add _ _) (by decide) rfl (fun ls hl => ?_)
          refine lv_goto (tgt := 4) X.1 X.2.1 dX0_isUnder_36 (by decide) ?_
          exact h4  H locs ls l1 l2_2 l3_3 hP hS hf (lv_sub hl [2, 1, 0] rfl)
        · replace hf := ie_inv q hf
          refine r_iconst X 1 dX0_isUnder_25 ?_
          cases so_inv hf
          exact r_zret X hP hS (Or.inr rfl) dX0_isUnder_26
theorem al_X0_isUnder_4 {p : Program} {l : Launch} {e : Env} {R : Room} {s : State} {m : MethodId} {args : Array Value} {below : List Frame} {meth : Method} {c : Code} {G : GT} {σ : Mem} {res : Int} (X : CX p R s m args meth c cX0_isUnder 4 RX0 (some FieldType.boolean) 1 60 G) : ∀ n, S_X0_isUnder_4 (X0_isUnder_L4 σ n) p l e R s m args below meth c G σ res := by
  intro n
  induction n with
  | zero =>
    intro H locs ls l1 l2 l3 hP hS hf hl
    cases hf
  | succ n ih => exact a_X0_isUnder_4 X ih
set_option maxHeartbeats 4000000 in
theorem a_X0_isUnder_0 {p : Program} {l : Launch} {e : Env} {R : Room} {s : State} {m : MethodId} {args : Array Value} {below : List Frame} {meth : Method} {c : Code} {G : GT} {σ : Mem} {res : Int} (X : CX p R s m args meth c cX0_isUnder 4 RX0 (some FieldType.boolean) 1 60 G) : S_X0_isUnder_0 (X0_isUnder σ) p l e R s m args below meth c G σ res := by
  intro H locs ls l0 l1 hP hS hf hl
  unfold X0_isUnder at hf
  refine lv_iload_n X.1 X.2.1 dX0_isUnder_0 rfl (lv_at hl 0 rfl) ?_
  refine lv_istore_n (lv' := [(2, .int (i32 l0)), (0, .int (i32 l0)), (1, .int (i32 l1))]) X.1 X.2.1 dX0_isUnder_1 rfl hl (by decide) rfl (fun ls hl => ?_)
  refine r_iconst X 0 dX0_isUnder_2 ?_
  refine lv_istore_n (lv' := [(3, .int (i32 0)), (2, .int (i32 l0)), (0, .int (i32 l0)), (1, .int (i32 l1))]) X.1 X.2.1 dX0_isUnder_3 rfl hl (by decide) rfl (fun ls hl => ?_)
  exact al_X0_isUnder_4 X 5000  H locs ls l1 l0 0 hP hS hf (lv_sub hl [3, 1, 0] rfl)
set_option maxHeartbeats 4000000 in
theorem c_X0_isUnder {l : Launch} {G : GT} {σ : Mem} {res : Int} {l0 : Int} {l1 : Int} (hf : X0_isUnder σ l0 l1 = some res) : CT l yX0_isUnder cX0_isUnder 4 (some FieldType.boolean) 1 60 G [.int (i32 l0), .int (i32 l1)] σ σ (some (.int (i32 res))) := by
  refine CT.mk (own := RX0) (by decide) rfl (Nat.le_of_ble_eq_true rfl) ?_
  intro p e s m below meth c ls X hP hS hl
  have hl : lv_has ls 4 [(0, .int (i32 l0)), (1, .int (i32 l1))] := hl
  exact a_X0_isUnder_0 X  s.heap [] ls l0 l1 hP hS hf hl
theorem k_X0_isUnder {p : Program} {l : Launch} {e : Env} {R : Room} {s : State} {m : MethodId} {args : Array Value} {below : List Frame} {meth : Method} {c : Code} {H : Heap} {locs : List Loc} {Q : State → Prop} {cc : ByteArray} {nL : Nat} {own : String} {ret : Option FieldType} {fF fL : Nat} {G : GT} {pc idx : Nat} {ls : Array Slot} {rest : List Value} {σ : Mem} {res : Int} {l0 : Int} {l1 : Int} (X : CX p R s m args meth c cc nL own ret fF fL G) (hP : PW G σ H) (hS : va_S (AA G) s.heap H locs) (hls : ls.size = nL) (hf : X0_isUnder σ l0 l1 = some res) (h1 : Cond.methodLink own idx yX0_isUnder ∈ TB) (hR : 1 + 1 ≤ fF ∧ 8 + (4 + 11) + 60 ≤ fL) (hW : (rest.map fun v => v.category).sum ≤ 8) (hd : decode cc pc = .ok (.invokestatic idx, 3)) (kk : ∀ (H1 : Heap) (locs1 : List Loc), PW G σ H1 → va_S (AA G) s.heap H1 locs1 → W p l e R s m args below meth c H1 locs1 0 0 Q (F0 m (pc + 3) ls (.int (i32 res) :: rest))) : W p l e R s m args below meth c H locs 0 0 Q (F0 m pc ls (.int (i32 l1) :: .int (i32 l0) :: rest)) := r_callS (n := 2) X hP hS hls (c_X0_isUnder hf) h1 (tb t_989 rfl) (tb t_77 rfl) (tb t_990 rfl) (by decide +kernel) hR rfl rfl hW hd kk
theorem kn_X0_isUnder {p : Program} {l : Launch} {e : Env} {R : Room} {s : State} {m : MethodId} {args : Array Value} {below : List Frame} {meth : Method} {c : Code} {H : Heap} {locs : List Loc} {Q : State → Prop} {cc : ByteArray} {nL : Nat} {own : String} {ret : Option FieldType} {fF fL : Nat} {G : GT} {pc idx : Nat} {ls : Array Slot} {rest : List Value} {σ : Mem} {res : Int} {l0 : Int} {l1 : Int} (X : CX p R s m args meth c cc nL own ret fF fL G) (hP : PW G σ H) (hS : va_S (AA G) s.heap H locs) (hls : ls.size = nL) (hf : X0_isUnder σ l0 l1 = some res) {host : String} (h1 : Cond.methodLinkNest own idx yX0_isUnder host ∈ NWl) (hR : 1 + 1 ≤ fF ∧ 8 + (4 + 11) + 60 ≤ fL) (hW : (rest.map fun v => v.category).sum ≤ 8) (hd : decode cc pc = .ok (.invokestatic idx, 3)) (kk : ∀ (H1 : Heap) (locs1 : List Loc), PW G σ H1 → va_S (AA G) s.heap H1 locs1 → W p l e R s m args below meth c H1 locs1 0 0 Q (F0 m (pc + 3) ls (.int (i32 res) :: rest))) : W p l e R s m args below meth c H locs 0 0 Q (F0 m pc ls (.int (i32 l1) :: .int (i32 l0) :: rest)) := r_callSN (n := 2) X hP hS hls (c_X0_isUnder hf) h1 (tb t_989 rfl) (tb t_77 rfl) (tb t_990 rfl) (by decide +kernel) hR rfl rfl hW hd kk
/-! X0_ofPart -/
theorem dX0_ofPart_0 : decode cX0_ofPart 0 = .ok (.iconst 0, 1) := by decide +kernel
theorem dX0_ofPart_1 : decode cX0_ofPart 1 = .ok (.istore_n 2, 1) := by decide +kernel
theorem dX0_ofPart_2 : decode cX0_ofPart 2 = .ok (.iconst 0, 1) := by decide +kernel
theorem dX0_ofPart_3 : decode cX0_ofPart 3 = .ok (.istore_n 3, 1) := by decide +kernel
theorem dX0_ofPart_4 : decode cX0_ofPart 4 = .ok (.iload_n 3, 1) := by decide +kernel
theorem dX0_ofPart_5 : decode cX0_ofPart 5 = .ok (.aload_n 0, 1) := by decide +kernel
theorem dX0_ofPart_6 : decode cX0_ofPart 6 = .ok (.getfield 30, 3) := by decide +kernel
theorem dX0_ofPart_9 : decode cX0_ofPart 9 = .ok (.if_icmp .ge 22, 3) := by decide +kernel
theorem dX0_ofPart_12 : decode cX0_ofPart 12 = .ok (.aload_n 0, 1) := by decide +kernel
theorem dX0_ofPart_13 : decode cX0_ofPart 13 = .ok (.getfield 15, 3) := by decide +kernel
theorem dX0_ofPart_16 : decode cX0_ofPart 16 = .ok (.iload_n 3, 1) := by decide +kernel
theorem dX0_ofPart_17 : decode cX0_ofPart 17 = .ok (.iaload, 1) := by decide +kernel
theorem dX0_ofPart_18 : decode cX0_ofPart 18 = .ok (.iload_n 1, 1) := by decide +kernel
theorem dX0_ofPart_19 : decode cX0_ofPart 19 = .ok (.if_icmp .ne 6, 3) := by decide +kernel
theorem dX0_ofPart_22 : decode cX0_ofPart 22 = .ok (.iinc 2 1, 3) := by decide +kernel
theorem dX0_ofPart_25 : decode cX0_ofPart 25 = .ok (.iinc 3 1, 3) := by decide +kernel
theorem dX0_ofPart_28 : decode cX0_ofPart 28 = .ok (.goto (-24), 3) := by decide +kernel
theorem dX0_ofPart_31 : decode cX0_ofPart 31 = .ok (.iload_n 2, 1) := by decide +kernel
theorem dX0_ofPart_32 : decode cX0_ofPart 32 = .ok (.ireturn, 1) := by decide +kernel
def S_X0_ofPart_4 (fn : Nat → Int → Int → Int → Option (Int)) (p : Program) (l : Launch) (e : Env) (R : Room) (s : State) (m : MethodId) (args : Array Value) (below : List Frame) (meth : Method) (c : Code) (G : GT) (σ : Mem) (res : Int) : Prop := ∀ (H : Heap) (locs : List Loc) (ls : Array Slot) (l0 : Nat) (l1 : Int) (l2 : Int) (l3 : Int), kd l0 = 0 → PW G σ H → va_S (AA G) s.heap H locs → fn l0 l1 l2 l3 = some res → lv_has ls 4 [(0, .ref (gh G + l0)), (1, .int (i32 l1)), (2, .int (i32 l2)), (3, .int (i32 l3))] → W p l e R s m args below meth c H locs 0 0 (MQ below (QM G (some (.int (i32 res))) σ) args s 0 0 (AA G)) (F0 m 4 ls [])
def X0_ofPart_B25 (rec4 : Nat → Int → Int → Int → Option (Int)) (σ : Mem) (l0 : Nat) (l1 : Int) (l2 : Int) (l3 : Int) : Option (Int) :=
  lt (l3 + 1) fun l3_1 =>
  rec4 l0 l1 l2 l3_1
def S_X0_ofPart_25 (fn : Nat → Int → Int → Int → Option (Int)) (p : Program) (l : Launch) (e : Env) (R : Room) (s : State) (m : MethodId) (args : Array Value) (below : List Frame) (meth : Method) (c : Code) (G : GT) (σ : Mem) (res : Int) : Prop := ∀ (H : Heap) (locs : List Loc) (ls : Array Slot) (l0 : Nat) (l1 : Int) (l2 : Int) (l3 : Int), kd l0 = 0 → PW G σ H → va_S (AA G) s.heap H locs → fn l0 l1 l2 l3 = some res → lv_has ls 4 [(0, .ref (gh G + l0)), (1, .int (i32 l1)), (2, .int (i32 l2)), (3, .int (i32 l3))] → W p l e R s m args below meth c H locs 0 0 (MQ below (QM G (some (.int (i32 res))) σ) args s 0 0 (AA G)) (F0 m 25 ls [])
def X0_ofPart_B4 (rec4 : Nat → Int → Int → Int → Option (Int)) (σ : Mem) (l0 : Nat) (l1 : Int) (l2 : Int) (l3 : Int) : Option (Int) :=
  if w32 (σ l0 3) ≤ w32 l3 then
    some l2
  else
  ag 30 l3 fun j1 =>
  if w32 (σ (l0 + 2) j1) ≠ w32 l1 then
    X0_ofPart_B25 rec4 σ l0 l1 l2 l3
  else
  lt (l2 + 1) fun l2_2 =>
  X0_ofPart_B25 rec4 σ l0 l1 l2_2 l3
def X0_ofPart_L4 (σ : Mem) : Nat → Nat → Int → Int → Int → Option (Int)
  | 0 => fun _ _ _ _ => none
  | n + 1 => X0_ofPart_B4 (X0_ofPart_L4 σ n) σ
def X0_ofPart (σ : Mem) (l0 : Nat) (l1 : Int) : Option (Int) :=
  X0_ofPart_L4 σ 5000 l0 l1 0 0
def S_X0_ofPart_0 (fn : Nat → Int → Option (Int)) (p : Program) (l : Launch) (e : Env) (R : Room) (s : State) (m : MethodId) (args : Array Value) (below : List Frame) (meth : Method) (c : Code) (G : GT) (σ : Mem) (res : Int) : Prop := ∀ (H : Heap) (locs : List Loc) (ls : Array Slot) (l0 : Nat) (l1 : Int), kd l0 = 0 → PW G σ H → va_S (AA G) s.heap H locs → fn l0 l1 = some res → lv_has ls 4 [(0, .ref (gh G + l0)), (1, .int (i32 l1))] → W p l e R s m args below meth c H locs 0 0 (MQ below (QM G (some (.int (i32 res))) σ) args s 0 0 (AA G)) (F0 m 0 ls [])
set_option maxHeartbeats 4000000 in
theorem a_X0_ofPart_25 {p : Program} {l : Launch} {e : Env} {R : Room} {s : State} {m : MethodId} {args : Array Value} {below : List Frame} {meth : Method} {c : Code} {G : GT} {σ : Mem} {res : Int} {rec4 : Nat → Int → Int → Int → Option (Int)} (X : CX p R s m args meth c cX0_ofPart 4 RX0 (some FieldType.int) 1 60 G) (h4 : S_X0_ofPart_4 rec4 p l e R s m args below meth c G σ res) : S_X0_ofPart_25 (X0_ofPart_B25 rec4 σ) p l e R s m args below meth c G σ res := by
  intro H locs ls l0 l1 l2 l3 hk_l0 hP hS hf hl
  unfold X0_ofPart_B25 at hf
  obtain ⟨l3_1, el3_1, hf⟩ := lt_inv hf
  refine lv_iinc (v := i32 l3_1) (lv' := [(3, .int (i32 l3_1)), (0, .ref (gh G + l0)), (1, .int (i32 l1)), (2, .int (i32 l2))]) X.1 X.2.1 dX0_ofPart_25 hl (k := 3) rfl (by rw [← el3_1]; exact i32_add _ _) (by decide) rfl (fun ls hl => ?_)
  refine lv_goto (tgt := 4) X.1 X.2.1 dX0_ofPart_28 (by decide) ?_
  exact h4  H locs ls l0 l1 l2 l3_1 hk_l0 hP hS hf (lv_sub hl [1, 2, 3, 0] rfl)
set_option maxHeartbeats 4000000 in
theorem a_X0_ofPart_4 {p : Program} {l : Launch} {e : Env} {R : Room} {s : State} {m : MethodId} {args : Array Value} {below : List Frame} {meth : Method} {c : Code} {G : GT} {σ : Mem} {res : Int} {rec4 : Nat → Int → Int → Int → Option (Int)} (X : CX p R s m args meth c cX0_ofPart 4 RX0 (some FieldType.int) 1 60 G) (h4 : S_X0_ofPart_4 rec4 p l e R s m args below meth c G σ res) : S_X0_ofPart_4 (X0_ofPart_B4 rec4 σ) p l e R s m args below meth c G σ res := by
  intro H locs ls l0 l1 l2 l3 hk_l0 hP hS hf hl
  unfold X0_ofPart_B4 at hf
  refine lv_iload_n X.1 X.2.1 dX0_ofPart_4 rfl (lv_at hl 3 rfl) ?_
  refine lv_aload_n X.1 X.2.1 dX0_ofPart_5 rfl (lv_at hl 0 rfl) ?_
  refine g_0_3 X hP hk_l0 (tb t_129 rfl) dX0_ofPart_6 ?_
  refine r_icmp_ge (tgt := 31) X dX0_ofPart_9 (by decide) (fun q => ?_) (fun q => ?_)
  · replace hf := it_inv q hf
    refine lv_iload_n X.1 X.2.1 dX0_ofPart_31 rfl (lv_at hl 2 rfl) ?_
    cases so_inv hf
    exact r_iret X hP hS dX0_ofPart_32
  · replace hf := ie_inv q hf
    refine lv_aload_n X.1 X.2.1 dX0_ofPart_12 rfl (lv_at hl 0 rfl) ?_
    refine g_0_1 (r := l0 + 2) X hP hk_l0 rfl (tb t_123 rfl) dX0_ofPart_13 ?_
    refine lv_iload_n X.1 X.2.1 dX0_ofPart_16 rfl (lv_at hl 3 rfl) ?_
    obtain ⟨j1, hij1, hjj1, hlj1, hf⟩ := ag_inv hf
    refine r_iald X hP (ch_0_1 hk_l0).1 (ch_0_1 hk_l0).2 hij1 hjj1 dX0_ofPart_17 ?_
    refine lv_iload_n X.1 X.2.1 dX0_ofPart_18 rfl (lv_at hl 1 rfl) ?_
    refine r_icmp_ne (tgt := 25) X dX0_ofPart_19 (by decide) (fun q => ?_) (fun q => ?_)
    · replace hf := it_inv q hf
      exact a_X0_ofPart_25 X h4  H locs ls l0 l1 l2 l3 hk_l0 hP hS hf hl
    · replace hf := ie_inv q hf
      obtain ⟨l2_2, el2_2, hf⟩ := lt_inv hf
      refine lv_iinc (v := i32 l2_2) (lv' := [(2, .int (i32 l2_2)), (0, .ref (gh G + l0)), (1, .int (i32 l1)), (3, .int (i32 l3))]) X.1 X.2.1 dX0_ofPart_22 hl (k := 2) rfl (by rw [← el2_2]; exact i32_add _ _) (by decide) rfl (fun ls hl => ?_)
      exact a_X0_ofPart_25 X h4  H locs ls l0 l1 l2_2 l3 hk_l0 hP hS hf (lv_sub hl [1, 2, 0, 3] rfl)
theorem al_X0_ofPart_4 {p : Program} {l : Launch} {e : Env} {R : Room} {s : State} {m : MethodId} {args : Array Value} {below : List Frame} {meth : Method} {c : Code} {G : GT} {σ : Mem} {res : Int} (X : CX p R s m args meth c cX0_ofPart 4 RX0 (some FieldType.int) 1 60 G) : ∀ n, S_X0_ofPart_4 (X0_ofPart_L4 σ n) p l e R s m args below meth c G σ res := by
  intro n
  induction n with
  | zero =>
    intro H locs ls l0 l1 l2 l3 hk_l0 hP hS hf hl
    cases hf
  | succ n ih => exact a_X0_ofPart_4 X ih
set_option maxHeartbeats 4000000 in
theorem a_X0_ofPart_0 {p : Program} {l : Launch} {e : Env} {R : Room} {s : State} {m : MethodId} {args : Array Value} {below : List Frame} {meth : Method} {c : Code} {G : GT} {σ : Mem} {res : Int} (X : CX p R s m args meth c cX0_ofPart 4 RX0 (some FieldType.int) 1 60 G) : S_X0_ofPart_0 (X0_ofPart σ) p l e R s m args below meth c G σ res := by
  intro H locs ls l0 l1 hk_l0 hP hS hf hl
  unfold X0_ofPart at hf
  refine r_iconst X 0 dX0_ofPart_0 ?_
  refine lv_istore_n (lv' := [(2, .int (i32 0)), (0, .ref (gh G + l0)), (1, .int (i32 l1))]) X.1 X.2.1 dX0_ofPart_1 rfl hl (by decide) rfl (fun ls hl => ?_)
  refine r_iconst X 0 dX0_ofPart_2 ?_
  refine lv_istore_n (lv' := [(3, .int (i32 0)), (2, .int (i32 0)), (0, .ref (gh G + l0)), (1, .int (i32 l1))]) X.1 X.2.1 dX0_ofPart_3 rfl hl (by decide) rfl (fun ls hl => ?_)
  exact al_X0_ofPart_4 X 5000  H locs ls l0 l1 0 0 hk_l0 hP hS hf (lv_sub hl [2, 3, 1, 0] rfl)
set_option maxHeartbeats 4000000 in
theorem c_X0_ofPart {l : Launch} {G : GT} {σ : Mem} {res : Int} {l0 : Nat} {l1 : Int} (hk_l0 : kd l0 = 0) (hf : X0_ofPart σ l0 l1 = some res) : CT l yX0_ofPart cX0_ofPart 4 (some FieldType.int) 1 60 G [.ref (gh G + l0), .int (i32 l1)] σ σ (some (.int (i32 res))) := by
  refine CT.mk (own := RX0) (by decide) rfl (Nat.le_of_ble_eq_true rfl) ?_
  intro p e s m below meth c ls X hP hS hl
  have hl : lv_has ls 4 [(0, .ref (gh G + l0)), (1, .int (i32 l1))] := hl
  exact a_X0_ofPart_0 X  s.heap [] ls l0 l1 hk_l0 hP hS hf hl
theorem k_X0_ofPart {p : Program} {l : Launch} {e : Env} {R : Room} {s : State} {m : MethodId} {args : Array Value} {below : List Frame} {meth : Method} {c : Code} {H : Heap} {locs : List Loc} {Q : State → Prop} {cc : ByteArray} {nL : Nat} {own : String} {ret : Option FieldType} {fF fL : Nat} {G : GT} {pc idx : Nat} {ls : Array Slot} {rest : List Value} {σ : Mem} {res : Int} {l0 : Nat} {l1 : Int} (X : CX p R s m args meth c cc nL own ret fF fL G) (hP : PW G σ H) (hS : va_S (AA G) s.heap H locs) (hls : ls.size = nL) (hk_l0 : kd l0 = 0) (hf : X0_ofPart σ l0 l1 = some res) (h1 : Cond.methodLink own idx yX0_ofPart ∈ TB) (hR : 1 + 1 ≤ fF ∧ 8 + (4 + 11) + 60 ≤ fL) (hW : (rest.map fun v => v.category).sum ≤ 8) (hd : decode cc pc = .ok (.invokevirtual idx, 3)) (kk : ∀ (H1 : Heap) (locs1 : List Loc), PW G σ H1 → va_S (AA G) s.heap H1 locs1 → W p l e R s m args below meth c H1 locs1 0 0 Q (F0 m (pc + 3) ls (.int (i32 res) :: rest))) : W p l e R s m args below meth c H locs 0 0 Q (F0 m pc ls (.int (i32 l1) :: .ref (gh G + l0) :: rest)) := r_callV (n := 1) X hP hS hls (c_X0_ofPart hk_l0 hf) h1 (tb t_657 rfl) (tb t_658 rfl) (tb t_77 rfl) (tb t_659 rfl) (by decide +kernel) hR (r_recv X hP (kd_lt hk_l0 (by decide)) (cE_0 hk_l0) rfl) rfl rfl hW hd kk
/-! X10_within -/
theorem dX10_within_0 : decode cX10_within 0 = .ok (.iload_n 0, 1) := by decide +kernel
theorem dX10_within_1 : decode cX10_within 1 = .ok (.iload_n 1, 1) := by decide +kernel
theorem dX10_within_2 : decode cX10_within 2 = .ok (.if_icmp .lt 12, 3) := by decide +kernel
theorem dX10_within_5 : decode cX10_within 5 = .ok (.iload_n 0, 1) := by decide +kernel
theorem dX10_within_6 : decode cX10_within 6 = .ok (.iload_n 2, 1) := by decide +kernel
theorem dX10_within_7 : decode cX10_within 7 = .ok (.if_icmp .gt 7, 3) := by decide +kernel
theorem dX10_within_10 : decode cX10_within 10 = .ok (.iconst 1, 1) := by decide +kernel
theorem dX10_within_11 : decode cX10_within 11 = .ok (.goto 4, 3) := by decide +kernel
theorem dX10_within_14 : decode cX10_within 14 = .ok (.iconst 0, 1) := by decide +kernel
theorem dX10_within_15 : decode cX10_within 15 = .ok (.ireturn, 1) := by decide +kernel
def X10_within (σ : Mem) (l0 : Int) (l1 : Int) (l2 : Int) : Option (Int) :=
  if w32 l0 < w32 l1 then
    some 0
  else
  if w32 l2 < w32 l0 then
    some 0
  else
  some 1
def S_X10_within_0 (fn : Int → Int → Int → Option (Int)) (p : Program) (l : Launch) (e : Env) (R : Room) (s : State) (m : MethodId) (args : Array Value) (below : List Frame) (meth : Method) (c : Code) (G : GT) (σ : Mem) (res : Int) : Prop := ∀ (H : Heap) (locs : List Loc) (ls : Array Slot) (l0 : Int) (l1 : Int) (l2 : Int), PW G σ H → va_S (AA G) s.heap H locs → fn l0 l1 l2 = some res → lv_has ls 3 [(0, .int (i32 l0)), (1, .int (i32 l1)), (2, .int (i32 l2))] → W p l e R s m args below meth c H locs 0 0 (MQ below (QM G (some (.int (i32 res))) σ) args s 0 0 (AA G)) (F0 m 0 ls [])
set_option maxHeartbeats 4000000 in
theorem a_X10_within_0 {p : Program} {l : Launch} {e : Env} {R : Room} {s : State} {m : MethodId} {args : Array Value} {below : List Frame} {meth : Method} {c : Code} {G : GT} {σ : Mem} {res : Int} (X : CX p R s m args meth c cX10_within 3 RX10 (some FieldType.boolean) 1 60 G) : S_X10_within_0 (X10_within σ) p l e R s m args below meth c G σ res := by
  intro H locs ls l0 l1 l2 hP hS hf hl
  unfold X10_within at hf
  refine lv_iload_n X.1 X.2.1 dX10_within_0 rfl (lv_at hl 0 rfl) ?_
  refine lv_iload_n X.1 X.2.1 dX10_within_1 rfl (lv_at hl 1 rfl) ?_
  refine r_icmp_lt (tgt := 14) X dX10_within_2 (by decide) (fun q => ?_) (fun q => ?_)
  · replace hf := it_inv q hf
    refine r_iconst X 0 dX10_within_14 ?_
    cases so_inv hf
    exact r_zret X hP hS (Or.inl rfl) dX10_within_15
  · replace hf := ie_inv q hf
    refine lv_iload_n X.1 X.2.1 dX10_within_5 rfl (lv_at hl 0 rfl) ?_
    refine lv_iload_n X.1 X.2.1 dX10_within_6 rfl (lv_at hl 2 rfl) ?_
    refine r_icmp_gt (tgt := 14) X dX10_within_7 (by decide) (fun q => ?_) (fun q => ?_)
    · replace hf := it_inv q hf
      refine r_iconst X 0 dX10_within_14 ?_
      cases so_inv hf
      exact r_zret X hP hS (Or.inl rfl) dX10_within_15
    · replace hf := ie_inv q hf
      refine r_iconst X 1 dX10_within_10 ?_
      refine lv_goto (tgt := 15) X.1 X.2.1 dX10_within_11 (by decide) ?_
      cases so_inv hf
      exact r_zret X hP hS (Or.inr rfl) dX10_within_15
set_option maxHeartbeats 4000000 in
theorem c_X10_within {l : Launch} {G : GT} {σ : Mem} {res : Int} {l0 : Int} {l1 : Int} {l2 : Int} (hf : X10_within σ l0 l1 l2 = some res) : CT l yX10_within cX10_within 3 (some FieldType.boolean) 1 60 G [.int (i32 l0), .int (i32 l1), .int (i32 l2)] σ σ (some (.int (i32 res))) := by
  refine CT.mk (own := RX10) (by decide) rfl (Nat.le_of_ble_eq_true rfl) ?_
  intro p e s m below meth c ls X hP hS hl
  have hl : lv_has ls 3 [(0, .int (i32 l0)), (1, .int (i32 l1)), (2, .int (i32 l2))] := hl
  exact a_X10_within_0 X  s.heap [] ls l0 l1 l2 hP hS hf hl
theorem k_X10_within {p : Program} {l : Launch} {e : Env} {R : Room} {s : State} {m : MethodId} {args : Array Value} {below : List Frame} {meth : Method} {c : Code} {H : Heap} {locs : List Loc} {Q : State → Prop} {cc : ByteArray} {nL : Nat} {own : String} {ret : Option FieldType} {fF fL : Nat} {G : GT} {pc idx : Nat} {ls : Array Slot} {rest : List Value} {σ : Mem} {res : Int} {l0 : Int} {l1 : Int} {l2 : Int} (X : CX p R s m args meth c cc nL own ret fF fL G) (hP : PW G σ H) (hS : va_S (AA G) s.heap H locs) (hls : ls.size = nL) (hf : X10_within σ l0 l1 l2 = some res) (h1 : Cond.methodLink own idx yX10_within ∈ TB) (hR : 1 + 1 ≤ fF ∧ 8 + (3 + 11) + 60 ≤ fL) (hW : (rest.map fun v => v.category).sum ≤ 8) (hd : decode cc pc = .ok (.invokestatic idx, 3)) (kk : ∀ (H1 : Heap) (locs1 : List Loc), PW G σ H1 → va_S (AA G) s.heap H1 locs1 → W p l e R s m args below meth c H1 locs1 0 0 Q (F0 m (pc + 3) ls (.int (i32 res) :: rest))) : W p l e R s m args below meth c H locs 0 0 Q (F0 m pc ls (.int (i32 l2) :: .int (i32 l1) :: .int (i32 l0) :: rest)) := r_callS (n := 3) X hP hS hls (c_X10_within hf) h1 (tb t_424 rfl) (tb t_75 rfl) (tb t_425 rfl) (by decide +kernel) hR rfl rfl hW hd kk
theorem kn_X10_within {p : Program} {l : Launch} {e : Env} {R : Room} {s : State} {m : MethodId} {args : Array Value} {below : List Frame} {meth : Method} {c : Code} {H : Heap} {locs : List Loc} {Q : State → Prop} {cc : ByteArray} {nL : Nat} {own : String} {ret : Option FieldType} {fF fL : Nat} {G : GT} {pc idx : Nat} {ls : Array Slot} {rest : List Value} {σ : Mem} {res : Int} {l0 : Int} {l1 : Int} {l2 : Int} (X : CX p R s m args meth c cc nL own ret fF fL G) (hP : PW G σ H) (hS : va_S (AA G) s.heap H locs) (hls : ls.size = nL) (hf : X10_within σ l0 l1 l2 = some res) {host : String} (h1 : Cond.methodLinkNest own idx yX10_within host ∈ NWl) (hR : 1 + 1 ≤ fF ∧ 8 + (3 + 11) + 60 ≤ fL) (hW : (rest.map fun v => v.category).sum ≤ 8) (hd : decode cc pc = .ok (.invokestatic idx, 3)) (kk : ∀ (H1 : Heap) (locs1 : List Loc), PW G σ H1 → va_S (AA G) s.heap H1 locs1 → W p l e R s m args below meth c H1 locs1 0 0 Q (F0 m (pc + 3) ls (.int (i32 res) :: rest))) : W p l e R s m args below meth c H locs 0 0 Q (F0 m pc ls (.int (i32 l2) :: .int (i32 l1) :: .int (i32 l0) :: rest)) := r_callSN (n := 3) X hP hS hls (c_X10_within hf) h1 (tb t_424 rfl) (tb t_75 rfl) (tb t_425 rfl) (by decide +kernel) hR rfl rfl hW hd kk
/-! X10_tell -/
theorem dX10_tell_0 : decode cX10_tell 0 = .ok (.ldc 72, 2) := by decide +kernel
theorem dX10_tell_2 : decode cX10_tell 2 = .ok (.iload_n 1, 1) := by decide +kernel
theorem dX10_tell_3 : decode cX10_tell 3 = .ok (.isub, 1) := by decide +kernel
theorem dX10_tell_4 : decode cX10_tell 4 = .ok (.istore_n 2, 1) := by decide +kernel
theorem dX10_tell_5 : decode cX10_tell 5 = .ok (.iload_n 2, 1) := by decide +kernel
theorem dX10_tell_6 : decode cX10_tell 6 = .ok (.iconst 0, 1) := by decide +kernel
theorem dX10_tell_7 : decode cX10_tell 7 = .ok (.bipush 6, 2) := by decide +kernel
theorem dX10_tell_9 : decode cX10_tell 9 = .ok (.invokestatic 62, 3) := by decide +kernel
theorem dX10_tell_12 : decode cX10_tell 12 = .ok (.ifCond .eq 13, 3) := by decide +kernel
theorem dX10_tell_15 : decode cX10_tell 15 = .ok (.aload_n 0, 1) := by decide +kernel
theorem dX10_tell_16 : decode cX10_tell 16 = .ok (.getfield 51, 3) := by decide +kernel
theorem dX10_tell_19 : decode cX10_tell 19 = .ok (.iload_n 2, 1) := by decide +kernel
theorem dX10_tell_20 : decode cX10_tell 20 = .ok (.dup2, 1) := by decide +kernel
theorem dX10_tell_21 : decode cX10_tell 21 = .ok (.iaload, 1) := by decide +kernel
theorem dX10_tell_22 : decode cX10_tell 22 = .ok (.iconst 1, 1) := by decide +kernel
theorem dX10_tell_23 : decode cX10_tell 23 = .ok (.iadd, 1) := by decide +kernel
theorem dX10_tell_24 : decode cX10_tell 24 = .ok (.iastore, 1) := by decide +kernel
theorem dX10_tell_25 : decode cX10_tell 25 = .ok (.iload_n 1, 1) := by decide +kernel
theorem dX10_tell_26 : decode cX10_tell 26 = .ok (.ireturn, 1) := by decide +kernel
def X10_tell (σ : Mem) (l1 : Int) : Option (Int × Mem) :=
  lt ((-1000001) - l1) fun l2_1 =>
  bd (X10_within σ l2_1 0 6) fun r2 =>
  if w32 r2 = 0 then
    some (l1, σ)
  else
  ag 7 l2_1 fun j3 =>
  ag 7 l2_1 fun j4 =>
  lt (st σ 62 j4 ((σ 62 j3) + 1)) fun s5 =>
  some (l1, s5)
def S_X10_tell_0 (fn : Mem → Int → Option (Int × Mem)) (p : Program) (l : Launch) (e : Env) (R : Room) (s : State) (m : MethodId) (args : Array Value) (below : List Frame) (meth : Method) (c : Code) (G : GT) (τ : Mem) (res : Int) : Prop := ∀ (σ : Mem) (H : Heap) (locs : List Loc) (ls : Array Slot) (l1 : Int), PW G σ H → va_S (AA G) s.heap H locs → fn σ l1 = some (res, τ) → lv_has ls 3 [(0, .ref (gh G + 0)), (1, .int (i32 l1))] → W p l e R s m args below meth c H locs 0 0 (MQ below (QM G (some (.int (i32 res))) τ) args s 0 0 (AA G)) (F0 m 0 ls [])
set_option maxHeartbeats 4000000 in
theorem a_X10_tell_0 {p : Program} {l : Launch} {e : Env} {R : Room} {s : State} {m : MethodId} {args : Array Value} {below : List Frame} {meth : Method} {c : Code} {G : GT} {τ : Mem} {res : Int} (X : CX p R s m args meth c cX10_tell 3 RX10 (some FieldType.int) 2 82 G) : S_X10_tell_0 (X10_tell) p l e R s m args below meth c G τ res := by
  intro σ H locs ls l1 hP hS hf hl
  unfold X10_tell at hf
  refine r_ldc X (-1000001) (tb t_430 rfl) (by decide) dX10_tell_0 ?_
  refine lv_iload_n X.1 X.2.1 dX10_tell_2 rfl (lv_at hl 1 rfl) ?_
  refine r_isub X dX10_tell_3 ?_
  obtain ⟨l2_1, el2_1, hf⟩ := lt_inv hf
  refine r_eqi el2_1 ?_
  refine lv_istore_n (lv' := [(2, .int (i32 l2_1)), (0, .ref (gh G + 0)), (1, .int (i32 l1))]) X.1 X.2.1 dX10_tell_4 rfl hl (by decide) rfl (fun ls hl => ?_)
  refine lv_iload_n X.1 X.2.1 dX10_tell_5 rfl (lv_at hl 0 rfl) ?_
  refine r_iconst X 0 dX10_tell_6 ?_
  refine r_bipush X 6 (by decide) dX10_tell_7 ?_
  obtain ⟨r2, hr2, hf⟩ := bd_inv hf
  refine k_X10_within X hP hS hl.1  hr2 (tb t_423 rfl) (by decide) (Nat.le_of_ble_eq_true rfl) dX10_tell_9 (fun H locs hP hS => ?_)
  refine r_if_eq (tgt := 25) X dX10_tell_12 (by decide) (fun q => ?_) (fun q => ?_)
  · replace hf := it_inv q hf
    refine lv_iload_n X.1 X.2.1 dX10_tell_25 rfl (lv_at hl 2 rfl) ?_
    obtain ⟨rfl, rfl⟩ := so2_inv hf
    exact r_iret X hP hS dX10_tell_26
  · replace hf := ie_inv q hf
    refine lv_aload_n X.1 X.2.1 dX10_tell_15 rfl (lv_at hl 1 rfl) ?_
    refine g_10_8 (r := 62) X hP ks_10 rfl (tb t_396 rfl) dX10_tell_16 ?_
    refine lv_iload_n X.1 X.2.1 dX10_tell_19 rfl (lv_at hl 0 rfl) ?_
    refine lv_dup2_11 X.1 X.2.1 dX10_tell_20 rfl rfl ?_
    obtain ⟨j3, hij3, hjj3, hlj3, hf⟩ := ag_inv hf
    refine r_iald X hP (ch_10_8 ks_10).1 (ch_10_8 ks_10).2 hij3 hjj3 dX10_tell_21 ?_
    refine r_iconst X 1 dX10_tell_22 ?_
    refine r_iadd X dX10_tell_23 ?_
    obtain ⟨j4, hij4, hjj4, hlj4, hf⟩ := ag_inv hf
    refine r_iast X hP hS (ch_10_8 ks_10).1 (ch_10_8 ks_10).2 hij4 hjj4 dX10_tell_24 (fun H locs hP hS => ?_)
    obtain ⟨s5, es5, hf⟩ := lt_inv hf
    rw [es5] at hP
    refine lv_iload_n X.1 X.2.1 dX10_tell_25 rfl (lv_at hl 2 rfl) ?_
    obtain ⟨rfl, rfl⟩ := so2_inv hf
    exact r_iret X hP hS dX10_tell_26
set_option maxHeartbeats 4000000 in
theorem c_X10_tell {l : Launch} {G : GT} {σ τ : Mem} {res : Int} {l1 : Int} (hf : X10_tell σ l1 = some (res, τ)) : CT l yX10_tell cX10_tell 3 (some FieldType.int) 2 82 G [.ref (gh G + 0), .int (i32 l1)] σ τ (some (.int (i32 res))) := by
  refine CT.mk (own := RX10) (by decide) rfl (Nat.le_of_ble_eq_true rfl) ?_
  intro p e s m below meth c ls X hP hS hl
  have hl : lv_has ls 3 [(0, .ref (gh G + 0)), (1, .int (i32 l1))] := hl
  exact a_X10_tell_0 X σ s.heap [] ls l1 hP hS hf hl
theorem k_X10_tell {p : Program} {l : Launch} {e : Env} {R : Room} {s : State} {m : MethodId} {args : Array Value} {below : List Frame} {meth : Method} {c : Code} {H : Heap} {locs : List Loc} {Q : State → Prop} {cc : ByteArray} {nL : Nat} {own : String} {ret : Option FieldType} {fF fL : Nat} {G : GT} {pc idx : Nat} {ls : Array Slot} {rest : List Value} {σ τ : Mem} {res : Int} {l1 : Int} (X : CX p R s m args meth c cc nL own ret fF fL G) (hP : PW G σ H) (hS : va_S (AA G) s.heap H locs) (hls : ls.size = nL) (hf : X10_tell σ l1 = some (res, τ)) (h1 : Cond.methodLink own idx yX10_tell ∈ TB) (hR : 2 + 1 ≤ fF ∧ 8 + (3 + 11) + 82 ≤ fL) (hW : (rest.map fun v => v.category).sum ≤ 8) (hd : decode cc pc = .ok (.invokevirtual idx, 3)) (kk : ∀ (H1 : Heap) (locs1 : List Loc), PW G τ H1 → va_S (AA G) s.heap H1 locs1 → W p l e R s m args below meth c H1 locs1 0 0 Q (F0 m (pc + 3) ls (.int (i32 res) :: rest))) : W p l e R s m args below meth c H locs 0 0 Q (F0 m pc ls (.int (i32 l1) :: .ref (gh G + 0) :: rest)) := r_callV (n := 1) X hP hS hls (c_X10_tell hf) h1 (tb t_433 rfl) (tb t_0 rfl) (tb t_75 rfl) (tb t_434 rfl) (by decide +kernel) hR (r_recv X hP (kd_lt ks_10 (by decide)) (cE_10 ks_10) rfl) rfl rfl hW hd kk
/-! X5_roomAt -/
theorem dX5_roomAt_0 : decode cX5_roomAt 0 = .ok (.aload_n 0, 1) := by decide +kernel
theorem dX5_roomAt_1 : decode cX5_roomAt 1 = .ok (.getfield 15, 3) := by decide +kernel
theorem dX5_roomAt_4 : decode cX5_roomAt 4 = .ok (.iload_n 1, 1) := by decide +kernel
theorem dX5_roomAt_5 : decode cX5_roomAt 5 = .ok (.iconst 4, 1) := by decide +kernel
theorem dX5_roomAt_6 : decode cX5_roomAt 6 = .ok (.imul, 1) := by decide +kernel
theorem dX5_roomAt_7 : decode cX5_roomAt 7 = .ok (.iconst 0, 1) := by decide +kernel
theorem dX5_roomAt_8 : decode cX5_roomAt 8 = .ok (.iadd, 1) := by decide +kernel
theorem dX5_roomAt_9 : decode cX5_roomAt 9 = .ok (.iaload, 1) := by decide +kernel
theorem dX5_roomAt_10 : decode cX5_roomAt 10 = .ok (.bipush 10, 2) := by decide +kernel
theorem dX5_roomAt_12 : decode cX5_roomAt 12 = .ok (.iconst 2, 1) := by decide +kernel
theorem dX5_roomAt_13 : decode cX5_roomAt 13 = .ok (.iload_n 2, 1) := by decide +kernel
theorem dX5_roomAt_14 : decode cX5_roomAt 14 = .ok (.imul, 1) := by decide +kernel
theorem dX5_roomAt_15 : decode cX5_roomAt 15 = .ok (.isub, 1) := by decide +kernel
theorem dX5_roomAt_16 : decode cX5_roomAt 16 = .ok (.imul, 1) := by decide +kernel
theorem dX5_roomAt_17 : decode cX5_roomAt 17 = .ok (.bipush 9, 2) := by decide +kernel
theorem dX5_roomAt_19 : decode cX5_roomAt 19 = .ok (.iadd, 1) := by decide +kernel
theorem dX5_roomAt_20 : decode cX5_roomAt 20 = .ok (.bipush 10, 2) := by decide +kernel
theorem dX5_roomAt_22 : decode cX5_roomAt 22 = .ok (.idiv, 1) := by decide +kernel
theorem dX5_roomAt_23 : decode cX5_roomAt 23 = .ok (.ireturn, 1) := by decide +kernel
def X5_roomAt (σ : Mem) (l0 : Nat) (l1 : Int) (l2 : Int) : Option (Int) :=
  ag 160 ((l1 * 4) + 0) fun j1 =>
  dg 10 <|
  some (idv (((σ (l0 + 2) j1) * (10 - (2 * l2))) + 9) 10)
def S_X5_roomAt_0 (fn : Nat → Int → Int → Option (Int)) (p : Program) (l : Launch) (e : Env) (R : Room) (s : State) (m : MethodId) (args : Array Value) (below : List Frame) (meth : Method) (c : Code) (G : GT) (σ : Mem) (res : Int) : Prop := ∀ (H : Heap) (locs : List Loc) (ls : Array Slot) (l0 : Nat) (l1 : Int) (l2 : Int), kd l0 = 5 → PW G σ H → va_S (AA G) s.heap H locs → fn l0 l1 l2 = some res → lv_has ls 3 [(0, .ref (gh G + l0)), (1, .int (i32 l1)), (2, .int (i32 l2))] → W p l e R s m args below meth c H locs 0 0 (MQ below (QM G (some (.int (i32 res))) σ) args s 0 0 (AA G)) (F0 m 0 ls [])
set_option maxHeartbeats 4000000 in
theorem a_X5_roomAt_0 {p : Program} {l : Launch} {e : Env} {R : Room} {s : State} {m : MethodId} {args : Array Value} {below : List Frame} {meth : Method} {c : Code} {G : GT} {σ : Mem} {res : Int} (X : CX p R s m args meth c cX5_roomAt 3 RX5 (some FieldType.int) 1 60 G) : S_X5_roomAt_0 (X5_roomAt σ) p l e R s m args below meth c G σ res := by
  intro H locs ls l0 l1 l2 hk_l0 hP hS hf hl
  unfold X5_roomAt at hf
  refine lv_aload_n X.1 X.2.1 dX5_roomAt_0 rfl (lv_at hl 0 rfl) ?_
  refine g_5_1 (r := l0 + 2) X hP hk_l0 rfl (tb t_154 rfl) dX5_roomAt_1 ?_
  refine lv_iload_n X.1 X.2.1 dX5_roomAt_4 rfl (lv_at hl 1 rfl) ?_
  refine r_iconst X 4 dX5_roomAt_5 ?_
  refine r_imul X dX5_roomAt_6 ?_
  refine r_iconst X 0 dX5_roomAt_7 ?_
  refine r_iadd X dX5_roomAt_8 ?_
  obtain ⟨j1, hij1, hjj1, hlj1, hf⟩ := ag_inv hf
  refine r_iald X hP (ch_5_1 hk_l0).1 (ch_5_1 hk_l0).2 hij1 hjj1 dX5_roomAt_9 ?_
  refine r_bipush X 10 (by decide) dX5_roomAt_10 ?_
  refine r_iconst X 2 dX5_roomAt_12 ?_
  refine lv_iload_n X.1 X.2.1 dX5_roomAt_13 rfl (lv_at hl 2 rfl) ?_
  refine r_imul X dX5_roomAt_14 ?_
  refine r_isub X dX5_roomAt_15 ?_
  refine r_imul X dX5_roomAt_16 ?_
  refine r_bipush X 9 (by decide) dX5_roomAt_17 ?_
  refine r_iadd X dX5_roomAt_19 ?_
  refine r_bipush X 10 (by decide) dX5_roomAt_20 ?_
  obtain ⟨hz2, hf⟩ := dg_inv hf
  refine r_idiv X hz2 dX5_roomAt_22 ?_
  cases so_inv hf
  exact r_iret X hP hS dX5_roomAt_23
set_option maxHeartbeats 4000000 in
theorem c_X5_roomAt {l : Launch} {G : GT} {σ : Mem} {res : Int} {l0 : Nat} {l1 : Int} {l2 : Int} (hk_l0 : kd l0 = 5) (hf : X5_roomAt σ l0 l1 l2 = some res) : CT l yX5_roomAt cX5_roomAt 3 (some FieldType.int) 1 60 G [.ref (gh G + l0), .int (i32 l1), .int (i32 l2)] σ σ (some (.int (i32 res))) := by
  refine CT.mk (own := RX5) (by decide) rfl (Nat.le_of_ble_eq_true rfl) ?_
  intro p e s m below meth c ls X hP hS hl
  have hl : lv_has ls 3 [(0, .ref (gh G + l0)), (1, .int (i32 l1)), (2, .int (i32 l2))] := hl
  exact a_X5_roomAt_0 X  s.heap [] ls l0 l1 l2 hk_l0 hP hS hf hl
theorem k_X5_roomAt {p : Program} {l : Launch} {e : Env} {R : Room} {s : State} {m : MethodId} {args : Array Value} {below : List Frame} {meth : Method} {c : Code} {H : Heap} {locs : List Loc} {Q : State → Prop} {cc : ByteArray} {nL : Nat} {own : String} {ret : Option FieldType} {fF fL : Nat} {G : GT} {pc idx : Nat} {ls : Array Slot} {rest : List Value} {σ : Mem} {res : Int} {l0 : Nat} {l1 : Int} {l2 : Int} (X : CX p R s m args meth c cc nL own ret fF fL G) (hP : PW G σ H) (hS : va_S (AA G) s.heap H locs) (hls : ls.size = nL) (hk_l0 : kd l0 = 5) (hf : X5_roomAt σ l0 l1 l2 = some res) (h1 : Cond.methodLink own idx yX5_roomAt ∈ TB) (hR : 1 + 1 ≤ fF ∧ 8 + (3 + 11) + 60 ≤ fL) (hW : (rest.map fun v => v.category).sum ≤ 8) (hd : decode cc pc = .ok (.invokevirtual idx, 3)) (kk : ∀ (H1 : Heap) (locs1 : List Loc), PW G σ H1 → va_S (AA G) s.heap H1 locs1 → W p l e R s m args below meth c H1 locs1 0 0 Q (F0 m (pc + 3) ls (.int (i32 res) :: rest))) : W p l e R s m args below meth c H locs 0 0 Q (F0 m pc ls (.int (i32 l2) :: .int (i32 l1) :: .ref (gh G + l0) :: rest)) := r_callV (n := 2) X hP hS hls (c_X5_roomAt hk_l0 hf) h1 (tb t_690 rfl) (tb t_691 rfl) (tb t_79 rfl) (tb t_692 rfl) (by decide +kernel) hR (r_recv X hP (kd_lt hk_l0 (by decide)) (cE_5 hk_l0) rfl) rfl rfl hW hd kk
/-! X5_isMarked -/
theorem dX5_isMarked_0 : decode cX5_isMarked 0 = .ok (.aload_n 0, 1) := by decide +kernel
theorem dX5_isMarked_1 : decode cX5_isMarked 1 = .ok (.getfield 15, 3) := by decide +kernel
theorem dX5_isMarked_4 : decode cX5_isMarked 4 = .ok (.iload_n 1, 1) := by decide +kernel
theorem dX5_isMarked_5 : decode cX5_isMarked 5 = .ok (.iconst 4, 1) := by decide +kernel
theorem dX5_isMarked_6 : decode cX5_isMarked 6 = .ok (.imul, 1) := by decide +kernel
theorem dX5_isMarked_7 : decode cX5_isMarked 7 = .ok (.iconst 3, 1) := by decide +kernel
theorem dX5_isMarked_8 : decode cX5_isMarked 8 = .ok (.iadd, 1) := by decide +kernel
theorem dX5_isMarked_9 : decode cX5_isMarked 9 = .ok (.iaload, 1) := by decide +kernel
theorem dX5_isMarked_10 : decode cX5_isMarked 10 = .ok (.iload_n 2, 1) := by decide +kernel
theorem dX5_isMarked_11 : decode cX5_isMarked 11 = .ok (.iand, 1) := by decide +kernel
theorem dX5_isMarked_12 : decode cX5_isMarked 12 = .ok (.ifCond .eq 7, 3) := by decide +kernel
theorem dX5_isMarked_15 : decode cX5_isMarked 15 = .ok (.iconst 1, 1) := by decide +kernel
theorem dX5_isMarked_16 : decode cX5_isMarked 16 = .ok (.goto 4, 3) := by decide +kernel
theorem dX5_isMarked_19 : decode cX5_isMarked 19 = .ok (.iconst 0, 1) := by decide +kernel
theorem dX5_isMarked_20 : decode cX5_isMarked 20 = .ok (.ireturn, 1) := by decide +kernel
def X5_isMarked (σ : Mem) (l0 : Nat) (l1 : Int) (l2 : Int) : Option (Int) :=
  ag 160 ((l1 * 4) + 3) fun j1 =>
  if w32 (ian (σ (l0 + 2) j1) l2) = 0 then
    some 0
  else
  some 1
def S_X5_isMarked_0 (fn : Nat → Int → Int → Option (Int)) (p : Program) (l : Launch) (e : Env) (R : Room) (s : State) (m : MethodId) (args : Array Value) (below : List Frame) (meth : Method) (c : Code) (G : GT) (σ : Mem) (res : Int) : Prop := ∀ (H : Heap) (locs : List Loc) (ls : Array Slot) (l0 : Nat) (l1 : Int) (l2 : Int), kd l0 = 5 → PW G σ H → va_S (AA G) s.heap H locs → fn l0 l1 l2 = some res → lv_has ls 3 [(0, .ref (gh G + l0)), (1, .int (i32 l1)), (2, .int (i32 l2))] → W p l e R s m args below meth c H locs 0 0 (MQ below (QM G (some (.int (i32 res))) σ) args s 0 0 (AA G)) (F0 m 0 ls [])
set_option maxHeartbeats 4000000 in
theorem a_X5_isMarked_0 {p : Program} {l : Launch} {e : Env} {R : Room} {s : State} {m : MethodId} {args : Array Value} {below : List Frame} {meth : Method} {c : Code} {G : GT} {σ : Mem} {res : Int} (X : CX p R s m args meth c cX5_isMarked 3 RX5 (some FieldType.boolean) 1 60 G) : S_X5_isMarked_0 (X5_isMarked σ) p l e R s m args below meth c G σ res := by
  intro H locs ls l0 l1 l2 hk_l0 hP hS hf hl
  unfold X5_isMarked at hf
  refine lv_aload_n X.1 X.2.1 dX5_isMarked_0 rfl (lv_at hl 0 rfl) ?_
  refine g_5_1 (r := l0 + 2) X hP hk_l0 rfl (tb t_154 rfl) dX5_isMarked_1 ?_
  refine lv_iload_n X.1 X.2.1 dX5_isMarked_4 rfl (lv_at hl 1 rfl) ?_
  refine r_iconst X 4 dX5_isMarked_5 ?_
  refine r_imul X dX5_isMarked_6 ?_
  refine r_iconst X 3 dX5_isMarked_7 ?_
  refine r_iadd X dX5_isMarked_8 ?_
  obtain ⟨j1, hij1, hjj1, hlj1, hf⟩ := ag_inv hf
  refine r_iald X hP (ch_5_1 hk_l0).1 (ch_5_1 hk_l0).2 hij1 hjj1 dX5_isMarked_9 ?_
  refine lv_iload_n X.1 X.2.1 dX5_isMarked_10 rfl (lv_at hl 2 rfl) ?_
  refine r_iand X dX5_isMarked_11 ?_
  refine r_if_eq (tgt := 19) X dX5_isMarked_12 (by decide) (fun q => ?_) (fun q => ?_)
  · replace hf := it_inv q hf
    refine r_iconst X 0 dX5_isMarked_19 ?_
    cases so_inv hf
    exact r_zret X hP hS (Or.inl rfl) dX5_isMarked_20
  · replace hf := ie_inv q hf
    refine r_iconst X 1 dX5_isMarked_15 ?_
    refine lv_goto (tgt := 20) X.1 X.2.1 dX5_isMarked_16 (by decide) ?_
    cases so_inv hf
    exact r_zret X hP hS (Or.inr rfl) dX5_isMarked_20
set_option maxHeartbeats 4000000 in
theorem c_X5_isMarked {l : Launch} {G : GT} {σ : Mem} {res : Int} {l0 : Nat} {l1 : Int} {l2 : Int} (hk_l0 : kd l0 = 5) (hf : X5_isMarked σ l0 l1 l2 = some res) : CT l yX5_isMarked cX5_isMarked 3 (some FieldType.boolean) 1 60 G [.ref (gh G + l0), .int (i32 l1), .int (i32 l2)] σ σ (some (.int (i32 res))) := by
  refine CT.mk (own := RX5) (by decide) rfl (Nat.le_of_ble_eq_true rfl) ?_
  intro p e s m below meth c ls X hP hS hl
  have hl : lv_has ls 3 [(0, .ref (gh G + l0)), (1, .int (i32 l1)), (2, .int (i32 l2))] := hl
  exact a_X5_isMarked_0 X  s.heap [] ls l0 l1 l2 hk_l0 hP hS hf hl
theorem k_X5_isMarked {p : Program} {l : Launch} {e : Env} {R : Room} {s : State} {m : MethodId} {args : Array Value} {below : List Frame} {meth : Method} {c : Code} {H : Heap} {locs : List Loc} {Q : State → Prop} {cc : ByteArray} {nL : Nat} {own : String} {ret : Option FieldType} {fF fL : Nat} {G : GT} {pc idx : Nat} {ls : Array Slot} {rest : List Value} {σ : Mem} {res : Int} {l0 : Nat} {l1 : Int} {l2 : Int} (X : CX p R s m args meth c cc nL own ret fF fL G) (hP : PW G σ H) (hS : va_S (AA G) s.heap H locs) (hls : ls.size = nL) (hk_l0 : kd l0 = 5) (hf : X5_isMarked σ l0 l1 l2 = some res) (h1 : Cond.methodLink own idx yX5_isMarked ∈ TB) (hR : 1 + 1 ≤ fF ∧ 8 + (3 + 11) + 60 ≤ fL) (hW : (rest.map fun v => v.category).sum ≤ 8) (hd : decode cc pc = .ok (.invokevirtual idx, 3)) (kk : ∀ (H1 : Heap) (locs1 : List Loc), PW G σ H1 → va_S (AA G) s.heap H1 locs1 → W p l e R s m args below meth c H1 locs1 0 0 Q (F0 m (pc + 3) ls (.int (i32 res) :: rest))) : W p l e R s m args below meth c H locs 0 0 Q (F0 m pc ls (.int (i32 l2) :: .int (i32 l1) :: .ref (gh G + l0) :: rest)) := r_callV (n := 2) X hP hS hls (c_X5_isMarked hk_l0 hf) h1 (tb t_707 rfl) (tb t_708 rfl) (tb t_79 rfl) (tb t_709 rfl) (by decide +kernel) hR (r_recv X hP (kd_lt hk_l0 (by decide)) (cE_5 hk_l0) rfl) rfl rfl hW hd kk
/-! X5_mayEndLine -/
theorem dX5_mayEndLine_0 : decode cX5_mayEndLine 0 = .ok (.iload_n 1, 1) := by decide +kernel
theorem dX5_mayEndLine_1 : decode cX5_mayEndLine 1 = .ok (.aload_n 0, 1) := by decide +kernel
theorem dX5_mayEndLine_2 : decode cX5_mayEndLine 2 = .ok (.getfield 18, 3) := by decide +kernel
theorem dX5_mayEndLine_5 : decode cX5_mayEndLine 5 = .ok (.iconst 1, 1) := by decide +kernel
theorem dX5_mayEndLine_6 : decode cX5_mayEndLine 6 = .ok (.isub, 1) := by decide +kernel
theorem dX5_mayEndLine_7 : decode cX5_mayEndLine 7 = .ok (.if_icmp .eq 18, 3) := by decide +kernel
theorem dX5_mayEndLine_10 : decode cX5_mayEndLine 10 = .ok (.aload_n 0, 1) := by decide +kernel
theorem dX5_mayEndLine_11 : decode cX5_mayEndLine 11 = .ok (.getfield 15, 3) := by decide +kernel
theorem dX5_mayEndLine_14 : decode cX5_mayEndLine 14 = .ok (.iload_n 1, 1) := by decide +kernel
theorem dX5_mayEndLine_15 : decode cX5_mayEndLine 15 = .ok (.iconst 4, 1) := by decide +kernel
theorem dX5_mayEndLine_16 : decode cX5_mayEndLine 16 = .ok (.imul, 1) := by decide +kernel
theorem dX5_mayEndLine_17 : decode cX5_mayEndLine 17 = .ok (.iconst 3, 1) := by decide +kernel
theorem dX5_mayEndLine_18 : decode cX5_mayEndLine 18 = .ok (.iadd, 1) := by decide +kernel
theorem dX5_mayEndLine_19 : decode cX5_mayEndLine 19 = .ok (.iaload, 1) := by decide +kernel
theorem dX5_mayEndLine_20 : decode cX5_mayEndLine 20 = .ok (.iconst 1, 1) := by decide +kernel
theorem dX5_mayEndLine_21 : decode cX5_mayEndLine 21 = .ok (.iand, 1) := by decide +kernel
theorem dX5_mayEndLine_22 : decode cX5_mayEndLine 22 = .ok (.ifCond .ne 7, 3) := by decide +kernel
theorem dX5_mayEndLine_25 : decode cX5_mayEndLine 25 = .ok (.iconst 1, 1) := by decide +kernel
theorem dX5_mayEndLine_26 : decode cX5_mayEndLine 26 = .ok (.goto 4, 3) := by decide +kernel
theorem dX5_mayEndLine_29 : decode cX5_mayEndLine 29 = .ok (.iconst 0, 1) := by decide +kernel
theorem dX5_mayEndLine_30 : decode cX5_mayEndLine 30 = .ok (.ireturn, 1) := by decide +kernel
def X5_mayEndLine (σ : Mem) (l0 : Nat) (l1 : Int) : Option (Int) :=
  if w32 l1 = w32 ((σ l0 2) - 1) then
    some 1
  else
  ag 160 ((l1 * 4) + 3) fun j1 =>
  if w32 (ian (σ (l0 + 2) j1) 1) ≠ 0 then
    some 0
  else
  some 1
def S_X5_mayEndLine_0 (fn : Nat → Int → Option (Int)) (p : Program) (l : Launch) (e : Env) (R : Room) (s : State) (m : MethodId) (args : Array Value) (below : List Frame) (meth : Method) (c : Code) (G : GT) (σ : Mem) (res : Int) : Prop := ∀ (H : Heap) (locs : List Loc) (ls : Array Slot) (l0 : Nat) (l1 : Int), kd l0 = 5 → PW G σ H → va_S (AA G) s.heap H locs → fn l0 l1 = some res → lv_has ls 2 [(0, .ref (gh G + l0)), (1, .int (i32 l1))] → W p l e R s m args below meth c H locs 0 0 (MQ below (QM G (some (.int (i32 res))) σ) args s 0 0 (AA G)) (F0 m 0 ls [])
set_option maxHeartbeats 4000000 in
theorem a_X5_mayEndLine_0 {p : Program} {l : Launch} {e : Env} {R : Room} {s : State} {m : MethodId} {args : Array Value} {below : List Frame} {meth : Method} {c : Code} {G : GT} {σ : Mem} {res : Int} (X : CX p R s m args meth c cX5_mayEndLine 2 RX5 (some FieldType.boolean) 1 60 G) : S_X5_mayEndLine_0 (X5_mayEndLine σ) p l e R s m args below meth c G σ res := by
  intro H locs ls l0 l1 hk_l0 hP hS hf hl
  unfold X5_mayEndLine at hf
  refine lv_iload_n X.1 X.2.1 dX5_mayEndLine_0 rfl (lv_at hl 1 rfl) ?_
  refine lv_aload_n X.1 X.2.1 dX5_mayEndLine_1 rfl (lv_at hl 0 rfl) ?_
  refine g_5_2 X hP hk_l0 (tb t_156 rfl) dX5_mayEndLine_2 ?_
  refine r_iconst X 1 dX5_mayEndLine_5 ?_
  refine r_isub X dX5_mayEndLine_6 ?_
  refine r_icmp_eq (tgt := 25) X dX5_mayEndLine_7 (by decide) (fun q => ?_) (fun q => ?_)
  · replace hf := it_inv q hf
    refine r_iconst X 1 dX5_mayEndLine_25 ?_
    refine lv_goto (tgt := 30) X.1 X.2.1 dX5_mayEndLine_26 (by decide) ?_
    cases so_inv hf
    exact r_zret X hP hS (Or.inr rfl) dX5_mayEndLine_30
  · replace hf := ie_inv q hf
    refine lv_aload_n X.1 X.2.1 dX5_mayEndLine_10 rfl (lv_at hl 0 rfl) ?_
    refine g_5_1 (r := l0 + 2) X hP hk_l0 rfl (tb t_154 rfl) dX5_mayEndLine_11 ?_
    refine lv_iload_n X.1 X.2.1 dX5_mayEndLine_14 rfl (lv_at hl 1 rfl) ?_
    refine r_iconst X 4 dX5_mayEndLine_15 ?_
    refine r_imul X dX5_mayEndLine_16 ?_
    refine r_iconst X 3 dX5_mayEndLine_17 ?_
    refine r_iadd X dX5_mayEndLine_18 ?_
    obtain ⟨j1, hij1, hjj1, hlj1, hf⟩ := ag_inv hf
    refine r_iald X hP (ch_5_1 hk_l0).1 (ch_5_1 hk_l0).2 hij1 hjj1 dX5_mayEndLine_19 ?_
    refine r_iconst X 1 dX5_mayEndLine_20 ?_
    refine r_iand X dX5_mayEndLine_21 ?_
    refine r_if_ne (tgt := 29) X dX5_mayEndLine_22 (by decide) (fun q => ?_) (fun q => ?_)
    · replace hf := it_inv q hf
      refine r_iconst X 0 dX5_mayEndLine_29 ?_
      cases so_inv hf
      exact r_zret X hP hS (Or.inl rfl) dX5_mayEndLine_30
    · replace hf := ie_inv q hf
      refine r_iconst X 1 dX5_mayEndLine_25 ?_
      refine lv_goto (tgt := 30) X.1 X.2.1 dX5_mayEndLine_26 (by decide) ?_
      cases so_inv hf
      exact r_zret X hP hS (Or.inr rfl) dX5_mayEndLine_30
set_option maxHeartbeats 4000000 in
theorem c_X5_mayEndLine {l : Launch} {G : GT} {σ : Mem} {res : Int} {l0 : Nat} {l1 : Int} (hk_l0 : kd l0 = 5) (hf : X5_mayEndLine σ l0 l1 = some res) : CT l yX5_mayEndLine cX5_mayEndLine 2 (some FieldType.boolean) 1 60 G [.ref (gh G + l0), .int (i32 l1)] σ σ (some (.int (i32 res))) := by
  refine CT.mk (own := RX5) (by decide) rfl (Nat.le_of_ble_eq_true rfl) ?_
  intro p e s m below meth c ls X hP hS hl
  have hl : lv_has ls 2 [(0, .ref (gh G + l0)), (1, .int (i32 l1))] := hl
  exact a_X5_mayEndLine_0 X  s.heap [] ls l0 l1 hk_l0 hP hS hf hl
theorem k_X5_mayEndLine {p : Program} {l : Launch} {e : Env} {R : Room} {s : State} {m : MethodId} {args : Array Value} {below : List Frame} {meth : Method} {c : Code} {H : Heap} {locs : List Loc} {Q : State → Prop} {cc : ByteArray} {nL : Nat} {own : String} {ret : Option FieldType} {fF fL : Nat} {G : GT} {pc idx : Nat} {ls : Array Slot} {rest : List Value} {σ : Mem} {res : Int} {l0 : Nat} {l1 : Int} (X : CX p R s m args meth c cc nL own ret fF fL G) (hP : PW G σ H) (hS : va_S (AA G) s.heap H locs) (hls : ls.size = nL) (hk_l0 : kd l0 = 5) (hf : X5_mayEndLine σ l0 l1 = some res) (h1 : Cond.methodLink own idx yX5_mayEndLine ∈ TB) (hR : 1 + 1 ≤ fF ∧ 8 + (2 + 11) + 60 ≤ fL) (hW : (rest.map fun v => v.category).sum ≤ 8) (hd : decode cc pc = .ok (.invokevirtual idx, 3)) (kk : ∀ (H1 : Heap) (locs1 : List Loc), PW G σ H1 → va_S (AA G) s.heap H1 locs1 → W p l e R s m args below meth c H1 locs1 0 0 Q (F0 m (pc + 3) ls (.int (i32 res) :: rest))) : W p l e R s m args below meth c H locs 0 0 Q (F0 m pc ls (.int (i32 l1) :: .ref (gh G + l0) :: rest)) := r_callV (n := 1) X hP hS hls (c_X5_mayEndLine hk_l0 hf) h1 (tb t_711 rfl) (tb t_712 rfl) (tb t_79 rfl) (tb t_713 rfl) (by decide +kernel) hR (r_recv X hP (kd_lt hk_l0 (by decide)) (cE_5 hk_l0) rfl) rfl rfl hW hd kk
/-! X3_fillFrom -/
theorem dX3_fillFrom_0 : decode cX3_fillFrom 0 = .ok (.aload_n 2, 1) := by decide +kernel
theorem dX3_fillFrom_1 : decode cX3_fillFrom 1 = .ok (.iconst 0, 1) := by decide +kernel
theorem dX3_fillFrom_2 : decode cX3_fillFrom 2 = .ok (.iaload, 1) := by decide +kernel
theorem dX3_fillFrom_3 : decode cX3_fillFrom 3 = .ok (.istore 6, 2) := by decide +kernel
theorem dX3_fillFrom_5 : decode cX3_fillFrom 5 = .ok (.iconst 0, 1) := by decide +kernel
theorem dX3_fillFrom_6 : decode cX3_fillFrom 6 = .ok (.istore 7, 2) := by decide +kernel
theorem dX3_fillFrom_8 : decode cX3_fillFrom 8 = .ok (.aload_n 0, 1) := by decide +kernel
theorem dX3_fillFrom_9 : decode cX3_fillFrom 9 = .ok (.getfield 15, 3) := by decide +kernel
theorem dX3_fillFrom_12 : decode cX3_fillFrom 12 = .ok (.iload 4, 2) := by decide +kernel
theorem dX3_fillFrom_14 : decode cX3_fillFrom 14 = .ok (.iload 4, 2) := by decide +kernel
theorem dX3_fillFrom_16 : decode cX3_fillFrom 16 = .ok (.iconst 1, 1) := by decide +kernel
theorem dX3_fillFrom_17 : decode cX3_fillFrom 17 = .ok (.isub, 1) := by decide +kernel
theorem dX3_fillFrom_18 : decode cX3_fillFrom 18 = .ok (.iastore, 1) := by decide +kernel
theorem dX3_fillFrom_19 : decode cX3_fillFrom 19 = .ok (.iload 4, 2) := by decide +kernel
theorem dX3_fillFrom_21 : decode cX3_fillFrom 21 = .ok (.istore 8, 2) := by decide +kernel
theorem dX3_fillFrom_23 : decode cX3_fillFrom 23 = .ok (.iload 8, 2) := by decide +kernel
theorem dX3_fillFrom_25 : decode cX3_fillFrom 25 = .ok (.iload 5, 2) := by decide +kernel
theorem dX3_fillFrom_27 : decode cX3_fillFrom 27 = .ok (.if_icmp .gt 147, 3) := by decide +kernel
theorem dX3_fillFrom_30 : decode cX3_fillFrom 30 = .ok (.iload 6, 2) := by decide +kernel
theorem dX3_fillFrom_32 : decode cX3_fillFrom 32 = .ok (.aload_n 1, 1) := by decide +kernel
theorem dX3_fillFrom_33 : decode cX3_fillFrom 33 = .ok (.iload 8, 2) := by decide +kernel
theorem dX3_fillFrom_35 : decode cX3_fillFrom 35 = .ok (.iload_n 3, 1) := by decide +kernel
theorem dX3_fillFrom_36 : decode cX3_fillFrom 36 = .ok (.invokevirtual 25, 3) := by decide +kernel
theorem dX3_fillFrom_39 : decode cX3_fillFrom 39 = .ok (.isub, 1) := by decide +kernel
theorem dX3_fillFrom_40 : decode cX3_fillFrom 40 = .ok (.istore 6, 2) := by decide +kernel
theorem dX3_fillFrom_42 : decode cX3_fillFrom 42 = .ok (.iload 6, 2) := by decide +kernel
theorem dX3_fillFrom_44 : decode cX3_fillFrom 44 = .ok (.ifCond .ge 6, 3) := by decide +kernel
theorem dX3_fillFrom_47 : decode cX3_fillFrom 47 = .ok (.goto 127, 3) := by decide +kernel
theorem dX3_fillFrom_50 : decode cX3_fillFrom 50 = .ok (.iload 8, 2) := by decide +kernel
theorem dX3_fillFrom_52 : decode cX3_fillFrom 52 = .ok (.iload 4, 2) := by decide +kernel
theorem dX3_fillFrom_54 : decode cX3_fillFrom 54 = .ok (.if_icmp .le 21, 3) := by decide +kernel
theorem dX3_fillFrom_57 : decode cX3_fillFrom 57 = .ok (.aload_n 1, 1) := by decide +kernel
theorem dX3_fillFrom_58 : decode cX3_fillFrom 58 = .ok (.iload 8, 2) := by decide +kernel
theorem dX3_fillFrom_60 : decode cX3_fillFrom 60 = .ok (.iconst 2, 1) := by decide +kernel
theorem dX3_fillFrom_61 : decode cX3_fillFrom 61 = .ok (.invokevirtual 31, 3) := by decide +kernel
theorem dX3_fillFrom_64 : decode cX3_fillFrom 64 = .ok (.ifCond .eq 11, 3) := by decide +kernel
theorem dX3_fillFrom_67 : decode cX3_fillFrom 67 = .ok (.iload 7, 2) := by decide +kernel
theorem dX3_fillFrom_69 : decode cX3_fillFrom 69 = .ok (.aload_n 2, 1) := by decide +kernel
theorem dX3_fillFrom_70 : decode cX3_fillFrom 70 = .ok (.iconst 3, 1) := by decide +kernel
theorem dX3_fillFrom_71 : decode cX3_fillFrom 71 = .ok (.iaload, 1) := by decide +kernel
theorem dX3_fillFrom_72 : decode cX3_fillFrom 72 = .ok (.iadd, 1) := by decide +kernel
theorem dX3_fillFrom_73 : decode cX3_fillFrom 73 = .ok (.istore 7, 2) := by decide +kernel
theorem dX3_fillFrom_75 : decode cX3_fillFrom 75 = .ok (.iload 8, 2) := by decide +kernel
theorem dX3_fillFrom_77 : decode cX3_fillFrom 77 = .ok (.aload_n 1, 1) := by decide +kernel
theorem dX3_fillFrom_78 : decode cX3_fillFrom 78 = .ok (.getfield 35, 3) := by decide +kernel
theorem dX3_fillFrom_81 : decode cX3_fillFrom 81 = .ok (.iconst 1, 1) := by decide +kernel
theorem dX3_fillFrom_82 : decode cX3_fillFrom 82 = .ok (.isub, 1) := by decide +kernel
theorem dX3_fillFrom_83 : decode cX3_fillFrom 83 = .ok (.if_icmp .ne 7, 3) := by decide +kernel
theorem dX3_fillFrom_86 : decode cX3_fillFrom 86 = .ok (.iconst 0, 1) := by decide +kernel
theorem dX3_fillFrom_87 : decode cX3_fillFrom 87 = .ok (.goto 11, 3) := by decide +kernel
theorem dX3_fillFrom_90 : decode cX3_fillFrom 90 = .ok (.iload 6, 2) := by decide +kernel
theorem dX3_fillFrom_92 : decode cX3_fillFrom 92 = .ok (.iload 6, 2) := by decide +kernel
theorem dX3_fillFrom_94 : decode cX3_fillFrom 94 = .ok (.imul, 1) := by decide +kernel
theorem dX3_fillFrom_95 : decode cX3_fillFrom 95 = .ok (.bipush 10, 2) := by decide +kernel
theorem dX3_fillFrom_97 : decode cX3_fillFrom 97 = .ok (.idiv, 1) := by decide +kernel
theorem dX3_fillFrom_98 : decode cX3_fillFrom 98 = .ok (.istore 9, 2) := by decide +kernel
theorem dX3_fillFrom_100 : decode cX3_fillFrom 100 = .ok (.aload_n 1, 1) := by decide +kernel
theorem dX3_fillFrom_101 : decode cX3_fillFrom 101 = .ok (.iload 8, 2) := by decide +kernel
theorem dX3_fillFrom_103 : decode cX3_fillFrom 103 = .ok (.iconst 4, 1) := by decide +kernel
theorem dX3_fillFrom_104 : decode cX3_fillFrom 104 = .ok (.invokevirtual 31, 3) := by decide +kernel
theorem dX3_fillFrom_107 : decode cX3_fillFrom 107 = .ok (.ifCond .eq 7, 3) := by decide +kernel
theorem dX3_fillFrom_110 : decode cX3_fillFrom 110 = .ok (.iconst 5, 1) := by decide +kernel
theorem dX3_fillFrom_111 : decode cX3_fillFrom 111 = .ok (.goto 4, 3) := by decide +kernel
theorem dX3_fillFrom_114 : decode cX3_fillFrom 114 = .ok (.iconst 0, 1) := by decide +kernel
theorem dX3_fillFrom_115 : decode cX3_fillFrom 115 = .ok (.istore 10, 2) := by decide +kernel
theorem dX3_fillFrom_117 : decode cX3_fillFrom 117 = .ok (.aload_n 0, 1) := by decide +kernel
theorem dX3_fillFrom_118 : decode cX3_fillFrom 118 = .ok (.getfield 9, 3) := by decide +kernel
theorem dX3_fillFrom_121 : decode cX3_fillFrom 121 = .ok (.iload 4, 2) := by decide +kernel
theorem dX3_fillFrom_123 : decode cX3_fillFrom 123 = .ok (.bipush 40, 2) := by decide +kernel
theorem dX3_fillFrom_125 : decode cX3_fillFrom 125 = .ok (.imul, 1) := by decide +kernel
theorem dX3_fillFrom_126 : decode cX3_fillFrom 126 = .ok (.iload 8, 2) := by decide +kernel
theorem dX3_fillFrom_128 : decode cX3_fillFrom 128 = .ok (.iadd, 1) := by decide +kernel
theorem dX3_fillFrom_129 : decode cX3_fillFrom 129 = .ok (.aload_n 1, 1) := by decide +kernel
theorem dX3_fillFrom_130 : decode cX3_fillFrom 130 = .ok (.iload 8, 2) := by decide +kernel
theorem dX3_fillFrom_132 : decode cX3_fillFrom 132 = .ok (.invokevirtual 39, 3) := by decide +kernel
theorem dX3_fillFrom_135 : decode cX3_fillFrom 135 = .ok (.ifCond .eq 21, 3) := by decide +kernel
theorem dX3_fillFrom_138 : decode cX3_fillFrom 138 = .ok (.iload 9, 2) := by decide +kernel
theorem dX3_fillFrom_140 : decode cX3_fillFrom 140 = .ok (.bipush 20, 2) := by decide +kernel
theorem dX3_fillFrom_142 : decode cX3_fillFrom 142 = .ok (.iload_n 3, 1) := by decide +kernel
theorem dX3_fillFrom_143 : decode cX3_fillFrom 143 = .ok (.imul, 1) := by decide +kernel
theorem dX3_fillFrom_144 : decode cX3_fillFrom 144 = .ok (.iload_n 3, 1) := by decide +kernel
theorem dX3_fillFrom_145 : decode cX3_fillFrom 145 = .ok (.imul, 1) := by decide +kernel
theorem dX3_fillFrom_146 : decode cX3_fillFrom 146 = .ok (.iadd, 1) := by decide +kernel
theorem dX3_fillFrom_147 : decode cX3_fillFrom 147 = .ok (.iload 10, 2) := by decide +kernel
theorem dX3_fillFrom_149 : decode cX3_fillFrom 149 = .ok (.isub, 1) := by decide +kernel
theorem dX3_fillFrom_150 : decode cX3_fillFrom 150 = .ok (.iload 7, 2) := by decide +kernel
theorem dX3_fillFrom_152 : decode cX3_fillFrom 152 = .ok (.iadd, 1) := by decide +kernel
theorem dX3_fillFrom_153 : decode cX3_fillFrom 153 = .ok (.goto 5, 3) := by decide +kernel
theorem dX3_fillFrom_156 : decode cX3_fillFrom 156 = .ok (.ldc 43, 2) := by decide +kernel
theorem dX3_fillFrom_158 : decode cX3_fillFrom 158 = .ok (.iastore, 1) := by decide +kernel
theorem dX3_fillFrom_159 : decode cX3_fillFrom 159 = .ok (.aload_n 0, 1) := by decide +kernel
theorem dX3_fillFrom_160 : decode cX3_fillFrom 160 = .ok (.getfield 15, 3) := by decide +kernel
theorem dX3_fillFrom_163 : decode cX3_fillFrom 163 = .ok (.iload 4, 2) := by decide +kernel
theorem dX3_fillFrom_165 : decode cX3_fillFrom 165 = .ok (.iload 8, 2) := by decide +kernel
theorem dX3_fillFrom_167 : decode cX3_fillFrom 167 = .ok (.iastore, 1) := by decide +kernel
theorem dX3_fillFrom_168 : decode cX3_fillFrom 168 = .ok (.iinc 8 1, 3) := by decide +kernel
theorem dX3_fillFrom_171 : decode cX3_fillFrom 171 = .ok (.goto (-148), 3) := by decide +kernel
theorem dX3_fillFrom_174 : decode cX3_fillFrom 174 = .ok (.return_, 1) := by decide +kernel
def S_X3_fillFrom_23 (fn : Mem → Nat → Nat → Int → Int → Int → Int → Int → Int → Option (Mem)) (p : Program) (l : Launch) (e : Env) (R : Room) (s : State) (m : MethodId) (args : Array Value) (below : List Frame) (meth : Method) (c : Code) (G : GT) (τ : Mem) : Prop := ∀ (σ : Mem) (H : Heap) (locs : List Loc) (ls : Array Slot) (l1 : Nat) (l2 : Nat) (l3 : Int) (l4 : Int) (l5 : Int) (l6 : Int) (l7 : Int) (l8 : Int), kd l1 = 5 → kd l2 = 13 → PW G σ H → va_S (AA G) s.heap H locs → fn σ l1 l2 l3 l4 l5 l6 l7 l8 = some τ → lv_has ls 11 [(0, .ref (gh G + 54)), (1, .ref (gh G + l1)), (2, .ref (gh G + l2)), (3, .int (i32 l3)), (4, .int (i32 l4)), (5, .int (i32 l5)), (6, .int (i32 l6)), (7, .int (i32 l7)), (8, .int (i32 l8))] → W p l e R s m args below meth c H locs 0 0 (MQ below (QM G none τ) args s 0 0 (AA G)) (F0 m 23 ls [])
def X3_fillFrom_B158 (rec23 : Mem → Nat → Nat → Int → Int → Int → Int → Int → Int → Option (Mem)) (σ : Mem) (l1 : Nat) (l2 : Nat) (l3 : Int) (l4 : Int) (l5 : Int) (l6 : Int) (l7 : Int) (l8 : Int) (k0 : Nat) (k1 : Int) (k2 : Int) : Option (Mem) :=
  ag 1600 k1 fun j1 =>
  lt (st σ k0 j1 k2) fun s2 =>
  ag 40 l4 fun j3 =>
  lt (st s2 56 j3 l8) fun s4 =>
  lt (l8 + 1) fun l8_5 =>
  rec23 s4 l1 l2 l3 l4 l5 l6 l7 l8_5
def S_X3_fillFrom_158 (fn : Mem → Nat → Nat → Int → Int → Int → Int → Int → Int → Nat → Int → Int → Option (Mem)) (p : Program) (l : Launch) (e : Env) (R : Room) (s : State) (m : MethodId) (args : Array Value) (below : List Frame) (meth : Method) (c : Code) (G : GT) (τ : Mem) : Prop := ∀ (σ : Mem) (H : Heap) (locs : List Loc) (ls : Array Slot) (l1 : Nat) (l2 : Nat) (l3 : Int) (l4 : Int) (l5 : Int) (l6 : Int) (l7 : Int) (l8 : Int) (k0 : Nat) (k1 : Int) (k2 : Int), kd l1 = 5 → kd l2 = 13 → kd k0 = 13 → ln k0 = 1600 → PW G σ H → va_S (AA G) s.heap H locs → fn σ l1 l2 l3 l4 l5 l6 l7 l8 k0 k1 k2 = some τ → lv_has ls 11 [(0, .ref (gh G + 54)), (1, .ref (gh G + l1)), (2, .ref (gh G + l2)), (3, .int (i32 l3)), (4, .int (i32 l4)), (5, .int (i32 l5)), (6, .int (i32 l6)), (7, .int (i32 l7)), (8, .int (i32 l8))] → W p l e R s m args below meth c H locs 0 0 (MQ below (QM G none τ) args s 0 0 (AA G)) (F0 m 158 ls [.int (i32 k2), .int (i32 k1), .ref (gh G + k0)])
def X3_fillFrom_B115 (rec23 : Mem → Nat → Nat → Int → Int → Int → Int → Int → Int → Option (Mem)) (σ : Mem) (l1 : Nat) (l2 : Nat) (l3 : Int) (l4 : Int) (l5 : Int) (l6 : Int) (l7 : Int) (l8 : Int) (l9 : Int) (k0 : Int) : Option (Mem) :=
  bd (X5_mayEndLine σ l1 l8) fun r1 =>
  if w32 r1 = 0 then
    X3_fillFrom_B158 rec23 σ l1 l2 l3 l4 l5 l6 l7 l8 55 ((l4 * 40) + l8) 2147483647
  else
  X3_fillFrom_B158 rec23 σ l1 l2 l3 l4 l5 l6 l7 l8 55 ((l4 * 40) + l8) (((l9 + ((20 * l3) * l3)) - k0) + l7)
def S_X3_fillFrom_115 (fn : Mem → Nat → Nat → Int → Int → Int → Int → Int → Int → Int → Int → Option (Mem)) (p : Program) (l : Launch) (e : Env) (R : Room) (s : State) (m : MethodId) (args : Array Value) (below : List Frame) (meth : Method) (c : Code) (G : GT) (τ : Mem) : Prop := ∀ (σ : Mem) (H : Heap) (locs : List Loc) (ls : Array Slot) (l1 : Nat) (l2 : Nat) (l3 : Int) (l4 : Int) (l5 : Int) (l6 : Int) (l7 : Int) (l8 : Int) (l9 : Int) (k0 : Int), kd l1 = 5 → kd l2 = 13 → PW G σ H → va_S (AA G) s.heap H locs → fn σ l1 l2 l3 l4 l5 l6 l7 l8 l9 k0 = some τ → lv_has ls 11 [(0, .ref (gh G + 54)), (1, .ref (gh G + l1)), (2, .ref (gh G + l2)), (3, .int (i32 l3)), (4, .int (i32 l4)), (5, .int (i32 l5)), (6, .int (i32 l6)), (7, .int (i32 l7)), (8, .int (i32 l8)), (9, .int (i32 l9))] → W p l e R s m args below meth c H locs 0 0 (MQ below (QM G none τ) args s 0 0 (AA G)) (F0 m 115 ls [.int (i32 k0)])
def X3_fillFrom_B98 (rec23 : Mem → Nat → Nat → Int → Int → Int → Int → Int → Int → Option (Mem)) (σ : Mem) (l1 : Nat) (l2 : Nat) (l3 : Int) (l4 : Int) (l5 : Int) (l6 : Int) (l7 : Int) (l8 : Int) (k0 : Int) : Option (Mem) :=
  bd (X5_isMarked σ l1 l8 4) fun r1 =>
  if w32 r1 = 0 then
    X3_fillFrom_B115 rec23 σ l1 l2 l3 l4 l5 l6 l7 l8 k0 0
  else
  X3_fillFrom_B115 rec23 σ l1 l2 l3 l4 l5 l6 l7 l8 k0 5
def S_X3_fillFrom_98 (fn : Mem → Nat → Nat → Int → Int → Int → Int → Int → Int → Int → Option (Mem)) (p : Program) (l : Launch) (e : Env) (R : Room) (s : State) (m : MethodId) (args : Array Value) (below : List Frame) (meth : Method) (c : Code) (G : GT) (τ : Mem) : Prop := ∀ (σ : Mem) (H : Heap) (locs : List Loc) (ls : Array Slot) (l1 : Nat) (l2 : Nat) (l3 : Int) (l4 : Int) (l5 : Int) (l6 : Int) (l7 : Int) (l8 : Int) (k0 : Int), kd l1 = 5 → kd l2 = 13 → PW G σ H → va_S (AA G) s.heap H locs → fn σ l1 l2 l3 l4 l5 l6 l7 l8 k0 = some τ → lv_has ls 11 [(0, .ref (gh G + 54)), (1, .ref (gh G + l1)), (2, .ref (gh G + l2)), (3, .int (i32 l3)), (4, .int (i32 l4)), (5, .int (i32 l5)), (6, .int (i32 l6)), (7, .int (i32 l7)), (8, .int (i32 l8))] → W p l e R s m args below meth c H locs 0 0 (MQ below (QM G none τ) args s 0 0 (AA G)) (F0 m 98 ls [.int (i32 k0)])
def X3_fillFrom_B75 (rec23 : Mem → Nat → Nat → Int → Int → Int → Int → Int → Int → Option (Mem)) (σ : Mem) (l1 : Nat) (l2 : Nat) (l3 : Int) (l4 : Int) (l5 : Int) (l6 : Int) (l7 : Int) (l8 : Int) : Option (Mem) :=
  if w32 l8 ≠ w32 ((σ l1 2) - 1) then
    dg 10 <|
    X3_fillFrom_B98 rec23 σ l1 l2 l3 l4 l5 l6 l7 l8 (idv (l6 * l6) 10)
  else
  X3_fillFrom_B98 rec23 σ l1 l2 l3 l4 l5 l6 l7 l8 0
def S_X3_fillFrom_75 (fn : Mem → Nat → Nat → Int → Int → Int → Int → Int → Int → Option (Mem)) (p : Program) (l : Launch) (e : Env) (R : Room) (s : State) (m : MethodId) (args : Array Value) (below : List Frame) (meth : Method) (c : Code) (G : GT) (τ : Mem) : Prop := ∀ (σ : Mem) (H : Heap) (locs : List Loc) (ls : Array Slot) (l1 : Nat) (l2 : Nat) (l3 : Int) (l4 : Int) (l5 : Int) (l6 : Int) (l7 : Int) (l8 : Int), kd l1 = 5 → kd l2 = 13 → PW G σ H → va_S (AA G) s.heap H locs → fn σ l1 l2 l3 l4 l5 l6 l7 l8 = some τ → lv_has ls 11 [(0, .ref (gh G + 54)), (1, .ref (gh G + l1)), (2, .ref (gh G + l2)), (3, .int (i32 l3)), (4, .int (i32 l4)), (5, .int (i32 l5)), (6, .int (i32 l6)), (7, .int (i32 l7)), (8, .int (i32 l8))] → W p l e R s m args below meth c H locs 0 0 (MQ below (QM G none τ) args s 0 0 (AA G)) (F0 m 75 ls [])
def X3_fillFrom_B23 (rec23 : Mem → Nat → Nat → Int → Int → Int → Int → Int → Int → Option (Mem)) (σ : Mem) (l1 : Nat) (l2 : Nat) (l3 : Int) (l4 : Int) (l5 : Int) (l6 : Int) (l7 : Int) (l8 : Int) : Option (Mem) :=
  if w32 l5 < w32 l8 then
    some σ
  else
  bd (X5_roomAt σ l1 l8 l3) fun r1 =>
  lt (l6 - r1) fun l6_2 =>
  if 0 ≤ w32 l6_2 then
    if w32 l8 ≤ w32 l4 then
      X3_fillFrom_B75 rec23 σ l1 l2 l3 l4 l5 l6_2 l7 l8
    else
    bd (X5_isMarked σ l1 l8 2) fun r3 =>
    if w32 r3 = 0 then
      X3_fillFrom_B75 rec23 σ l1 l2 l3 l4 l5 l6_2 l7 l8
    else
    ag (ln l2) 3 fun j4 =>
    lt (l7 + (σ l2 j4)) fun l7_5 =>
    X3_fillFrom_B75 rec23 σ l1 l2 l3 l4 l5 l6_2 l7_5 l8
  else
  some σ
def X3_fillFrom_L23 : Nat → Mem → Nat → Nat → Int → Int → Int → Int → Int → Int → Option (Mem)
  | 0 => fun _ _ _ _ _ _ _ _ _ => none
  | n + 1 => X3_fillFrom_B23 (X3_fillFrom_L23 n)
def X3_fillFrom (σ : Mem) (l1 : Nat) (l2 : Nat) (l3 : Int) (l4 : Int) (l5 : Int) : Option (Mem) :=
  ag (ln l2) 0 fun j1 =>
  lt (σ l2 j1) fun l6_2 =>
  ag 40 l4 fun j3 =>
  lt (st σ 56 j3 (l4 - 1)) fun s4 =>
  X3_fillFrom_L23 5000 s4 l1 l2 l3 l4 l5 l6_2 0 l4
def S_X3_fillFrom_0 (fn : Mem → Nat → Nat → Int → Int → Int → Option (Mem)) (p : Program) (l : Launch) (e : Env) (R : Room) (s : State) (m : MethodId) (args : Array Value) (below : List Frame) (meth : Method) (c : Code) (G : GT) (τ : Mem) : Prop := ∀ (σ : Mem) (H : Heap) (locs : List Loc) (ls : Array Slot) (l1 : Nat) (l2 : Nat) (l3 : Int) (l4 : Int) (l5 : Int), kd l1 = 5 → kd l2 = 13 → PW G σ H → va_S (AA G) s.heap H locs → fn σ l1 l2 l3 l4 l5 = some τ → lv_has ls 11 [(0, .ref (gh G + 54)), (1, .ref (gh G + l1)), (2, .ref (gh G + l2)), (3, .int (i32 l3)), (4, .int (i32 l4)), (5, .int (i32 l5))] → W p l e R s m args below meth c H locs 0 0 (MQ below (QM G none τ) args s 0 0 (AA G)) (F0 m 0 ls [])
set_option maxHeartbeats 4000000 in
theorem a_X3_fillFrom_158 {p : Program} {l : Launch} {e : Env} {R : Room} {s : State} {m : MethodId} {args : Array Value} {below : List Frame} {meth : Method} {c : Code} {G : GT} {τ : Mem} {rec23 : Mem → Nat → Nat → Int → Int → Int → Int → Int → Int → Option (Mem)} (X : CX p R s m args meth c cX3_fillFrom 11 RX3 none 2 82 G) (h23 : S_X3_fillFrom_23 rec23 p l e R s m args below meth c G τ) : S_X3_fillFrom_158 (X3_fillFrom_B158 rec23) p l e R s m args below meth c G τ := by
  intro σ H locs ls l1 l2 l3 l4 l5 l6 l7 l8 k0 k1 k2 hk_l1 hk_l2 hk_k0 hn_k0 hP hS hf hl
  unfold X3_fillFrom_B158 at hf
  obtain ⟨j1, hij1, hjj1, hlj1, hf⟩ := ag_inv hf
  refine r_iast X hP hS hk_k0 hn_k0 hij1 hjj1 dX3_fillFrom_158 (fun H locs hP hS => ?_)
  obtain ⟨s2, es2, hf⟩ := lt_inv hf
  rw [es2] at hP
  refine lv_aload_n X.1 X.2.1 dX3_fillFrom_159 rfl (lv_at hl 0 rfl) ?_
  refine g_3_1 (r := 56) X hP ks_3 rfl (tb t_263 rfl) dX3_fillFrom_160 ?_
  refine lv_iload X.1 X.2.1 dX3_fillFrom_163 (lv_at hl 4 rfl) ?_
  refine lv_iload X.1 X.2.1 dX3_fillFrom_165 (lv_at hl 8 rfl) ?_
  obtain ⟨j3, hij3, hjj3, hlj3, hf⟩ := ag_inv hf
  refine r_iast X hP hS (ch_3_1 ks_3).1 (ch_3_1 ks_3).2 hij3 hjj3 dX3_fillFrom_167 (fun H locs hP hS => ?_)
  obtain ⟨s4, es4, hf⟩ := lt_inv hf
  rw [es4] at hP
  obtain ⟨l8_5, el8_5, hf⟩ := lt_inv hf
  refine lv_iinc (v := i32 l8_5) (lv' := [(8, .int (i32 l8_5)), (0, .ref (gh G + 54)), (1, .ref (gh G + l1)), (2, .ref (gh G + l2)), (3, .int (i32 l3)), (4, .int (i32 l4)), (5, .int (i32 l5)), (6, .int (i32 l6)), (7, .int (i32 l7))]) X.1 X.2.1 dX3_fillFrom_168 hl (k := 8) rfl (by rw [← el8_5]; exact i32_add _ _) (by decide) rfl (fun ls hl => ?_)
  refine lv_goto (tgt := 23) X.1 X.2.1 dX3_fillFrom_171 (by decide) ?_
  exact h23 s4 H locs ls l1 l2 l3 l4 l5 l6 l7 l8_5 hk_l1 hk_l2 hP hS hf (lv_sub hl [1, 2, 3, 4, 5, 6, 7, 8, 0] rfl)
set_option maxHeartbeats 4000000 in
theorem a_X3_fillFrom_115 {p : Program} {l : Launch} {e : Env} {R : Room} {s : State} {m : MethodId} {args : Array Value} {below : List Frame} {meth : Method} {c : Code} {G : GT} {τ : Mem} {rec23 : Mem → Nat → Nat → Int → Int → Int → Int → Int → Int → Option (Mem)} (X : CX p R s m args meth c cX3_fillFrom 11 RX3 none 2 82 G) (h23 : S_X3_fillFrom_23 rec23 p l e R s m args below meth c G τ) : S_X3_fillFrom_115 (X3_fillFrom_B115 rec23) p l e R s m args below meth c G τ := by
  intro σ H locs ls l1 l2 l3 l4 l5 l6 l7 l8 l9 k0 hk_l1 hk_l2 hP hS hf hl
  unfold X3_fillFrom_B115 at hf
  refine lv_istore (lv' := [(10, .int (i32 k0)), (0, .ref (gh G + 54)), (1, .ref (gh G + l1)), (2, .ref (gh G + l2)), (3, .int (i32 l3)), (4, .int (i32 l4)), (5, .int (i32 l5)), (6, .int (i32 l6)), (7, .int (i32 l7)), (8, .int (i32 l8)), (9, .int (i32 l9))]) X.1 X.2.1 dX3_fillFrom_115 hl (by decide) rfl (fun ls hl => ?_)
  refine lv_aload_n X.1 X.2.1 dX3_fillFrom_117 rfl (lv_at hl 1 rfl) ?_
  refine g_3_0 (r := 55) X hP ks_3 rfl (tb t_262 rfl) dX3_fillFrom_118 ?_
  refine lv_iload X.1 X.2.1 dX3_fillFrom_121 (lv_at hl 5 rfl) ?_
  refine r_bipush X 40 (by decide) dX3_fillFrom_123 ?_
  refine r_imul X dX3_fillFrom_125 ?_
  refine lv_iload X.1 X.2.1 dX3_fillFrom_126 (lv_at hl 9 rfl) ?_
  refine r_iadd X dX3_fillFrom_128 ?_
  refine lv_aload_n X.1 X.2.1 dX3_fillFrom_129 rfl (lv_at hl 2 rfl) ?_
  refine lv_iload X.1 X.2.1 dX3_fillFrom_130 (lv_at hl 9 rfl) ?_
  obtain ⟨r1, hr1, hf⟩ := bd_inv hf
  refine k_X5_mayEndLine X hP hS hl.1 hk_l1 hr1 (tb t_710 rfl) (by decide) (Nat.le_of_ble_eq_true rfl) dX3_fillFrom_132 (fun H locs hP hS => ?_)
  refine r_if_eq (tgt := 156) X dX3_fillFrom_135 (by decide) (fun q => ?_) (fun q => ?_)
  · replace hf := it_inv q hf
    refine r_ldc X 2147483647 (tb t_714 rfl) (by decide) dX3_fillFrom_156 ?_
    exact a_X3_fillFrom_158 X h23 σ H locs ls l1 l2 l3 l4 l5 l6 l7 l8 55 ((l4 * 40) + l8) 2147483647 hk_l1 hk_l2 (ch_3_0 ks_3).1 (ch_3_0 ks_3).2 hP hS hf (lv_sub hl [1, 2, 3, 4, 5, 6, 7, 8, 9] rfl)
  · replace hf := ie_inv q hf
    refine lv_iload X.1 X.2.1 dX3_fillFrom_138 (lv_at hl 10 rfl) ?_
    refine r_bipush X 20 (by decide) dX3_fillFrom_140 ?_
    refine lv_iload_n X.1 X.2.1 dX3_fillFrom_142 rfl (lv_at hl 4 rfl) ?_
    refine r_imul X dX3_fillFrom_143 ?_
    refine lv_iload_n X.1 X.2.1 dX3_fillFrom_144 rfl (lv_at hl 4 rfl) ?_
    refine r_imul X dX3_fillFrom_145 ?_
    refine r_iadd X dX3_fillFrom_146 ?_
    refine lv_iload X.1 X.2.1 dX3_fillFrom_147 (lv_at hl 0 rfl) ?_
    refine r_isub X dX3_fillFrom_149 ?_
    refine lv_iload X.1 X.2.1 dX3_fillFrom_150 (lv_at hl 8 rfl) ?_
    refine r_iadd X dX3_fillFrom_152 ?_
    refine lv_goto (tgt := 158) X.1 X.2.1 dX3_fillFrom_153 (by decide) ?_
    exact a_X3_fillFrom_158 X h23 σ H locs ls l1 l2 l3 l4 l5 l6 l7 l8 55 ((l4 * 40) + l8) (((l9 + ((20 * l3) * l3)) - k0) + l7) hk_l1 hk_l2 (ch_3_0 ks_3).1 (ch_3_0 ks_3).2 hP hS hf (lv_sub hl [1, 2, 3, 4, 5, 6, 7, 8, 9] rfl)
set_option maxHeartbeats 4000000 in
theorem a_X3_fillFrom_98 {p : Program} {l : Launch} {e : Env} {R : Room} {s : State} {m : MethodId} {args : Array Value} {below : List Frame} {meth : Method} {c : Code} {G : GT} {τ : Mem} {rec23 : Mem → Nat → Nat → Int → Int → Int → Int → Int → Int → Option (Mem)} (X : CX p R s m args meth c cX3_fillFrom 11 RX3 none 2 82 G) (h23 : S_X3_fillFrom_23 rec23 p l e R s m args below meth c G τ) : S_X3_fillFrom_98 (X3_fillFrom_B98 rec23) p l e R s m args below meth c G τ := by
  intro σ H locs ls l1 l2 l3 l4 l5 l6 l7 l8 k0 hk_l1 hk_l2 hP hS hf hl
  unfold X3_fillFrom_B98 at hf
  refine lv_istore (lv' := [(9, .int (i32 k0)), (0, .ref (gh G + 54)), (1, .ref (gh G + l1)), (2, .ref (gh G + l2)), (3, .int (i32 l3)), (4, .int (i32 l4)), (5, .int (i32 l5)), (6, .int (i32 l6)), (7, .int (i32 l7)), (8, .int (i32 l8))]) X.1 X.2.1 dX3_fillFrom_98 hl (by decide) rfl (fun ls hl => ?_)
  refine lv_aload_n X.1 X.2.1 dX3_fillFrom_100 rfl (lv_at hl 2 rfl) ?_
  refine lv_iload X.1 X.2.1 dX3_fillFrom_101 (lv_at hl 9 rfl) ?_
  refine r_iconst X 4 dX3_fillFrom_103 ?_
  obtain ⟨r1, hr1, hf⟩ := bd_inv hf
  refine k_X5_isMarked X hP hS hl.1 hk_l1 hr1 (tb t_706 rfl) (by decide) (Nat.le_of_ble_eq_true rfl) dX3_fillFrom_104 (fun H locs hP hS => ?_)
  refine r_if_eq (tgt := 114) X dX3_fillFrom_107 (by decide) (fun q => ?_) (fun q => ?_)
  · replace hf := it_inv q hf
    refine r_iconst X 0 dX3_fillFrom_114 ?_
    exact a_X3_fillFrom_115 X h23 σ H locs ls l1 l2 l3 l4 l5 l6 l7 l8 k0 0 hk_l1 hk_l2 hP hS hf (lv_sub hl [1, 2, 3, 4, 5, 6, 7, 8, 9, 0] rfl)
  · replace hf := ie_inv q hf
    refine r_iconst X 5 dX3_fillFrom_110 ?_
    refine lv_goto (tgt := 115) X.1 X.2.1 dX3_fillFrom_111 (by decide) ?_
    exact a_X3_fillFrom_115 X h23 σ H locs ls l1 l2 l3 l4 l5 l6 l7 l8 k0 5 hk_l1 hk_l2 hP hS hf (lv_sub hl [1, 2, 3, 4, 5, 6, 7, 8, 9, 0] rfl)
set_option maxHeartbeats 4000000 in
theorem a_X3_fillFrom_75 {p : Program} {l : Launch} {e : Env} {R : Room} {s : State} {m : MethodId} {args : Array Value} {below : List Frame} {meth : Method} {c : Code} {G : GT} {τ : Mem} {rec23 : Mem → Nat → Nat → Int → Int → Int → Int → Int → Int → Option (Mem)} (X : CX p R s m args meth c cX3_fillFrom 11 RX3 none 2 82 G) (h23 : S_X3_fillFrom_23 rec23 p l e R s m args below meth c G τ) : S_X3_fillFrom_75 (X3_fillFrom_B75 rec23) p l e R s m args below meth c G τ := by
  intro σ H locs ls l1 l2 l3 l4 l5 l6 l7 l8 hk_l1 hk_l2 hP hS hf hl
  unfold X3_fillFrom_B75 at hf
  refine lv_iload X.1 X.2.1 dX3_fillFrom_75 (lv_at hl 8 rfl) ?_
  refine lv_aload_n X.1 X.2.1 dX3_fillFrom_77 rfl (lv_at hl 1 rfl) ?_
  refine g_5_2 X hP hk_l1 (tb t_159 rfl) dX3_fillFrom_78 ?_
  refine r_iconst X 1 dX3_fillFrom_81 ?_
  refine r_isub X dX3_fillFrom_82 ?_
  refine r_icmp_ne (tgt := 90) X dX3_fillFrom_83 (by decide) (fun q => ?_) (fun q => ?_)
  · replace hf := it_inv q hf
    refine lv_iload X.1 X.2.1 dX3_fillFrom_90 (lv_at hl 6 rfl) ?_
    refine lv_iload X.1 X.2.1 dX3_fillFrom_92 (lv_at hl 6 rfl) ?_
    refine r_imul X dX3_fillFrom_94 ?_
    refine r_bipush X 10 (by decide) dX3_fillFrom_95 ?_
    obtain ⟨hz1, hf⟩ := dg_inv hf
    refine r_idiv X hz1 dX3_fillFrom_97 ?_
    exact a_X3_fillFrom_98 X h23 σ H locs ls l1 l2 l3 l4 l5 l6 l7 l8 (idv (l6 * l6) 10) hk_l1 hk_l2 hP hS hf hl
  · replace hf := ie_inv q hf
    refine r_iconst X 0 dX3_fillFrom_86 ?_
    refine lv_goto (tgt := 98) X.1 X.2.1 dX3_fillFrom_87 (by decide) ?_
    exact a_X3_fillFrom_98 X h23 σ H locs ls l1 l2 l3 l4 l5 l6 l7 l8 0 hk_l1 hk_l2 hP hS hf hl
set_option maxHeartbeats 4000000 in
theorem a_X3_fillFrom_23 {p : Program} {l : Launch} {e : Env} {R : Room} {s : State} {m : MethodId} {args : Array Value} {below : List Frame} {meth : Method} {c : Code} {G : GT} {τ : Mem} {rec23 : Mem → Nat → Nat → Int → Int → Int → Int → Int → Int → Option (Mem)} (X : CX p R s m args meth c cX3_fillFrom 11 RX3 none 2 82 G) (h23 : S_X3_fillFrom_23 rec23 p l e R s m args below meth c G τ) : S_X3_fillFrom_23 (X3_fillFrom_B23 rec23) p l e R s m args below meth c G τ := by
  intro σ H locs ls l1 l2 l3 l4 l5 l6 l7 l8 hk_l1 hk_l2 hP hS hf hl
  unfold X3_fillFrom_B23 at hf
  refine lv_iload X.1 X.2.1 dX3_fillFrom_23 (lv_at hl 8 rfl) ?_
  refine lv_iload X.1 X.2.1 dX3_fillFrom_25 (lv_at hl 5 rfl) ?_
  refine r_icmp_gt (tgt := 174) X dX3_fillFrom_27 (by decide) (fun q => ?_) (fun q => ?_)
  · replace hf := it_inv q hf
    cases so_inv hf
    exact r_vret X hP hS dX3_fillFrom_174
  · replace hf := ie_inv q hf
    refine lv_iload X.1 X.2.1 dX3_fillFrom_30 (lv_at hl 6 rfl) ?_
    refine lv_aload_n X.1 X.2.1 dX3_fillFrom_32 rfl (lv_at hl 1 rfl) ?_
    refine lv_iload X.1 X.2.1 dX3_fillFrom_33 (lv_at hl 8 rfl) ?_
    refine lv_iload_n X.1 X.2.1 dX3_fillFrom_35 rfl (lv_at hl 3 rfl) ?_
    obtain ⟨r1, hr1, hf⟩ := bd_inv hf
    refine k_X5_roomAt X hP hS hl.1 hk_l1 hr1 (tb t_705 rfl) (by decide) (Nat.le_of_ble_eq_true rfl) dX3_fillFrom_36 (fun H locs hP hS => ?_)
    refine r_isub X dX3_fillFrom_39 ?_
    obtain ⟨l6_2, el6_2, hf⟩ := lt_inv hf
    refine r_eqi el6_2 ?_
    refine lv_istore (lv' := [(6, .int (i32 l6_2)), (0, .ref (gh G + 54)), (1, .ref (gh G + l1)), (2, .ref (gh G + l2)), (3, .int (i32 l3)), (4, .int (i32 l4)), (5, .int (i32 l5)), (7, .int (i32 l7)), (8, .int (i32 l8))]) X.1 X.2.1 dX3_fillFrom_40 hl (by decide) rfl (fun ls hl => ?_)
    refine lv_iload X.1 X.2.1 dX3_fillFrom_42 (lv_at hl 0 rfl) ?_
    refine r_if_ge (tgt := 50) X dX3_fillFrom_44 (by decide) (fun q => ?_) (fun q => ?_)
    · replace hf := it_inv q hf
      refine lv_iload X.1 X.2.1 dX3_fillFrom_50 (lv_at hl 8 rfl) ?_
      refine lv_iload X.1 X.2.1 dX3_fillFrom_52 (lv_at hl 5 rfl) ?_
      refine r_icmp_le (tgt := 75) X dX3_fillFrom_54 (by decide) (fun q => ?_) (fun q => ?_)
      · replace hf := it_inv q hf
        exact a_X3_fillFrom_75 X h23 σ H locs ls l1 l2 l3 l4 l5 l6_2 l7 l8 hk_l1 hk_l2 hP hS hf (lv_sub hl [1, 2, 3, 4, 5, 6, 0, 7, 8] rfl)
      · replace hf := ie_inv q hf
        refine lv_aload_n X.1 X.2.1 dX3_fillFrom_57 rfl (lv_at hl 2 rfl) ?_
        refine lv_iload X.1 X.2.1 dX3_fillFrom_58 (lv_at hl 8 rfl) ?_
        refine r_iconst X 2 dX3_fillFrom_60 ?_
        obtain ⟨r3, hr3, hf⟩ := bd_inv hf
        refine k_X5_isMarked X hP hS hl.1 hk_l1 hr3 (tb t_706 rfl) (by decide) (Nat.le_of_ble_eq_true rfl) dX3_fillFrom_61 (fun H locs hP hS => ?_)
        refine r_if_eq (tgt := 75) X dX3_fillFrom_64 (by decide) (fun q => ?_) (fun q => ?_)
        · replace hf := it_inv q hf
          exact a_X3_fillFrom_75 X h23 σ H locs ls l1 l2 l3 l4 l5 l6_2 l7 l8 hk_l1 hk_l2 hP hS hf (lv_sub hl [1, 2, 3, 4, 5, 6, 0, 7, 8] rfl)
        · replace hf := ie_inv q hf
          refine lv_iload X.1 X.2.1 dX3_fillFrom_67 (lv_at hl 7 rfl) ?_
          refine lv_aload_n X.1 X.2.1 dX3_fillFrom_69 rfl (lv_at hl 3 rfl) ?_
          refine r_iconst X 3 dX3_fillFrom_70 ?_
          obtain ⟨j4, hij4, hjj4, hlj4, hf⟩ := ag_inv hf
          refine r_iald X hP hk_l2 rfl hij4 hjj4 dX3_fillFrom_71 ?_
          refine r_iadd X dX3_fillFrom_72 ?_
          obtain ⟨l7_5, el7_5, hf⟩ := lt_inv hf
          refine r_eqi el7_5 ?_
          refine lv_istore (lv' := [(7, .int (i32 l7_5)), (6, .int (i32 l6_2)), (0, .ref (gh G + 54)), (1, .ref (gh G + l1)), (2, .ref (gh G + l2)), (3, .int (i32 l3)), (4, .int (i32 l4)), (5, .int (i32 l5)), (8, .int (i32 l8))]) X.1 X.2.1 dX3_fillFrom_73 hl (by decide) rfl (fun ls hl => ?_)
          exact a_X3_fillFrom_75 X h23 σ H locs ls l1 l2 l3 l4 l5 l6_2 l7_5 l8 hk_l1 hk_l2 hP hS hf (lv_sub hl [2, 3, 4, 5, 6, 7, 1, 0, 8] rfl)
    · replace hf := ie_inv q hf
      refine lv_goto (tgt := 174) X.1 X.2.1 dX3_fillFrom_47 (by decide) ?_
      cases so_inv hf
      exact r_vret X hP hS dX3_fillFrom_174
theorem al_X3_fillFrom_23 {p : Program} {l : Launch} {e : Env} {R : Room} {s : State} {m : MethodId} {args : Array Value} {below : List Frame} {meth : Method} {c : Code} {G : GT} {τ : Mem} (X : CX p R s m args meth c cX3_fillFrom 11 RX3 none 2 82 G) : ∀ n, S_X3_fillFrom_23 (X3_fillFrom_L23 n) p l e R s m args below meth c G τ := by
  intro n
  induction n with
  | zero =>
    intro σ H locs ls l1 l2 l3 l4 l5 l6 l7 l8 hk_l1 hk_l2 hP hS hf hl
    cases hf
  | succ n ih => exact a_X3_fillFrom_23 X ih
set_option maxHeartbeats 4000000 in
theorem a_X3_fillFrom_0 {p : Program} {l : Launch} {e : Env} {R : Room} {s : State} {m : MethodId} {args : Array Value} {below : List Frame} {meth : Method} {c : Code} {G : GT} {τ : Mem} (X : CX p R s m args meth c cX3_fillFrom 11 RX3 none 2 82 G) : S_X3_fillFrom_0 (X3_fillFrom) p l e R s m args below meth c G τ := by
  intro σ H locs ls l1 l2 l3 l4 l5 hk_l1 hk_l2 hP hS hf hl
  unfold X3_fillFrom at hf
  refine lv_aload_n X.1 X.2.1 dX3_fillFrom_0 rfl (lv_at hl 2 rfl) ?_
  refine r_iconst X 0 dX3_fillFrom_1 ?_
  obtain ⟨j1, hij1, hjj1, hlj1, hf⟩ := ag_inv hf
  refine r_iald X hP hk_l2 rfl hij1 hjj1 dX3_fillFrom_2 ?_
  obtain ⟨l6_2, el6_2, hf⟩ := lt_inv hf
  refine r_eqi el6_2 ?_
  refine lv_istore (lv' := [(6, .int (i32 l6_2)), (0, .ref (gh G + 54)), (1, .ref (gh G + l1)), (2, .ref (gh G + l2)), (3, .int (i32 l3)), (4, .int (i32 l4)), (5, .int (i32 l5))]) X.1 X.2.1 dX3_fillFrom_3 hl (by decide) rfl (fun ls hl => ?_)
  refine r_iconst X 0 dX3_fillFrom_5 ?_
  refine lv_istore (lv' := [(7, .int (i32 0)), (6, .int (i32 l6_2)), (0, .ref (gh G + 54)), (1, .ref (gh G + l1)), (2, .ref (gh G + l2)), (3, .int (i32 l3)), (4, .int (i32 l4)), (5, .int (i32 l5))]) X.1 X.2.1 dX3_fillFrom_6 hl (by decide) rfl (fun ls hl => ?_)
  refine lv_aload_n X.1 X.2.1 dX3_fillFrom_8 rfl (lv_at hl 2 rfl) ?_
  refine g_3_1 (r := 56) X hP ks_3 rfl (tb t_263 rfl) dX3_fillFrom_9 ?_
  refine lv_iload X.1 X.2.1 dX3_fillFrom_12 (lv_at hl 6 rfl) ?_
  refine lv_iload X.1 X.2.1 dX3_fillFrom_14 (lv_at hl 6 rfl) ?_
  refine r_iconst X 1 dX3_fillFrom_16 ?_
  refine r_isub X dX3_fillFrom_17 ?_
  obtain ⟨j3, hij3, hjj3, hlj3, hf⟩ := ag_inv hf
  refine r_iast X hP hS (ch_3_1 ks_3).1 (ch_3_1 ks_3).2 hij3 hjj3 dX3_fillFrom_18 (fun H locs hP hS => ?_)
  obtain ⟨s4, es4, hf⟩ := lt_inv hf
  rw [es4] at hP
  refine lv_iload X.1 X.2.1 dX3_fillFrom_19 (lv_at hl 6 rfl) ?_
  refine lv_istore (lv' := [(8, .int (i32 l4)), (7, .int (i32 0)), (6, .int (i32 l6_2)), (0, .ref (gh G + 54)), (1, .ref (gh G + l1)), (2, .ref (gh G + l2)), (3, .int (i32 l3)), (4, .int (i32 l4)), (5, .int (i32 l5))]) X.1 X.2.1 dX3_fillFrom_21 hl (by decide) rfl (fun ls hl => ?_)
  exact al_X3_fillFrom_23 X 5000 s4 H locs ls l1 l2 l3 l4 l5 l6_2 0 l4 hk_l1 hk_l2 hP hS hf (lv_sub hl [3, 4, 5, 6, 7, 8, 2, 1, 0] rfl)
set_option maxHeartbeats 4000000 in
theorem c_X3_fillFrom {l : Launch} {G : GT} {σ τ : Mem} {l1 : Nat} {l2 : Nat} {l3 : Int} {l4 : Int} {l5 : Int} (hk_l1 : kd l1 = 5) (hk_l2 : kd l2 = 13) (hf : X3_fillFrom σ l1 l2 l3 l4 l5 = some τ) : CT l yX3_fillFrom cX3_fillFrom 11 none 2 82 G [.ref (gh G + 54), .ref (gh G + l1), .ref (gh G + l2), .int (i32 l3), .int (i32 l4), .int (i32 l5)] σ τ none := by
  refine CT.mk (own := RX3) (by decide) rfl (Nat.le_of_ble_eq_true rfl) ?_
  intro p e s m below meth c ls X hP hS hl
  have hl : lv_has ls 11 [(0, .ref (gh G + 54)), (1, .ref (gh G + l1)), (2, .ref (gh G + l2)), (3, .int (i32 l3)), (4, .int (i32 l4)), (5, .int (i32 l5))] := hl
  exact a_X3_fillFrom_0 X σ s.heap [] ls l1 l2 l3 l4 l5 hk_l1 hk_l2 hP hS hf hl
theorem k_X3_fillFrom {p : Program} {l : Launch} {e : Env} {R : Room} {s : State} {m : MethodId} {args : Array Value} {below : List Frame} {meth : Method} {c : Code} {H : Heap} {locs : List Loc} {Q : State → Prop} {cc : ByteArray} {nL : Nat} {own : String} {ret : Option FieldType} {fF fL : Nat} {G : GT} {pc idx : Nat} {ls : Array Slot} {rest : List Value} {σ τ : Mem} {l1 : Nat} {l2 : Nat} {l3 : Int} {l4 : Int} {l5 : Int} (X : CX p R s m args meth c cc nL own ret fF fL G) (hP : PW G σ H) (hS : va_S (AA G) s.heap H locs) (hls : ls.size = nL) (hk_l1 : kd l1 = 5) (hk_l2 : kd l2 = 13) (hf : X3_fillFrom σ l1 l2 l3 l4 l5 = some τ) (h1 : Cond.methodLink own idx yX3_fillFrom ∈ TB) (hR : 2 + 1 ≤ fF ∧ 8 + (11 + 11) + 82 ≤ fL) (hW : (rest.map fun v => v.category).sum ≤ 8) (hd : decode cc pc = .ok (.invokevirtual idx, 3)) (kk : ∀ (H1 : Heap) (locs1 : List Loc), PW G τ H1 → va_S (AA G) s.heap H1 locs1 → W p l e R s m args below meth c H1 locs1 0 0 Q (F0 m (pc + 3) ls (rest))) : W p l e R s m args below meth c H locs 0 0 Q (F0 m pc ls (.int (i32 l5) :: .int (i32 l4) :: .int (i32 l3) :: .ref (gh G + l2) :: .ref (gh G + l1) :: .ref (gh G + 54) :: rest)) := r_callV (n := 5) X hP hS hls (c_X3_fillFrom hk_l1 hk_l2 hf) h1 (tb t_702 rfl) (tb t_703 rfl) (tb t_83 rfl) (tb t_704 rfl) (by decide +kernel) hR (r_recv X hP (kd_lt ks_3 (by decide)) (cE_3 ks_3) rfl) rfl rfl hW hd kk
/-! X3_fill -/
theorem dX3_fill_0 : decode cX3_fill 0 = .ok (.iload 4, 2) := by decide +kernel
theorem dX3_fill_2 : decode cX3_fill 2 = .ok (.istore 6, 2) := by decide +kernel
theorem dX3_fill_4 : decode cX3_fill 4 = .ok (.iload 6, 2) := by decide +kernel
theorem dX3_fill_6 : decode cX3_fill 6 = .ok (.iload 5, 2) := by decide +kernel
theorem dX3_fill_8 : decode cX3_fill 8 = .ok (.if_icmp .gt 20, 3) := by decide +kernel
theorem dX3_fill_11 : decode cX3_fill 11 = .ok (.aload_n 0, 1) := by decide +kernel
theorem dX3_fill_12 : decode cX3_fill 12 = .ok (.aload_n 1, 1) := by decide +kernel
theorem dX3_fill_13 : decode cX3_fill 13 = .ok (.aload_n 2, 1) := by decide +kernel
theorem dX3_fill_14 : decode cX3_fill 14 = .ok (.iload_n 3, 1) := by decide +kernel
theorem dX3_fill_15 : decode cX3_fill 15 = .ok (.iload 6, 2) := by decide +kernel
theorem dX3_fill_17 : decode cX3_fill 17 = .ok (.iload 5, 2) := by decide +kernel
theorem dX3_fill_19 : decode cX3_fill 19 = .ok (.invokevirtual 21, 3) := by decide +kernel
theorem dX3_fill_22 : decode cX3_fill 22 = .ok (.iinc 6 1, 3) := by decide +kernel
theorem dX3_fill_25 : decode cX3_fill 25 = .ok (.goto (-21), 3) := by decide +kernel
theorem dX3_fill_28 : decode cX3_fill 28 = .ok (.return_, 1) := by decide +kernel
def S_X3_fill_4 (fn : Mem → Nat → Nat → Int → Int → Int → Option (Mem)) (p : Program) (l : Launch) (e : Env) (R : Room) (s : State) (m : MethodId) (args : Array Value) (below : List Frame) (meth : Method) (c : Code) (G : GT) (τ : Mem) : Prop := ∀ (σ : Mem) (H : Heap) (locs : List Loc) (ls : Array Slot) (l1 : Nat) (l2 : Nat) (l3 : Int) (l5 : Int) (l6 : Int), kd l1 = 5 → kd l2 = 13 → PW G σ H → va_S (AA G) s.heap H locs → fn σ l1 l2 l3 l5 l6 = some τ → lv_has ls 7 [(0, .ref (gh G + 54)), (1, .ref (gh G + l1)), (2, .ref (gh G + l2)), (3, .int (i32 l3)), (5, .int (i32 l5)), (6, .int (i32 l6))] → W p l e R s m args below meth c H locs 0 0 (MQ below (QM G none τ) args s 0 0 (AA G)) (F0 m 4 ls [])
def X3_fill_B4 (rec4 : Mem → Nat → Nat → Int → Int → Int → Option (Mem)) (σ : Mem) (l1 : Nat) (l2 : Nat) (l3 : Int) (l5 : Int) (l6 : Int) : Option (Mem) :=
  if w32 l5 < w32 l6 then
    some σ
  else
  bd (X3_fillFrom σ l1 l2 l3 l6 l5) fun s2 =>
  lt (l6 + 1) fun l6_3 =>
  rec4 s2 l1 l2 l3 l5 l6_3
def X3_fill_L4 : Nat → Mem → Nat → Nat → Int → Int → Int → Option (Mem)
  | 0 => fun _ _ _ _ _ _ => none
  | n + 1 => X3_fill_B4 (X3_fill_L4 n)
def X3_fill (σ : Mem) (l1 : Nat) (l2 : Nat) (l3 : Int) (l4 : Int) (l5 : Int) : Option (Mem) :=
  X3_fill_L4 5000 σ l1 l2 l3 l5 l4
def S_X3_fill_0 (fn : Mem → Nat → Nat → Int → Int → Int → Option (Mem)) (p : Program) (l : Launch) (e : Env) (R : Room) (s : State) (m : MethodId) (args : Array Value) (below : List Frame) (meth : Method) (c : Code) (G : GT) (τ : Mem) : Prop := ∀ (σ : Mem) (H : Heap) (locs : List Loc) (ls : Array Slot) (l1 : Nat) (l2 : Nat) (l3 : Int) (l4 : Int) (l5 : Int), kd l1 = 5 → kd l2 = 13 → PW G σ H → va_S (AA G) s.heap H locs → fn σ l1 l2 l3 l4 l5 = some τ → lv_has ls 7 [(0, .ref (gh G + 54)), (1, .ref (gh G + l1)), (2, .ref (gh G + l2)), (3, .int (i32 l3)), (4, .int (i32 l4)), (5, .int (i32 l5))] → W p l e R s m args below meth c H locs 0 0 (MQ below (QM G none τ) args s 0 0 (AA G)) (F0 m 0 ls [])
set_option maxHeartbeats 4000000 in
theorem a_X3_fill_4 {p : Program} {l : Launch} {e : Env} {R : Room} {s : State} {m : MethodId} {args : Array Value} {below : List Frame} {meth : Method} {c : Code} {G : GT} {τ : Mem} {rec4 : Mem → Nat → Nat → Int → Int → Int → Option (Mem)} (X : CX p R s m args meth c cX3_fill 7 RX3 none 3 112 G) (h4 : S_X3_fill_4 rec4 p l e R s m args below meth c G τ) : S_X3_fill_4 (X3_fill_B4 rec4) p l e R s m args below meth c G τ := by
  intro σ H locs ls l1 l2 l3 l5 l6 hk_l1 hk_l2 hP hS hf hl
  unfold X3_fill_B4 at hf
  refine lv_iload X.1 X.2.1 dX3_fill_4 (lv_at hl 5 rfl) ?_
  refine lv_iload X.1 X.2.1 dX3_fill_6 (lv_at hl 4 rfl) ?_
  refine r_icmp_gt (tgt := 28) X dX3_fill_8 (by decide) (fun q => ?_) (fun q => ?_)
  · replace hf := it_inv q hf
    cases so_inv hf
    exact r_vret X hP hS dX3_fill_28
  · replace hf := ie_inv q hf
    refine lv_aload_n X.1 X.2.1 dX3_fill_11 rfl (lv_at hl 0 rfl) ?_
    refine lv_aload_n X.1 X.2.1 dX3_fill_12 rfl (lv_at hl 1 rfl) ?_
    refine lv_aload_n X.1 X.2.1 dX3_fill_13 rfl (lv_at hl 2 rfl) ?_
    refine lv_iload_n X.1 X.2.1 dX3_fill_14 rfl (lv_at hl 3 rfl) ?_
    refine lv_iload X.1 X.2.1 dX3_fill_15 (lv_at hl 5 rfl) ?_
    refine lv_iload X.1 X.2.1 dX3_fill_17 (lv_at hl 4 rfl) ?_
    obtain ⟨s2, hr1, hf⟩ := bd_inv hf
    refine k_X3_fillFrom X hP hS hl.1 hk_l1 hk_l2 hr1 (tb t_733 rfl) (by decide) (Nat.le_of_ble_eq_true rfl) dX3_fill_19 (fun H locs hP hS => ?_)
    obtain ⟨l6_3, el6_3, hf⟩ := lt_inv hf
    refine lv_iinc (v := i32 l6_3) (lv' := [(6, .int (i32 l6_3)), (0, .ref (gh G + 54)), (1, .ref (gh G + l1)), (2, .ref (gh G + l2)), (3, .int (i32 l3)), (5, .int (i32 l5))]) X.1 X.2.1 dX3_fill_22 hl (k := 5) rfl (by rw [← el6_3]; exact i32_add _ _) (by decide) rfl (fun ls hl => ?_)
    refine lv_goto (tgt := 4) X.1 X.2.1 dX3_fill_25 (by decide) ?_
    exact h4 s2 H locs ls l1 l2 l3 l5 l6_3 hk_l1 hk_l2 hP hS hf (lv_sub hl [1, 2, 3, 4, 5, 0] rfl)
theorem al_X3_fill_4 {p : Program} {l : Launch} {e : Env} {R : Room} {s : State} {m : MethodId} {args : Array Value} {below : List Frame} {meth : Method} {c : Code} {G : GT} {τ : Mem} (X : CX p R s m args meth c cX3_fill 7 RX3 none 3 112 G) : ∀ n, S_X3_fill_4 (X3_fill_L4 n) p l e R s m args below meth c G τ := by
  intro n
  induction n with
  | zero =>
    intro σ H locs ls l1 l2 l3 l5 l6 hk_l1 hk_l2 hP hS hf hl
    cases hf
  | succ n ih => exact a_X3_fill_4 X ih
set_option maxHeartbeats 4000000 in
theorem a_X3_fill_0 {p : Program} {l : Launch} {e : Env} {R : Room} {s : State} {m : MethodId} {args : Array Value} {below : List Frame} {meth : Method} {c : Code} {G : GT} {τ : Mem} (X : CX p R s m args meth c cX3_fill 7 RX3 none 3 112 G) : S_X3_fill_0 (X3_fill) p l e R s m args below meth c G τ := by
  intro σ H locs ls l1 l2 l3 l4 l5 hk_l1 hk_l2 hP hS hf hl
  unfold X3_fill at hf
  refine lv_iload X.1 X.2.1 dX3_fill_0 (lv_at hl 4 rfl) ?_
  refine lv_istore (lv' := [(6, .int (i32 l4)), (0, .ref (gh G + 54)), (1, .ref (gh G + l1)), (2, .ref (gh G + l2)), (3, .int (i32 l3)), (4, .int (i32 l4)), (5, .int (i32 l5))]) X.1 X.2.1 dX3_fill_2 hl (by decide) rfl (fun ls hl => ?_)
  exact al_X3_fill_4 X 5000 σ H locs ls l1 l2 l3 l5 l4 hk_l1 hk_l2 hP hS hf (lv_sub hl [1, 2, 3, 4, 6, 0] rfl)
set_option maxHeartbeats 4000000 in
theorem c_X3_fill {l : Launch} {G : GT} {σ τ : Mem} {l1 : Nat} {l2 : Nat} {l3 : Int} {l4 : Int} {l5 : Int} (hk_l1 : kd l1 = 5) (hk_l2 : kd l2 = 13) (hf : X3_fill σ l1 l2 l3 l4 l5 = some τ) : CT l yX3_fill cX3_fill 7 none 3 112 G [.ref (gh G + 54), .ref (gh G + l1), .ref (gh G + l2), .int (i32 l3), .int (i32 l4), .int (i32 l5)] σ τ none := by
  refine CT.mk (own := RX3) (by decide) rfl (Nat.le_of_ble_eq_true rfl) ?_
  intro p e s m below meth c ls X hP hS hl
  have hl : lv_has ls 7 [(0, .ref (gh G + 54)), (1, .ref (gh G + l1)), (2, .ref (gh G + l2)), (3, .int (i32 l3)), (4, .int (i32 l4)), (5, .int (i32 l5))] := hl
  exact a_X3_fill_0 X σ s.heap [] ls l1 l2 l3 l4 l5 hk_l1 hk_l2 hP hS hf hl
theorem k_X3_fill {p : Program} {l : Launch} {e : Env} {R : Room} {s : State} {m : MethodId} {args : Array Value} {below : List Frame} {meth : Method} {c : Code} {H : Heap} {locs : List Loc} {Q : State → Prop} {cc : ByteArray} {nL : Nat} {own : String} {ret : Option FieldType} {fF fL : Nat} {G : GT} {pc idx : Nat} {ls : Array Slot} {rest : List Value} {σ τ : Mem} {l1 : Nat} {l2 : Nat} {l3 : Int} {l4 : Int} {l5 : Int} (X : CX p R s m args meth c cc nL own ret fF fL G) (hP : PW G σ H) (hS : va_S (AA G) s.heap H locs) (hls : ls.size = nL) (hk_l1 : kd l1 = 5) (hk_l2 : kd l2 = 13) (hf : X3_fill σ l1 l2 l3 l4 l5 = some τ) (h1 : Cond.methodLink own idx yX3_fill ∈ TB) (hR : 3 + 1 ≤ fF ∧ 8 + (7 + 11) + 112 ≤ fL) (hW : (rest.map fun v => v.category).sum ≤ 8) (hd : decode cc pc = .ok (.invokevirtual idx, 3)) (kk : ∀ (H1 : Heap) (locs1 : List Loc), PW G τ H1 → va_S (AA G) s.heap H1 locs1 → W p l e R s m args below meth c H1 locs1 0 0 Q (F0 m (pc + 3) ls (rest))) : W p l e R s m args below meth c H locs 0 0 Q (F0 m pc ls (.int (i32 l5) :: .int (i32 l4) :: .int (i32 l3) :: .ref (gh G + l2) :: .ref (gh G + l1) :: .ref (gh G + 54) :: rest)) := r_callV (n := 5) X hP hS hls (c_X3_fill hk_l1 hk_l2 hf) h1 (tb t_730 rfl) (tb t_731 rfl) (tb t_83 rfl) (tb t_732 rfl) (by decide +kernel) hR (r_recv X hP (kd_lt ks_3 (by decide)) (cE_3 ks_3) rfl) rfl rfl hW hd kk
/-! X3_cheapestFrom -/
theorem dX3_cheapestFrom_0 : decode cX3_cheapestFrom 0 = .ok (.ldc 43, 2) := by decide +kernel
theorem dX3_cheapestFrom_2 : decode cX3_cheapestFrom 2 = .ok (.istore 4, 2) := by decide +kernel
theorem dX3_cheapestFrom_4 : decode cX3_cheapestFrom 4 = .ok (.iload_n 2, 1) := by decide +kernel
theorem dX3_cheapestFrom_5 : decode cX3_cheapestFrom 5 = .ok (.aload_n 0, 1) := by decide +kernel
theorem dX3_cheapestFrom_6 : decode cX3_cheapestFrom 6 = .ok (.getfield 15, 3) := by decide +kernel
theorem dX3_cheapestFrom_9 : decode cX3_cheapestFrom 9 = .ok (.iload_n 1, 1) := by decide +kernel
theorem dX3_cheapestFrom_10 : decode cX3_cheapestFrom 10 = .ok (.iaload, 1) := by decide +kernel
theorem dX3_cheapestFrom_11 : decode cX3_cheapestFrom 11 = .ok (.invokestatic 48, 3) := by decide +kernel
theorem dX3_cheapestFrom_14 : decode cX3_cheapestFrom 14 = .ok (.istore 5, 2) := by decide +kernel
theorem dX3_cheapestFrom_16 : decode cX3_cheapestFrom 16 = .ok (.iload_n 1, 1) := by decide +kernel
theorem dX3_cheapestFrom_17 : decode cX3_cheapestFrom 17 = .ok (.bipush 40, 2) := by decide +kernel
theorem dX3_cheapestFrom_19 : decode cX3_cheapestFrom 19 = .ok (.imul, 1) := by decide +kernel
theorem dX3_cheapestFrom_20 : decode cX3_cheapestFrom 20 = .ok (.istore 6, 2) := by decide +kernel
theorem dX3_cheapestFrom_22 : decode cX3_cheapestFrom 22 = .ok (.iload_n 3, 1) := by decide +kernel
theorem dX3_cheapestFrom_23 : decode cX3_cheapestFrom 23 = .ok (.iconst 1, 1) := by decide +kernel
theorem dX3_cheapestFrom_24 : decode cX3_cheapestFrom 24 = .ok (.isub, 1) := by decide +kernel
theorem dX3_cheapestFrom_25 : decode cX3_cheapestFrom 25 = .ok (.bipush 41, 2) := by decide +kernel
theorem dX3_cheapestFrom_27 : decode cX3_cheapestFrom 27 = .ok (.imul, 1) := by decide +kernel
theorem dX3_cheapestFrom_28 : decode cX3_cheapestFrom 28 = .ok (.iconst 1, 1) := by decide +kernel
theorem dX3_cheapestFrom_29 : decode cX3_cheapestFrom 29 = .ok (.iadd, 1) := by decide +kernel
theorem dX3_cheapestFrom_30 : decode cX3_cheapestFrom 30 = .ok (.istore 7, 2) := by decide +kernel
theorem dX3_cheapestFrom_32 : decode cX3_cheapestFrom 32 = .ok (.iload_n 1, 1) := by decide +kernel
theorem dX3_cheapestFrom_33 : decode cX3_cheapestFrom 33 = .ok (.istore 8, 2) := by decide +kernel
theorem dX3_cheapestFrom_35 : decode cX3_cheapestFrom 35 = .ok (.iload 8, 2) := by decide +kernel
theorem dX3_cheapestFrom_37 : decode cX3_cheapestFrom 37 = .ok (.iload 5, 2) := by decide +kernel
theorem dX3_cheapestFrom_39 : decode cX3_cheapestFrom 39 = .ok (.if_icmp .gt 67, 3) := by decide +kernel
theorem dX3_cheapestFrom_42 : decode cX3_cheapestFrom 42 = .ok (.aload_n 0, 1) := by decide +kernel
theorem dX3_cheapestFrom_43 : decode cX3_cheapestFrom 43 = .ok (.getfield 9, 3) := by decide +kernel
theorem dX3_cheapestFrom_46 : decode cX3_cheapestFrom 46 = .ok (.iload 6, 2) := by decide +kernel
theorem dX3_cheapestFrom_48 : decode cX3_cheapestFrom 48 = .ok (.iload 8, 2) := by decide +kernel
theorem dX3_cheapestFrom_50 : decode cX3_cheapestFrom 50 = .ok (.iadd, 1) := by decide +kernel
theorem dX3_cheapestFrom_51 : decode cX3_cheapestFrom 51 = .ok (.iaload, 1) := by decide +kernel
theorem dX3_cheapestFrom_52 : decode cX3_cheapestFrom 52 = .ok (.ldc 43, 2) := by decide +kernel
theorem dX3_cheapestFrom_54 : decode cX3_cheapestFrom 54 = .ok (.if_icmp .eq 46, 3) := by decide +kernel
theorem dX3_cheapestFrom_57 : decode cX3_cheapestFrom 57 = .ok (.aload_n 0, 1) := by decide +kernel
theorem dX3_cheapestFrom_58 : decode cX3_cheapestFrom 58 = .ok (.getfield 18, 3) := by decide +kernel
theorem dX3_cheapestFrom_61 : decode cX3_cheapestFrom 61 = .ok (.iload 7, 2) := by decide +kernel
theorem dX3_cheapestFrom_63 : decode cX3_cheapestFrom 63 = .ok (.iload 8, 2) := by decide +kernel
theorem dX3_cheapestFrom_65 : decode cX3_cheapestFrom 65 = .ok (.iadd, 1) := by decide +kernel
theorem dX3_cheapestFrom_66 : decode cX3_cheapestFrom 66 = .ok (.iaload, 1) := by decide +kernel
theorem dX3_cheapestFrom_67 : decode cX3_cheapestFrom 67 = .ok (.ldc 43, 2) := by decide +kernel
theorem dX3_cheapestFrom_69 : decode cX3_cheapestFrom 69 = .ok (.if_icmp .eq 31, 3) := by decide +kernel
theorem dX3_cheapestFrom_72 : decode cX3_cheapestFrom 72 = .ok (.iload 4, 2) := by decide +kernel
theorem dX3_cheapestFrom_74 : decode cX3_cheapestFrom 74 = .ok (.aload_n 0, 1) := by decide +kernel
theorem dX3_cheapestFrom_75 : decode cX3_cheapestFrom 75 = .ok (.getfield 9, 3) := by decide +kernel
theorem dX3_cheapestFrom_78 : decode cX3_cheapestFrom 78 = .ok (.iload 6, 2) := by decide +kernel
theorem dX3_cheapestFrom_80 : decode cX3_cheapestFrom 80 = .ok (.iload 8, 2) := by decide +kernel
theorem dX3_cheapestFrom_82 : decode cX3_cheapestFrom 82 = .ok (.iadd, 1) := by decide +kernel
theorem dX3_cheapestFrom_83 : decode cX3_cheapestFrom 83 = .ok (.iaload, 1) := by decide +kernel
theorem dX3_cheapestFrom_84 : decode cX3_cheapestFrom 84 = .ok (.aload_n 0, 1) := by decide +kernel
theorem dX3_cheapestFrom_85 : decode cX3_cheapestFrom 85 = .ok (.getfield 18, 3) := by decide +kernel
theorem dX3_cheapestFrom_88 : decode cX3_cheapestFrom 88 = .ok (.iload 7, 2) := by decide +kernel
theorem dX3_cheapestFrom_90 : decode cX3_cheapestFrom 90 = .ok (.iload 8, 2) := by decide +kernel
theorem dX3_cheapestFrom_92 : decode cX3_cheapestFrom 92 = .ok (.iadd, 1) := by decide +kernel
theorem dX3_cheapestFrom_93 : decode cX3_cheapestFrom 93 = .ok (.iaload, 1) := by decide +kernel
theorem dX3_cheapestFrom_94 : decode cX3_cheapestFrom 94 = .ok (.iadd, 1) := by decide +kernel
theorem dX3_cheapestFrom_95 : decode cX3_cheapestFrom 95 = .ok (.invokestatic 48, 3) := by decide +kernel
theorem dX3_cheapestFrom_98 : decode cX3_cheapestFrom 98 = .ok (.istore 4, 2) := by decide +kernel
theorem dX3_cheapestFrom_100 : decode cX3_cheapestFrom 100 = .ok (.iinc 8 1, 3) := by decide +kernel
theorem dX3_cheapestFrom_103 : decode cX3_cheapestFrom 103 = .ok (.goto (-68), 3) := by decide +kernel
theorem dX3_cheapestFrom_106 : decode cX3_cheapestFrom 106 = .ok (.iload 4, 2) := by decide +kernel
theorem dX3_cheapestFrom_108 : decode cX3_cheapestFrom 108 = .ok (.ireturn, 1) := by decide +kernel
def S_X3_cheapestFrom_35 (fn : Int → Int → Int → Int → Int → Option (Int)) (p : Program) (l : Launch) (e : Env) (R : Room) (s : State) (m : MethodId) (args : Array Value) (below : List Frame) (meth : Method) (c : Code) (G : GT) (σ : Mem) (res : Int) : Prop := ∀ (H : Heap) (locs : List Loc) (ls : Array Slot) (l4 : Int) (l5 : Int) (l6 : Int) (l7 : Int) (l8 : Int), PW G σ H → va_S (AA G) s.heap H locs → fn l4 l5 l6 l7 l8 = some res → lv_has ls 9 [(0, .ref (gh G + 54)), (4, .int (i32 l4)), (5, .int (i32 l5)), (6, .int (i32 l6)), (7, .int (i32 l7)), (8, .int (i32 l8))] → W p l e R s m args below meth c H locs 0 0 (MQ below (QM G (some (.int (i32 res))) σ) args s 0 0 (AA G)) (F0 m 35 ls [])
def X3_cheapestFrom_B100 (rec35 : Int → Int → Int → Int → Int → Option (Int)) (σ : Mem) (l4 : Int) (l5 : Int) (l6 : Int) (l7 : Int) (l8 : Int) : Option (Int) :=
  lt (l8 + 1) fun l8_1 =>
  rec35 l4 l5 l6 l7 l8_1
def S_X3_cheapestFrom_100 (fn : Int → Int → Int → Int → Int → Option (Int)) (p : Program) (l : Launch) (e : Env) (R : Room) (s : State) (m : MethodId) (args : Array Value) (below : List Frame) (meth : Method) (c : Code) (G : GT) (σ : Mem) (res : Int) : Prop := ∀ (H : Heap) (locs : List Loc) (ls : Array Slot) (l4 : Int) (l5 : Int) (l6 : Int) (l7 : Int) (l8 : Int), PW G σ H → va_S (AA G) s.heap H locs → fn l4 l5 l6 l7 l8 = some res → lv_has ls 9 [(0, .ref (gh G + 54)), (4, .int (i32 l4)), (5, .int (i32 l5)), (6, .int (i32 l6)), (7, .int (i32 l7)), (8, .int (i32 l8))] → W p l e R s m args below meth c H locs 0 0 (MQ below (QM G (some (.int (i32 res))) σ) args s 0 0 (AA G)) (F0 m 100 ls [])
def X3_cheapestFrom_B35 (rec35 : Int → Int → Int → Int → Int → Option (Int)) (σ : Mem) (l4 : Int) (l5 : Int) (l6 : Int) (l7 : Int) (l8 : Int) : Option (Int) :=
  if w32 l5 < w32 l8 then
    some l4
  else
  ag 1600 (l6 + l8) fun j1 =>
  if w32 (σ 55 j1) = w32 2147483647 then
    X3_cheapestFrom_B100 rec35 σ l4 l5 l6 l7 l8
  else
  ag 287 (l7 + l8) fun j2 =>
  if w32 (σ 57 j2) = w32 2147483647 then
    X3_cheapestFrom_B100 rec35 σ l4 l5 l6 l7 l8
  else
  ag 1600 (l6 + l8) fun j3 =>
  ag 287 (l7 + l8) fun j4 =>
  lt (imn l4 ((σ 55 j3) + (σ 57 j4))) fun l4_5 =>
  X3_cheapestFrom_B100 rec35 σ l4_5 l5 l6 l7 l8
def X3_cheapestFrom_L35 (σ : Mem) : Nat → Int → Int → Int → Int → Int → Option (Int)
  | 0 => fun _ _ _ _ _ => none
  | n + 1 => X3_cheapestFrom_B35 (X3_cheapestFrom_L35 σ n) σ
def X3_cheapestFrom (σ : Mem) (l1 : Int) (l2 : Int) (l3 : Int) : Option (Int) :=
  ag 40 l1 fun j1 =>
  lt (imn l2 (σ 56 j1)) fun l5_2 =>
  lt (l1 * 40) fun l6_3 =>
  lt (((l3 - 1) * 41) + 1) fun l7_4 =>
  X3_cheapestFrom_L35 σ 5000 2147483647 l5_2 l6_3 l7_4 l1
def S_X3_cheapestFrom_0 (fn : Int → Int → Int → Option (Int)) (p : Program) (l : Launch) (e : Env) (R : Room) (s : State) (m : MethodId) (args : Array Value) (below : List Frame) (meth : Method) (c : Code) (G : GT) (σ : Mem) (res : Int) : Prop := ∀ (H : Heap) (locs : List Loc) (ls : Array Slot) (l1 : Int) (l2 : Int) (l3 : Int), PW G σ H → va_S (AA G) s.heap H locs → fn l1 l2 l3 = some res → lv_has ls 9 [(0, .ref (gh G + 54)), (1, .int (i32 l1)), (2, .int (i32 l2)), (3, .int (i32 l3))] → W p l e R s m args below meth c H locs 0 0 (MQ below (QM G (some (.int (i32 res))) σ) args s 0 0 (AA G)) (F0 m 0 ls [])
set_option maxHeartbeats 4000000 in
theorem a_X3_cheapestFrom_100 {p : Program} {l : Launch} {e : Env} {R : Room} {s : State} {m : MethodId} {args : Array Value} {below : List Frame} {meth : Method} {c : Code} {G : GT} {σ : Mem} {res : Int} {rec35 : Int → Int → Int → Int → Int → Option (Int)} (X : CX p R s m args meth c cX3_cheapestFrom 9 RX3 (some FieldType.int) 1 60 G) (h35 : S_X3_cheapestFrom_35 rec35 p l e R s m args below meth c G σ res) : S_X3_cheapestFrom_100 (X3_cheapestFrom_B100 rec35 σ) p l e R s m args below meth c G σ res := by
  intro H locs ls l4 l5 l6 l7 l8 hP hS hf hl
  unfold X3_cheapestFrom_B100 at hf
  obtain ⟨l8_1, el8_1, hf⟩ := lt_inv hf
  refine lv_iinc (v := i32 l8_1) (lv' := [(8, .int (i32 l8_1)), (0, .ref (gh G + 54)), (4, .int (i32 l4)), (5, .int (i32 l5)), (6, .int (i32 l6)), (7, .int (i32 l7))]) X.1 X.2.1 dX3_cheapestFrom_100 hl (k := 5) rfl (by rw [← el8_1]; exact i32_add _ _) (by decide) rfl (fun ls hl => ?_)
  refine lv_goto (tgt := 35) X.1 X.2.1 dX3_cheapestFrom_103 (by decide) ?_
  exact h35  H locs ls l4 l5 l6 l7 l8_1 hP hS hf (lv_sub hl [1, 2, 3, 4, 5, 0] rfl)
set_option maxHeartbeats 4000000 in
theorem a_X3_cheapestFrom_35 {p : Program} {l : Launch} {e : Env} {R : Room} {s : State} {m : MethodId} {args : Array Value} {below : List Frame} {meth : Method} {c : Code} {G : GT} {σ : Mem} {res : Int} {rec35 : Int → Int → Int → Int → Int → Option (Int)} (X : CX p R s m args meth c cX3_cheapestFrom 9 RX3 (some FieldType.int) 1 60 G) (h35 : S_X3_cheapestFrom_35 rec35 p l e R s m args below meth c G σ res) : S_X3_cheapestFrom_35 (X3_cheapestFrom_B35 rec35 σ) p l e R s m args below meth c G σ res := by
  intro H locs ls l4 l5 l6 l7 l8 hP hS hf hl
  unfold X3_cheapestFrom_B35 at hf
  refine lv_iload X.1 X.2.1 dX3_cheapestFrom_35 (lv_at hl 5 rfl) ?_
  refine lv_iload X.1 X.2.1 dX3_cheapestFrom_37 (lv_at hl 2 rfl) ?_
  refine r_icmp_gt (tgt := 106) X dX3_cheapestFrom_39 (by decide) (fun q => ?_) (fun q => ?_)
  · replace hf := it_inv q hf
    refine lv_iload X.1 X.2.1 dX3_cheapestFrom_106 (lv_at hl 1 rfl) ?_
    cases so_inv hf
    exact r_iret X hP hS dX3_cheapestFrom_108
  · replace hf := ie_inv q hf
    refine lv_aload_n X.1 X.2.1 dX3_cheapestFrom_42 rfl (lv_at hl 0 rfl) ?_
    refine g_3_0 (r := 55) X hP ks_3 rfl (tb t_262 rfl) dX3_cheapestFrom_43 ?_
    refine lv_iload X.1 X.2.1 dX3_cheapestFrom_46 (lv_at hl 3 rfl) ?_
    refine lv_iload X.1 X.2.1 dX3_cheapestFrom_48 (lv_at hl 5 rfl) ?_
    refine r_iadd X dX3_cheapestFrom_50 ?_
    obtain ⟨j1, hij1, hjj1, hlj1, hf⟩ := ag_inv hf
    refine r_iald X hP (ch_3_0 ks_3).1 (ch_3_0 ks_3).2 hij1 hjj1 dX3_cheapestFrom_51 ?_
    refine r_ldc X 2147483647 (tb t_714 rfl) (by decide) dX3_cheapestFrom_52 ?_
    refine r_icmp_eq (tgt := 100) X dX3_cheapestFrom_54 (by decide) (fun q => ?_) (fun q => ?_)
    · replace hf := it_inv q hf
      exact a_X3_cheapestFrom_100 X h35  H locs ls l4 l5 l6 l7 l8 hP hS hf hl
    · replace hf := ie_inv q hf
      refine lv_aload_n X.1 X.2.1 dX3_cheapestFrom_57 rfl (lv_at hl 0 rfl) ?_
      refine g_3_2 (r := 57) X hP ks_3 rfl (tb t_264 rfl) dX3_cheapestFrom_58 ?_
      refine lv_iload X.1 X.2.1 dX3_cheapestFrom_61 (lv_at hl 4 rfl) ?_
      refine lv_iload X.1 X.2.1 dX3_cheapestFrom_63 (lv_at hl 5 rfl) ?_
      refine r_iadd X dX3_cheapestFrom_65 ?_
      obtain ⟨j2, hij2, hjj2, hlj2, hf⟩ := ag_inv hf
      refine r_iald X hP (ch_3_2 ks_3).1 (ch_3_2 ks_3).2 hij2 hjj2 dX3_cheapestFrom_66 ?_
      refine r_ldc X 2147483647 (tb t_714 rfl) (by decide) dX3_cheapestFrom_67 ?_
      refine r_icmp_eq (tgt := 100) X dX3_cheapestFrom_69 (by decide) (fun q => ?_) (fun q => ?_)
      · replace hf := it_inv q hf
        exact a_X3_cheapestFrom_100 X h35  H locs ls l4 l5 l6 l7 l8 hP hS hf hl
      · replace hf := ie_inv q hf
        refine lv_iload X.1 X.2.1 dX3_cheapestFrom_72 (lv_at hl 1 rfl) ?_
        refine lv_aload_n X.1 X.2.1 dX3_cheapestFrom_74 rfl (lv_at hl 0 rfl) ?_
        refine g_3_0 (r := 55) X hP ks_3 rfl (tb t_262 rfl) dX3_cheapestFrom_75 ?_
        refine lv_iload X.1 X.2.1 dX3_cheapestFrom_78 (lv_at hl 3 rfl) ?_
        refine lv_iload X.1 X.2.1 dX3_cheapestFrom_80 (lv_at hl 5 rfl) ?_
        refine r_iadd X dX3_cheapestFrom_82 ?_
        obtain ⟨j3, hij3, hjj3, hlj3, hf⟩ := ag_inv hf
        refine r_iald X hP (ch_3_0 ks_3).1 (ch_3_0 ks_3).2 hij3 hjj3 dX3_cheapestFrom_83 ?_
        refine lv_aload_n X.1 X.2.1 dX3_cheapestFrom_84 rfl (lv_at hl 0 rfl) ?_
        refine g_3_2 (r := 57) X hP ks_3 rfl (tb t_264 rfl) dX3_cheapestFrom_85 ?_
        refine lv_iload X.1 X.2.1 dX3_cheapestFrom_88 (lv_at hl 4 rfl) ?_
        refine lv_iload X.1 X.2.1 dX3_cheapestFrom_90 (lv_at hl 5 rfl) ?_
        refine r_iadd X dX3_cheapestFrom_92 ?_
        obtain ⟨j4, hij4, hjj4, hlj4, hf⟩ := ag_inv hf
        refine r_iald X hP (ch_3_2 ks_3).1 (ch_3_2 ks_3).2 hij4 hjj4 dX3_cheapestFrom_93 ?_
        refine r_iadd X dX3_cheapestFrom_94 ?_
        refine r_mmin X hl.1 (tb t_742 rfl) (tb t_569 rfl) (tb t_92 rfl) (tb t_570 rfl) (by decide) (Nat.le_of_ble_eq_true rfl) dX3_cheapestFrom_95 ?_
        obtain ⟨l4_5, el4_5, hf⟩ := lt_inv hf
        refine r_eqi el4_5 ?_
        refine lv_istore (lv' := [(4, .int (i32 l4_5)), (0, .ref (gh G + 54)), (5, .int (i32 l5)), (6, .int (i32 l6)), (7, .int (i32 l7)), (8, .int (i32 l8))]) X.1 X.2.1 dX3_cheapestFrom_98 hl (by decide) rfl (fun ls hl => ?_)
        exact a_X3_cheapestFrom_100 X h35  H locs ls l4_5 l5 l6 l7 l8 hP hS hf (lv_sub hl [1, 0, 2, 3, 4, 5] rfl)
theorem al_X3_cheapestFrom_35 {p : Program} {l : Launch} {e : Env} {R : Room} {s : State} {m : MethodId} {args : Array Value} {below : List Frame} {meth : Method} {c : Code} {G : GT} {σ : Mem} {res : Int} (X : CX p R s m args meth c cX3_cheapestFrom 9 RX3 (some FieldType.int) 1 60 G) : ∀ n, S_X3_cheapestFrom_35 (X3_cheapestFrom_L35 σ n) p l e R s m args below meth c G σ res := by
  intro n
  induction n with
  | zero =>
    intro H locs ls l4 l5 l6 l7 l8 hP hS hf hl
    cases hf
  | succ n ih => exact a_X3_cheapestFrom_35 X ih
set_option maxHeartbeats 4000000 in
theorem a_X3_cheapestFrom_0 {p : Program} {l : Launch} {e : Env} {R : Room} {s : State} {m : MethodId} {args : Array Value} {below : List Frame} {meth : Method} {c : Code} {G : GT} {σ : Mem} {res : Int} (X : CX p R s m args meth c cX3_cheapestFrom 9 RX3 (some FieldType.int) 1 60 G) : S_X3_cheapestFrom_0 (X3_cheapestFrom σ) p l e R s m args below meth c G σ res := by
  intro H locs ls l1 l2 l3 hP hS hf hl
  unfold X3_cheapestFrom at hf
  refine r_ldc X 2147483647 (tb t_714 rfl) (by decide) dX3_cheapestFrom_0 ?_
  refine lv_istore (lv' := [(4, .int (i32 2147483647)), (0, .ref (gh G + 54)), (1, .int (i32 l1)), (2, .int (i32 l2)), (3, .int (i32 l3))]) X.1 X.2.1 dX3_cheapestFrom_2 hl (by decide) rfl (fun ls hl => ?_)
  refine lv_iload_n X.1 X.2.1 dX3_cheapestFrom_4 rfl (lv_at hl 3 rfl) ?_
  refine lv_aload_n X.1 X.2.1 dX3_cheapestFrom_5 rfl (lv_at hl 1 rfl) ?_
  refine g_3_1 (r := 56) X hP ks_3 rfl (tb t_263 rfl) dX3_cheapestFrom_6 ?_
  refine lv_iload_n X.1 X.2.1 dX3_cheapestFrom_9 rfl (lv_at hl 2 rfl) ?_
  obtain ⟨j1, hij1, hjj1, hlj1, hf⟩ := ag_inv hf
  refine r_iald X hP (ch_3_1 ks_3).1 (ch_3_1 ks_3).2 hij1 hjj1 dX3_cheapestFrom_10 ?_
  refine r_mmin X hl.1 (tb t_742 rfl) (tb t_569 rfl) (tb t_92 rfl) (tb t_570 rfl) (by decide) (Nat.le_of_ble_eq_true rfl) dX3_cheapestFrom_11 ?_
  obtain ⟨l5_2, el5_2, hf⟩ := lt_inv hf
  refine r_eqi el5_2 ?_
  refine lv_istore (lv' := [(5, .int (i32 l5_2)), (4, .int (i32 2147483647)), (0, .ref (gh G + 54)), (1, .int (i32 l1)), (2, .int (i32 l2)), (3, .int (i32 l3))]) X.1 X.2.1 dX3_cheapestFrom_14 hl (by decide) rfl (fun ls hl => ?_)
  refine lv_iload_n X.1 X.2.1 dX3_cheapestFrom_16 rfl (lv_at hl 3 rfl) ?_
  refine r_bipush X 40 (by decide) dX3_cheapestFrom_17 ?_
  refine r_imul X dX3_cheapestFrom_19 ?_
  obtain ⟨l6_3, el6_3, hf⟩ := lt_inv hf
  refine r_eqi el6_3 ?_
  refine lv_istore (lv' := [(6, .int (i32 l6_3)), (5, .int (i32 l5_2)), (4, .int (i32 2147483647)), (0, .ref (gh G + 54)), (1, .int (i32 l1)), (2, .int (i32 l2)), (3, .int (i32 l3))]) X.1 X.2.1 dX3_cheapestFrom_20 hl (by decide) rfl (fun ls hl => ?_)
  refine lv_iload_n X.1 X.2.1 dX3_cheapestFrom_22 rfl (lv_at hl 6 rfl) ?_
  refine r_iconst X 1 dX3_cheapestFrom_23 ?_
  refine r_isub X dX3_cheapestFrom_24 ?_
  refine r_bipush X 41 (by decide) dX3_cheapestFrom_25 ?_
  refine r_imul X dX3_cheapestFrom_27 ?_
  refine r_iconst X 1 dX3_cheapestFrom_28 ?_
  refine r_iadd X dX3_cheapestFrom_29 ?_
  obtain ⟨l7_4, el7_4, hf⟩ := lt_inv hf
  refine r_eqi el7_4 ?_
  refine lv_istore (lv' := [(7, .int (i32 l7_4)), (6, .int (i32 l6_3)), (5, .int (i32 l5_2)), (4, .int (i32 2147483647)), (0, .ref (gh G + 54)), (1, .int (i32 l1)), (2, .int (i32 l2)), (3, .int (i32 l3))]) X.1 X.2.1 dX3_cheapestFrom_30 hl (by decide) rfl (fun ls hl => ?_)
  refine lv_iload_n X.1 X.2.1 dX3_cheapestFrom_32 rfl (lv_at hl 5 rfl) ?_
  refine lv_istore (lv' := [(8, .int (i32 l1)), (7, .int (i32 l7_4)), (6, .int (i32 l6_3)), (5, .int (i32 l5_2)), (4, .int (i32 2147483647)), (0, .ref (gh G + 54)), (1, .int (i32 l1)), (2, .int (i32 l2)), (3, .int (i32 l3))]) X.1 X.2.1 dX3_cheapestFrom_33 hl (by decide) rfl (fun ls hl => ?_)
  exact al_X3_cheapestFrom_35 X 5000  H locs ls 2147483647 l5_2 l6_3 l7_4 l1 hP hS hf (lv_sub hl [5, 4, 3, 2, 1, 0] rfl)
set_option maxHeartbeats 4000000 in
theorem c_X3_cheapestFrom {l : Launch} {G : GT} {σ : Mem} {res : Int} {l1 : Int} {l2 : Int} {l3 : Int} (hf : X3_cheapestFrom σ l1 l2 l3 = some res) : CT l yX3_cheapestFrom cX3_cheapestFrom 9 (some FieldType.int) 1 60 G [.ref (gh G + 54), .int (i32 l1), .int (i32 l2), .int (i32 l3)] σ σ (some (.int (i32 res))) := by
  refine CT.mk (own := RX3) (by decide) rfl (Nat.le_of_ble_eq_true rfl) ?_
  intro p e s m below meth c ls X hP hS hl
  have hl : lv_has ls 9 [(0, .ref (gh G + 54)), (1, .int (i32 l1)), (2, .int (i32 l2)), (3, .int (i32 l3))] := hl
  exact a_X3_cheapestFrom_0 X  s.heap [] ls l1 l2 l3 hP hS hf hl
theorem k_X3_cheapestFrom {p : Program} {l : Launch} {e : Env} {R : Room} {s : State} {m : MethodId} {args : Array Value} {below : List Frame} {meth : Method} {c : Code} {H : Heap} {locs : List Loc} {Q : State → Prop} {cc : ByteArray} {nL : Nat} {own : String} {ret : Option FieldType} {fF fL : Nat} {G : GT} {pc idx : Nat} {ls : Array Slot} {rest : List Value} {σ : Mem} {res : Int} {l1 : Int} {l2 : Int} {l3 : Int} (X : CX p R s m args meth c cc nL own ret fF fL G) (hP : PW G σ H) (hS : va_S (AA G) s.heap H locs) (hls : ls.size = nL) (hf : X3_cheapestFrom σ l1 l2 l3 = some res) (h1 : Cond.methodLink own idx yX3_cheapestFrom ∈ TB) (hR : 1 + 1 ≤ fF ∧ 8 + (9 + 11) + 60 ≤ fL) (hW : (rest.map fun v => v.category).sum ≤ 8) (hd : decode cc pc = .ok (.invokevirtual idx, 3)) (kk : ∀ (H1 : Heap) (locs1 : List Loc), PW G σ H1 → va_S (AA G) s.heap H1 locs1 → W p l e R s m args below meth c H1 locs1 0 0 Q (F0 m (pc + 3) ls (.int (i32 res) :: rest))) : W p l e R s m args below meth c H locs 0 0 Q (F0 m pc ls (.int (i32 l3) :: .int (i32 l2) :: .int (i32 l1) :: .ref (gh G + 54) :: rest)) := r_callV (n := 3) X hP hS hls (c_X3_cheapestFrom hf) h1 (tb t_740 rfl) (tb t_23 rfl) (tb t_83 rfl) (tb t_741 rfl) (by decide +kernel) hR (r_recv X hP (kd_lt ks_3 (by decide)) (cE_3 ks_3) rfl) rfl rfl hW hd kk
/-! X3_fillPages -/
theorem dX3_fillPages_0 : decode cX3_fillPages 0 = .ok (.iload_n 1, 1) := by decide +kernel
theorem dX3_fillPages_1 : decode cX3_fillPages 1 = .ok (.istore 4, 2) := by decide +kernel
theorem dX3_fillPages_3 : decode cX3_fillPages 3 = .ok (.iload 4, 2) := by decide +kernel
theorem dX3_fillPages_5 : decode cX3_fillPages 5 = .ok (.iload_n 2, 1) := by decide +kernel
theorem dX3_fillPages_6 : decode cX3_fillPages 6 = .ok (.if_icmp .gt 18, 3) := by decide +kernel
theorem dX3_fillPages_9 : decode cX3_fillPages 9 = .ok (.aload_n 0, 1) := by decide +kernel
theorem dX3_fillPages_10 : decode cX3_fillPages 10 = .ok (.getfield 18, 3) := by decide +kernel
theorem dX3_fillPages_13 : decode cX3_fillPages 13 = .ok (.iload 4, 2) := by decide +kernel
theorem dX3_fillPages_15 : decode cX3_fillPages 15 = .ok (.ldc 43, 2) := by decide +kernel
theorem dX3_fillPages_17 : decode cX3_fillPages 17 = .ok (.iastore, 1) := by decide +kernel
theorem dX3_fillPages_18 : decode cX3_fillPages 18 = .ok (.iinc 4 1, 3) := by decide +kernel
theorem dX3_fillPages_21 : decode cX3_fillPages 21 = .ok (.goto (-18), 3) := by decide +kernel
theorem dX3_fillPages_24 : decode cX3_fillPages 24 = .ok (.aload_n 0, 1) := by decide +kernel
theorem dX3_fillPages_25 : decode cX3_fillPages 25 = .ok (.getfield 18, 3) := by decide +kernel
theorem dX3_fillPages_28 : decode cX3_fillPages 28 = .ok (.iload_n 2, 1) := by decide +kernel
theorem dX3_fillPages_29 : decode cX3_fillPages 29 = .ok (.iconst 1, 1) := by decide +kernel
theorem dX3_fillPages_30 : decode cX3_fillPages 30 = .ok (.iadd, 1) := by decide +kernel
theorem dX3_fillPages_31 : decode cX3_fillPages 31 = .ok (.iconst 0, 1) := by decide +kernel
theorem dX3_fillPages_32 : decode cX3_fillPages 32 = .ok (.iastore, 1) := by decide +kernel
theorem dX3_fillPages_33 : decode cX3_fillPages 33 = .ok (.iconst 1, 1) := by decide +kernel
theorem dX3_fillPages_34 : decode cX3_fillPages 34 = .ok (.istore 4, 2) := by decide +kernel
theorem dX3_fillPages_36 : decode cX3_fillPages 36 = .ok (.iload 4, 2) := by decide +kernel
theorem dX3_fillPages_38 : decode cX3_fillPages 38 = .ok (.iload_n 3, 1) := by decide +kernel
theorem dX3_fillPages_39 : decode cX3_fillPages 39 = .ok (.if_icmp .gt 62, 3) := by decide +kernel
theorem dX3_fillPages_42 : decode cX3_fillPages 42 = .ok (.iload 4, 2) := by decide +kernel
theorem dX3_fillPages_44 : decode cX3_fillPages 44 = .ok (.bipush 41, 2) := by decide +kernel
theorem dX3_fillPages_46 : decode cX3_fillPages 46 = .ok (.imul, 1) := by decide +kernel
theorem dX3_fillPages_47 : decode cX3_fillPages 47 = .ok (.istore 5, 2) := by decide +kernel
theorem dX3_fillPages_49 : decode cX3_fillPages 49 = .ok (.aload_n 0, 1) := by decide +kernel
theorem dX3_fillPages_50 : decode cX3_fillPages 50 = .ok (.getfield 18, 3) := by decide +kernel
theorem dX3_fillPages_53 : decode cX3_fillPages 53 = .ok (.iload 5, 2) := by decide +kernel
theorem dX3_fillPages_55 : decode cX3_fillPages 55 = .ok (.iload_n 2, 1) := by decide +kernel
theorem dX3_fillPages_56 : decode cX3_fillPages 56 = .ok (.iadd, 1) := by decide +kernel
theorem dX3_fillPages_57 : decode cX3_fillPages 57 = .ok (.iconst 1, 1) := by decide +kernel
theorem dX3_fillPages_58 : decode cX3_fillPages 58 = .ok (.iadd, 1) := by decide +kernel
theorem dX3_fillPages_59 : decode cX3_fillPages 59 = .ok (.iconst 0, 1) := by decide +kernel
theorem dX3_fillPages_60 : decode cX3_fillPages 60 = .ok (.iastore, 1) := by decide +kernel
theorem dX3_fillPages_61 : decode cX3_fillPages 61 = .ok (.iload_n 2, 1) := by decide +kernel
theorem dX3_fillPages_62 : decode cX3_fillPages 62 = .ok (.istore 6, 2) := by decide +kernel
theorem dX3_fillPages_64 : decode cX3_fillPages 64 = .ok (.iload 6, 2) := by decide +kernel
theorem dX3_fillPages_66 : decode cX3_fillPages 66 = .ok (.iload_n 1, 1) := by decide +kernel
theorem dX3_fillPages_67 : decode cX3_fillPages 67 = .ok (.if_icmp .lt 28, 3) := by decide +kernel
theorem dX3_fillPages_70 : decode cX3_fillPages 70 = .ok (.aload_n 0, 1) := by decide +kernel
theorem dX3_fillPages_71 : decode cX3_fillPages 71 = .ok (.getfield 18, 3) := by decide +kernel
theorem dX3_fillPages_74 : decode cX3_fillPages 74 = .ok (.iload 5, 2) := by decide +kernel
theorem dX3_fillPages_76 : decode cX3_fillPages 76 = .ok (.iload 6, 2) := by decide +kernel
theorem dX3_fillPages_78 : decode cX3_fillPages 78 = .ok (.iadd, 1) := by decide +kernel
theorem dX3_fillPages_79 : decode cX3_fillPages 79 = .ok (.aload_n 0, 1) := by decide +kernel
theorem dX3_fillPages_80 : decode cX3_fillPages 80 = .ok (.iload 6, 2) := by decide +kernel
theorem dX3_fillPages_82 : decode cX3_fillPages 82 = .ok (.iload_n 2, 1) := by decide +kernel
theorem dX3_fillPages_83 : decode cX3_fillPages 83 = .ok (.iload 4, 2) := by decide +kernel
theorem dX3_fillPages_85 : decode cX3_fillPages 85 = .ok (.invokevirtual 44, 3) := by decide +kernel
theorem dX3_fillPages_88 : decode cX3_fillPages 88 = .ok (.iastore, 1) := by decide +kernel
theorem dX3_fillPages_89 : decode cX3_fillPages 89 = .ok (.iinc 6 (-1), 3) := by decide +kernel
theorem dX3_fillPages_92 : decode cX3_fillPages 92 = .ok (.goto (-28), 3) := by decide +kernel
theorem dX3_fillPages_95 : decode cX3_fillPages 95 = .ok (.iinc 4 1, 3) := by decide +kernel
theorem dX3_fillPages_98 : decode cX3_fillPages 98 = .ok (.goto (-62), 3) := by decide +kernel
theorem dX3_fillPages_101 : decode cX3_fillPages 101 = .ok (.return_, 1) := by decide +kernel
def S_X3_fillPages_3 (fn : Mem → Int → Int → Int → Int → Option (Mem)) (p : Program) (l : Launch) (e : Env) (R : Room) (s : State) (m : MethodId) (args : Array Value) (below : List Frame) (meth : Method) (c : Code) (G : GT) (τ : Mem) : Prop := ∀ (σ : Mem) (H : Heap) (locs : List Loc) (ls : Array Slot) (l1 : Int) (l2 : Int) (l3 : Int) (l4 : Int), PW G σ H → va_S (AA G) s.heap H locs → fn σ l1 l2 l3 l4 = some τ → lv_has ls 7 [(0, .ref (gh G + 54)), (1, .int (i32 l1)), (2, .int (i32 l2)), (3, .int (i32 l3)), (4, .int (i32 l4))] → W p l e R s m args below meth c H locs 0 0 (MQ below (QM G none τ) args s 0 0 (AA G)) (F0 m 3 ls [])
def S_X3_fillPages_36 (fn : Mem → Int → Int → Int → Int → Option (Mem)) (p : Program) (l : Launch) (e : Env) (R : Room) (s : State) (m : MethodId) (args : Array Value) (below : List Frame) (meth : Method) (c : Code) (G : GT) (τ : Mem) : Prop := ∀ (σ : Mem) (H : Heap) (locs : List Loc) (ls : Array Slot) (l1 : Int) (l2 : Int) (l3 : Int) (l4 : Int), PW G σ H → va_S (AA G) s.heap H locs → fn σ l1 l2 l3 l4 = some τ → lv_has ls 7 [(0, .ref (gh G + 54)), (1, .int (i32 l1)), (2, .int (i32 l2)), (3, .int (i32 l3)), (4, .int (i32 l4))] → W p l e R s m args below meth c H locs 0 0 (MQ below (QM G none τ) args s 0 0 (AA G)) (F0 m 36 ls [])
def S_X3_fillPages_64 (fn : Mem → Int → Int → Int → Int → Int → Int → Option (Mem)) (p : Program) (l : Launch) (e : Env) (R : Room) (s : State) (m : MethodId) (args : Array Value) (below : List Frame) (meth : Method) (c : Code) (G : GT) (τ : Mem) : Prop := ∀ (σ : Mem) (H : Heap) (locs : List Loc) (ls : Array Slot) (l1 : Int) (l2 : Int) (l3 : Int) (l4 : Int) (l5 : Int) (l6 : Int), PW G σ H → va_S (AA G) s.heap H locs → fn σ l1 l2 l3 l4 l5 l6 = some τ → lv_has ls 7 [(0, .ref (gh G + 54)), (1, .int (i32 l1)), (2, .int (i32 l2)), (3, .int (i32 l3)), (4, .int (i32 l4)), (5, .int (i32 l5)), (6, .int (i32 l6))] → W p l e R s m args below meth c H locs 0 0 (MQ below (QM G none τ) args s 0 0 (AA G)) (F0 m 64 ls [])
def X3_fillPages_B64 (rec36 : Mem → Int → Int → Int → Int → Option (Mem)) (rec64 : Mem → Int → Int → Int → Int → Int → Int → Option (Mem)) (σ : Mem) (l1 : Int) (l2 : Int) (l3 : Int) (l4 : Int) (l5 : Int) (l6 : Int) : Option (Mem) :=
  if w32 l6 < w32 l1 then
    lt (l4 + 1) fun l4_1 =>
    rec36 σ l1 l2 l3 l4_1
  else
  bd (X3_cheapestFrom σ l6 l2 l4) fun r2 =>
  ag 287 (l5 + l6) fun j3 =>
  lt (st σ 57 j3 r2) fun s4 =>
  lt (l6 + (-1)) fun l6_5 =>
  rec64 s4 l1 l2 l3 l4 l5 l6_5
def X3_fillPages_L64 (rec36 : Mem → Int → Int → Int → Int → Option (Mem)) : Nat → Mem → Int → Int → Int → Int → Int → Int → Option (Mem)
  | 0 => fun _ _ _ _ _ _ _ => none
  | n + 1 => X3_fillPages_B64 rec36 (X3_fillPages_L64 rec36 n)
def X3_fillPages_B36 (rec36 : Mem → Int → Int → Int → Int → Option (Mem)) (σ : Mem) (l1 : Int) (l2 : Int) (l3 : Int) (l4 : Int) : Option (Mem) :=
  if w32 l3 < w32 l4 then
    some σ
  else
  lt (l4 * 41) fun l5_1 =>
  ag 287 ((l5_1 + l2) + 1) fun j2 =>
  lt (st σ 57 j2 0) fun s3 =>
  X3_fillPages_L64 rec36 5000 s3 l1 l2 l3 l4 l5_1 l2
def X3_fillPages_L36 : Nat → Mem → Int → Int → Int → Int → Option (Mem)
  | 0 => fun _ _ _ _ _ => none
  | n + 1 => X3_fillPages_B36 (X3_fillPages_L36 n)
def X3_fillPages_B3 (rec3 : Mem → Int → Int → Int → Int → Option (Mem)) (σ : Mem) (l1 : Int) (l2 : Int) (l3 : Int) (l4 : Int) : Option (Mem) :=
  if w32 l2 < w32 l4 then
    ag 287 (l2 + 1) fun j1 =>
    lt (st σ 57 j1 0) fun s2 =>
    X3_fillPages_L36 5000 s2 l1 l2 l3 1
  else
  ag 287 l4 fun j3 =>
  lt (st σ 57 j3 2147483647) fun s4 =>
  lt (l4 + 1) fun l4_5 =>
  rec3 s4 l1 l2 l3 l4_5
def X3_fillPages_L3 : Nat → Mem → Int → Int → Int → Int → Option (Mem)
  | 0 => fun _ _ _ _ _ => none
  | n + 1 => X3_fillPages_B3 (X3_fillPages_L3 n)
def X3_fillPages (σ : Mem) (l1 : Int) (l2 : Int) (l3 : Int) : Option (Mem) :=
  X3_fillPages_L3 5000 σ l1 l2 l3 l1
def S_X3_fillPages_0 (fn : Mem → Int → Int → Int → Option (Mem)) (p : Program) (l : Launch) (e : Env) (R : Room) (s : State) (m : MethodId) (args : Array Value) (below : List Frame) (meth : Method) (c : Code) (G : GT) (τ : Mem) : Prop := ∀ (σ : Mem) (H : Heap) (locs : List Loc) (ls : Array Slot) (l1 : Int) (l2 : Int) (l3 : Int), PW G σ H → va_S (AA G) s.heap H locs → fn σ l1 l2 l3 = some τ → lv_has ls 7 [(0, .ref (gh G + 54)), (1, .int (i32 l1)), (2, .int (i32 l2)), (3, .int (i32 l3))] → W p l e R s m args below meth c H locs 0 0 (MQ below (QM G none τ) args s 0 0 (AA G)) (F0 m 0 ls [])
set_option maxHeartbeats 4000000 in
theorem a_X3_fillPages_64 {p : Program} {l : Launch} {e : Env} {R : Room} {s : State} {m : MethodId} {args : Array Value} {below : List Frame} {meth : Method} {c : Code} {G : GT} {τ : Mem} {rec36 : Mem → Int → Int → Int → Int → Option (Mem)} {rec64 : Mem → Int → Int → Int → Int → Int → Int → Option (Mem)} (X : CX p R s m args meth c cX3_fillPages 7 RX3 none 2 88 G) (h36 : S_X3_fillPages_36 rec36 p l e R s m args below meth c G τ) (h64 : S_X3_fillPages_64 rec64 p l e R s m args below meth c G τ) : S_X3_fillPages_64 (X3_fillPages_B64 rec36 rec64) p l e R s m args below meth c G τ := by
  intro σ H locs ls l1 l2 l3 l4 l5 l6 hP hS hf hl
  unfold X3_fillPages_B64 at hf
  refine lv_iload X.1 X.2.1 dX3_fillPages_64 (lv_at hl 6 rfl) ?_
  refine lv_iload_n X.1 X.2.1 dX3_fillPages_66 rfl (lv_at hl 1 rfl) ?_
  refine r_icmp_lt (tgt := 95) X dX3_fillPages_67 (by decide) (fun q => ?_) (fun q => ?_)
  · replace hf := it_inv q hf
    obtain ⟨l4_1, el4_1, hf⟩ := lt_inv hf
    refine lv_iinc (v := i32 l4_1) (lv' := [(4, .int (i32 l4_1)), (0, .ref (gh G + 54)), (1, .int (i32 l1)), (2, .int (i32 l2)), (3, .int (i32 l3)), (5, .int (i32 l5)), (6, .int (i32 l6))]) X.1 X.2.1 dX3_fillPages_95 hl (k := 4) rfl (by rw [← el4_1]; exact i32_add _ _) (by decide) rfl (fun ls hl => ?_)
    refine lv_goto (tgt := 36) X.1 X.2.1 dX3_fillPages_98 (by decide) ?_
    exact h36 σ H locs ls l1 l2 l3 l4_1 hP hS hf (lv_sub hl [1, 2, 3, 4, 0] rfl)
  · replace hf := ie_inv q hf
    refine lv_aload_n X.1 X.2.1 dX3_fillPages_70 rfl (lv_at hl 0 rfl) ?_
    refine g_3_2 (r := 57) X hP ks_3 rfl (tb t_264 rfl) dX3_fillPages_71 ?_
    refine lv_iload X.1 X.2.1 dX3_fillPages_74 (lv_at hl 5 rfl) ?_
    refine lv_iload X.1 X.2.1 dX3_fillPages_76 (lv_at hl 6 rfl) ?_
    refine r_iadd X dX3_fillPages_78 ?_
    refine lv_aload_n X.1 X.2.1 dX3_fillPages_79 rfl (lv_at hl 0 rfl) ?_
    refine lv_iload X.1 X.2.1 dX3_fillPages_80 (lv_at hl 6 rfl) ?_
    refine lv_iload_n X.1 X.2.1 dX3_fillPages_82 rfl (lv_at hl 2 rfl) ?_
    refine lv_iload X.1 X.2.1 dX3_fillPages_83 (lv_at hl 4 rfl) ?_
    obtain ⟨r2, hr2, hf⟩ := bd_inv hf
    refine k_X3_cheapestFrom X hP hS hl.1  hr2 (tb t_738 rfl) (by decide) (Nat.le_of_ble_eq_true rfl) dX3_fillPages_85 (fun H locs hP hS => ?_)
    obtain ⟨j3, hij3, hjj3, hlj3, hf⟩ := ag_inv hf
    refine r_iast X hP hS (ch_3_2 ks_3).1 (ch_3_2 ks_3).2 hij3 hjj3 dX3_fillPages_88 (fun H locs hP hS => ?_)
    obtain ⟨s4, es4, hf⟩ := lt_inv hf
    rw [es4] at hP
    obtain ⟨l6_5, el6_5, hf⟩ := lt_inv hf
    refine lv_iinc (v := i32 l6_5) (lv' := [(6, .int (i32 l6_5)), (0, .ref (gh G + 54)), (1, .int (i32 l1)), (2, .int (i32 l2)), (3, .int (i32 l3)), (4, .int (i32 l4)), (5, .int (i32 l5))]) X.1 X.2.1 dX3_fillPages_89 hl (k := 6) rfl (by rw [← el6_5]; exact i32_add _ _) (by decide) rfl (fun ls hl => ?_)
    refine lv_goto (tgt := 64) X.1 X.2.1 dX3_fillPages_92 (by decide) ?_
    exact h64 s4 H locs ls l1 l2 l3 l4 l5 l6_5 hP hS hf (lv_sub hl [1, 2, 3, 4, 5, 6, 0] rfl)
theorem al_X3_fillPages_64 {p : Program} {l : Launch} {e : Env} {R : Room} {s : State} {m : MethodId} {args : Array Value} {below : List Frame} {meth : Method} {c : Code} {G : GT} {τ : Mem} {rec36 : Mem → Int → Int → Int → Int → Option (Mem)} (X : CX p R s m args meth c cX3_fillPages 7 RX3 none 2 88 G) (h36 : S_X3_fillPages_36 rec36 p l e R s m args below meth c G τ) : ∀ n, S_X3_fillPages_64 (X3_fillPages_L64 rec36 n) p l e R s m args below meth c G τ := by
  intro n
  induction n with
  | zero =>
    intro σ H locs ls l1 l2 l3 l4 l5 l6 hP hS hf hl
    cases hf
  | succ n ih => exact a_X3_fillPages_64 X h36 ih
set_option maxHeartbeats 4000000 in
theorem a_X3_fillPages_36 {p : Program} {l : Launch} {e : Env} {R : Room} {s : State} {m : MethodId} {args : Array Value} {below : List Frame} {meth : Method} {c : Code} {G : GT} {τ : Mem} {rec36 : Mem → Int → Int → Int → Int → Option (Mem)} (X : CX p R s m args meth c cX3_fillPages 7 RX3 none 2 88 G) (h36 : S_X3_fillPages_36 rec36 p l e R s m args below meth c G τ) : S_X3_fillPages_36 (X3_fillPages_B36 rec36) p l e R s m args below meth c G τ := by
  intro σ H locs ls l1 l2 l3 l4 hP hS hf hl
  unfold X3_fillPages_B36 at hf
  refine lv_iload X.1 X.2.1 dX3_fillPages_36 (lv_at hl 4 rfl) ?_
  refine lv_iload_n X.1 X.2.1 dX3_fillPages_38 rfl (lv_at hl 3 rfl) ?_
  refine r_icmp_gt (tgt := 101) X dX3_fillPages_39 (by decide) (fun q => ?_) (fun q => ?_)
  · replace hf := it_inv q hf
    cases so_inv hf
    exact r_vret X hP hS dX3_fillPages_101
  · replace hf := ie_inv q hf
    refine lv_iload X.1 X.2.1 dX3_fillPages_42 (lv_at hl 4 rfl) ?_
    refine r_bipush X 41 (by decide) dX3_fillPages_44 ?_
    refine r_imul X dX3_fillPages_46 ?_
    obtain ⟨l5_1, el5_1, hf⟩ := lt_inv hf
    refine r_eqi el5_1 ?_
    refine lv_istore (lv' := [(5, .int (i32 l5_1)), (0, .ref (gh G + 54)), (1, .int (i32 l1)), (2, .int (i32 l2)), (3, .int (i32 l3)), (4, .int (i32 l4))]) X.1 X.2.1 dX3_fillPages_47 hl (by decide) rfl (fun ls hl => ?_)
    refine lv_aload_n X.1 X.2.1 dX3_fillPages_49 rfl (lv_at hl 1 rfl) ?_
    refine g_3_2 (r := 57) X hP ks_3 rfl (tb t_264 rfl) dX3_fillPages_50 ?_
    refine lv_iload X.1 X.2.1 dX3_fillPages_53 (lv_at hl 0 rfl) ?_
    refine lv_iload_n X.1 X.2.1 dX3_fillPages_55 rfl (lv_at hl 3 rfl) ?_
    refine r_iadd X dX3_fillPages_56 ?_
    refine r_iconst X 1 dX3_fillPages_57 ?_
    refine r_iadd X dX3_fillPages_58 ?_
    refine r_iconst X 0 dX3_fillPages_59 ?_
    obtain ⟨j2, hij2, hjj2, hlj2, hf⟩ := ag_inv hf
    refine r_iast X hP hS (ch_3_2 ks_3).1 (ch_3_2 ks_3).2 hij2 hjj2 dX3_fillPages_60 (fun H locs hP hS => ?_)
    obtain ⟨s3, es3, hf⟩ := lt_inv hf
    rw [es3] at hP
    refine lv_iload_n X.1 X.2.1 dX3_fillPages_61 rfl (lv_at hl 3 rfl) ?_
    refine lv_istore (lv' := [(6, .int (i32 l2)), (5, .int (i32 l5_1)), (0, .ref (gh G + 54)), (1, .int (i32 l1)), (2, .int (i32 l2)), (3, .int (i32 l3)), (4, .int (i32 l4))]) X.1 X.2.1 dX3_fillPages_62 hl (by decide) rfl (fun ls hl => ?_)
    exact al_X3_fillPages_64 X h36 5000 s3 H locs ls l1 l2 l3 l4 l5_1 l2 hP hS hf (lv_sub hl [2, 3, 4, 5, 6, 1, 0] rfl)
theorem al_X3_fillPages_36 {p : Program} {l : Launch} {e : Env} {R : Room} {s : State} {m : MethodId} {args : Array Value} {below : List Frame} {meth : Method} {c : Code} {G : GT} {τ : Mem} (X : CX p R s m args meth c cX3_fillPages 7 RX3 none 2 88 G) : ∀ n, S_X3_fillPages_36 (X3_fillPages_L36 n) p l e R s m args below meth c G τ := by
  intro n
  induction n with
  | zero =>
    intro σ H locs ls l1 l2 l3 l4 hP hS hf hl
    cases hf
  | succ n ih => exact a_X3_fillPages_36 X ih
set_option maxHeartbeats 4000000 in
theorem a_X3_fillPages_3 {p : Program} {l : Launch} {e : Env} {R : Room} {s : State} {m : MethodId} {args : Array Value} {below : List Frame} {meth : Method} {c : Code} {G : GT} {τ : Mem} {rec3 : Mem → Int → Int → Int → Int → Option (Mem)} (X : CX p R s m args meth c cX3_fillPages 7 RX3 none 2 88 G) (h3 : S_X3_fillPages_3 rec3 p l e R s m args below meth c G τ) : S_X3_fillPages_3 (X3_fillPages_B3 rec3) p l e R s m args below meth c G τ := by
  intro σ H locs ls l1 l2 l3 l4 hP hS hf hl
  unfold X3_fillPages_B3 at hf
  refine lv_iload X.1 X.2.1 dX3_fillPages_3 (lv_at hl 4 rfl) ?_
  refine lv_iload_n X.1 X.2.1 dX3_fillPages_5 rfl (lv_at hl 2 rfl) ?_
  refine r_icmp_gt (tgt := 24) X dX3_fillPages_6 (by decide) (fun q => ?_) (fun q => ?_)
  · replace hf := it_inv q hf
    refine lv_aload_n X.1 X.2.1 dX3_fillPages_24 rfl (lv_at hl 0 rfl) ?_
    refine g_3_2 (r := 57) X hP ks_3 rfl (tb t_264 rfl) dX3_fillPages_25 ?_
    refine lv_iload_n X.1 X.2.1 dX3_fillPages_28 rfl (lv_at hl 2 rfl) ?_
    refine r_iconst X 1 dX3_fillPages_29 ?_
    refine r_iadd X dX3_fillPages_30 ?_
    refine r_iconst X 0 dX3_fillPages_31 ?_
    obtain ⟨j1, hij1, hjj1, hlj1, hf⟩ := ag_inv hf
    refine r_iast X hP hS (ch_3_2 ks_3).1 (ch_3_2 ks_3).2 hij1 hjj1 dX3_fillPages_32 (fun H locs hP hS => ?_)
    obtain ⟨s2, es2, hf⟩ := lt_inv hf
    rw [es2] at hP
    refine r_iconst X 1 dX3_fillPages_33 ?_
    refine lv_istore (lv' := [(4, .int (i32 1)), (0, .ref (gh G + 54)), (1, .int (i32 l1)), (2, .int (i32 l2)), (3, .int (i32 l3))]) X.1 X.2.1 dX3_fillPages_34 hl (by decide) rfl (fun ls hl => ?_)
    exact al_X3_fillPages_36 X 5000 s2 H locs ls l1 l2 l3 1 hP hS hf (lv_sub hl [1, 2, 3, 4, 0] rfl)
  · replace hf := ie_inv q hf
    refine lv_aload_n X.1 X.2.1 dX3_fillPages_9 rfl (lv_at hl 0 rfl) ?_
    refine g_3_2 (r := 57) X hP ks_3 rfl (tb t_264 rfl) dX3_fillPages_10 ?_
    refine lv_iload X.1 X.2.1 dX3_fillPages_13 (lv_at hl 4 rfl) ?_
    refine r_ldc X 2147483647 (tb t_714 rfl) (by decide) dX3_fillPages_15 ?_
    obtain ⟨j3, hij3, hjj3, hlj3, hf⟩ := ag_inv hf
    refine r_iast X hP hS (ch_3_2 ks_3).1 (ch_3_2 ks_3).2 hij3 hjj3 dX3_fillPages_17 (fun H locs hP hS => ?_)
    obtain ⟨s4, es4, hf⟩ := lt_inv hf
    rw [es4] at hP
    obtain ⟨l4_5, el4_5, hf⟩ := lt_inv hf
    refine lv_iinc (v := i32 l4_5) (lv' := [(4, .int (i32 l4_5)), (0, .ref (gh G + 54)), (1, .int (i32 l1)), (2, .int (i32 l2)), (3, .int (i32 l3))]) X.1 X.2.1 dX3_fillPages_18 hl (k := 4) rfl (by rw [← el4_5]; exact i32_add _ _) (by decide) rfl (fun ls hl => ?_)
    refine lv_goto (tgt := 3) X.1 X.2.1 dX3_fillPages_21 (by decide) ?_
    exact h3 s4 H locs ls l1 l2 l3 l4_5 hP hS hf (lv_sub hl [1, 2, 3, 4, 0] rfl)
theorem al_X3_fillPages_3 {p : Program} {l : Launch} {e : Env} {R : Room} {s : State} {m : MethodId} {args : Array Value} {below : List Frame} {meth : Method} {c : Code} {G : GT} {τ : Mem} (X : CX p R s m args meth c cX3_fillPages 7 RX3 none 2 88 G) : ∀ n, S_X3_fillPages_3 (X3_fillPages_L3 n) p l e R s m args below meth c G τ := by
  intro n
  induction n with
  | zero =>
    intro σ H locs ls l1 l2 l3 l4 hP hS hf hl
    cases hf
  | succ n ih => exact a_X3_fillPages_3 X ih
set_option maxHeartbeats 4000000 in
theorem a_X3_fillPages_0 {p : Program} {l : Launch} {e : Env} {R : Room} {s : State} {m : MethodId} {args : Array Value} {below : List Frame} {meth : Method} {c : Code} {G : GT} {τ : Mem} (X : CX p R s m args meth c cX3_fillPages 7 RX3 none 2 88 G) : S_X3_fillPages_0 (X3_fillPages) p l e R s m args below meth c G τ := by
  intro σ H locs ls l1 l2 l3 hP hS hf hl
  unfold X3_fillPages at hf
  refine lv_iload_n X.1 X.2.1 dX3_fillPages_0 rfl (lv_at hl 1 rfl) ?_
  refine lv_istore (lv' := [(4, .int (i32 l1)), (0, .ref (gh G + 54)), (1, .int (i32 l1)), (2, .int (i32 l2)), (3, .int (i32 l3))]) X.1 X.2.1 dX3_fillPages_1 hl (by decide) rfl (fun ls hl => ?_)
  exact al_X3_fillPages_3 X 5000 σ H locs ls l1 l2 l3 l1 hP hS hf (lv_sub hl [1, 2, 3, 4, 0] rfl)
set_option maxHeartbeats 4000000 in
theorem c_X3_fillPages {l : Launch} {G : GT} {σ τ : Mem} {l1 : Int} {l2 : Int} {l3 : Int} (hf : X3_fillPages σ l1 l2 l3 = some τ) : CT l yX3_fillPages cX3_fillPages 7 none 2 88 G [.ref (gh G + 54), .int (i32 l1), .int (i32 l2), .int (i32 l3)] σ τ none := by
  refine CT.mk (own := RX3) (by decide) rfl (Nat.le_of_ble_eq_true rfl) ?_
  intro p e s m below meth c ls X hP hS hl
  have hl : lv_has ls 7 [(0, .ref (gh G + 54)), (1, .int (i32 l1)), (2, .int (i32 l2)), (3, .int (i32 l3))] := hl
  exact a_X3_fillPages_0 X σ s.heap [] ls l1 l2 l3 hP hS hf hl
theorem k_X3_fillPages {p : Program} {l : Launch} {e : Env} {R : Room} {s : State} {m : MethodId} {args : Array Value} {below : List Frame} {meth : Method} {c : Code} {H : Heap} {locs : List Loc} {Q : State → Prop} {cc : ByteArray} {nL : Nat} {own : String} {ret : Option FieldType} {fF fL : Nat} {G : GT} {pc idx : Nat} {ls : Array Slot} {rest : List Value} {σ τ : Mem} {l1 : Int} {l2 : Int} {l3 : Int} (X : CX p R s m args meth c cc nL own ret fF fL G) (hP : PW G σ H) (hS : va_S (AA G) s.heap H locs) (hls : ls.size = nL) (hf : X3_fillPages σ l1 l2 l3 = some τ) (h1 : Cond.methodLink own idx yX3_fillPages ∈ TB) (hR : 2 + 1 ≤ fF ∧ 8 + (7 + 11) + 88 ≤ fL) (hW : (rest.map fun v => v.category).sum ≤ 8) (hd : decode cc pc = .ok (.invokevirtual idx, 3)) (kk : ∀ (H1 : Heap) (locs1 : List Loc), PW G τ H1 → va_S (AA G) s.heap H1 locs1 → W p l e R s m args below meth c H1 locs1 0 0 Q (F0 m (pc + 3) ls (rest))) : W p l e R s m args below meth c H locs 0 0 Q (F0 m pc ls (.int (i32 l3) :: .int (i32 l2) :: .int (i32 l1) :: .ref (gh G + 54) :: rest)) := r_callV (n := 3) X hP hS hls (c_X3_fillPages hf) h1 (tb t_735 rfl) (tb t_736 rfl) (tb t_83 rfl) (tb t_737 rfl) (by decide +kernel) hR (r_recv X hP (kd_lt ks_3 (by decide)) (cE_3 ks_3) rfl) rfl rfl hW hd kk
/-! X3_pageCost -/
theorem dX3_pageCost_0 : decode cX3_pageCost 0 = .ok (.aload_n 0, 1) := by decide +kernel
theorem dX3_pageCost_1 : decode cX3_pageCost 1 = .ok (.getfield 18, 3) := by decide +kernel
theorem dX3_pageCost_4 : decode cX3_pageCost 4 = .ok (.iload_n 1, 1) := by decide +kernel
theorem dX3_pageCost_5 : decode cX3_pageCost 5 = .ok (.bipush 41, 2) := by decide +kernel
theorem dX3_pageCost_7 : decode cX3_pageCost 7 = .ok (.imul, 1) := by decide +kernel
theorem dX3_pageCost_8 : decode cX3_pageCost 8 = .ok (.iload_n 2, 1) := by decide +kernel
theorem dX3_pageCost_9 : decode cX3_pageCost 9 = .ok (.iadd, 1) := by decide +kernel
theorem dX3_pageCost_10 : decode cX3_pageCost 10 = .ok (.iaload, 1) := by decide +kernel
theorem dX3_pageCost_11 : decode cX3_pageCost 11 = .ok (.ireturn, 1) := by decide +kernel
def X3_pageCost (σ : Mem) (l1 : Int) (l2 : Int) : Option (Int) :=
  ag 287 ((l1 * 41) + l2) fun j1 =>
  some (σ 57 j1)
def S_X3_pageCost_0 (fn : Int → Int → Option (Int)) (p : Program) (l : Launch) (e : Env) (R : Room) (s : State) (m : MethodId) (args : Array Value) (below : List Frame) (meth : Method) (c : Code) (G : GT) (σ : Mem) (res : Int) : Prop := ∀ (H : Heap) (locs : List Loc) (ls : Array Slot) (l1 : Int) (l2 : Int), PW G σ H → va_S (AA G) s.heap H locs → fn l1 l2 = some res → lv_has ls 3 [(0, .ref (gh G + 54)), (1, .int (i32 l1)), (2, .int (i32 l2))] → W p l e R s m args below meth c H locs 0 0 (MQ below (QM G (some (.int (i32 res))) σ) args s 0 0 (AA G)) (F0 m 0 ls [])
set_option maxHeartbeats 4000000 in
theorem a_X3_pageCost_0 {p : Program} {l : Launch} {e : Env} {R : Room} {s : State} {m : MethodId} {args : Array Value} {below : List Frame} {meth : Method} {c : Code} {G : GT} {σ : Mem} {res : Int} (X : CX p R s m args meth c cX3_pageCost 3 RX3 (some FieldType.int) 1 60 G) : S_X3_pageCost_0 (X3_pageCost σ) p l e R s m args below meth c G σ res := by
  intro H locs ls l1 l2 hP hS hf hl
  unfold X3_pageCost at hf
  refine lv_aload_n X.1 X.2.1 dX3_pageCost_0 rfl (lv_at hl 0 rfl) ?_
  refine g_3_2 (r := 57) X hP ks_3 rfl (tb t_264 rfl) dX3_pageCost_1 ?_
  refine lv_iload_n X.1 X.2.1 dX3_pageCost_4 rfl (lv_at hl 1 rfl) ?_
  refine r_bipush X 41 (by decide) dX3_pageCost_5 ?_
  refine r_imul X dX3_pageCost_7 ?_
  refine lv_iload_n X.1 X.2.1 dX3_pageCost_8 rfl (lv_at hl 2 rfl) ?_
  refine r_iadd X dX3_pageCost_9 ?_
  obtain ⟨j1, hij1, hjj1, hlj1, hf⟩ := ag_inv hf
  refine r_iald X hP (ch_3_2 ks_3).1 (ch_3_2 ks_3).2 hij1 hjj1 dX3_pageCost_10 ?_
  cases so_inv hf
  exact r_iret X hP hS dX3_pageCost_11
set_option maxHeartbeats 4000000 in
theorem c_X3_pageCost {l : Launch} {G : GT} {σ : Mem} {res : Int} {l1 : Int} {l2 : Int} (hf : X3_pageCost σ l1 l2 = some res) : CT l yX3_pageCost cX3_pageCost 3 (some FieldType.int) 1 60 G [.ref (gh G + 54), .int (i32 l1), .int (i32 l2)] σ σ (some (.int (i32 res))) := by
  refine CT.mk (own := RX3) (by decide) rfl (Nat.le_of_ble_eq_true rfl) ?_
  intro p e s m below meth c ls X hP hS hl
  have hl : lv_has ls 3 [(0, .ref (gh G + 54)), (1, .int (i32 l1)), (2, .int (i32 l2))] := hl
  exact a_X3_pageCost_0 X  s.heap [] ls l1 l2 hP hS hf hl
theorem k_X3_pageCost {p : Program} {l : Launch} {e : Env} {R : Room} {s : State} {m : MethodId} {args : Array Value} {below : List Frame} {meth : Method} {c : Code} {H : Heap} {locs : List Loc} {Q : State → Prop} {cc : ByteArray} {nL : Nat} {own : String} {ret : Option FieldType} {fF fL : Nat} {G : GT} {pc idx : Nat} {ls : Array Slot} {rest : List Value} {σ : Mem} {res : Int} {l1 : Int} {l2 : Int} (X : CX p R s m args meth c cc nL own ret fF fL G) (hP : PW G σ H) (hS : va_S (AA G) s.heap H locs) (hls : ls.size = nL) (hf : X3_pageCost σ l1 l2 = some res) (h1 : Cond.methodLink own idx yX3_pageCost ∈ TB) (hR : 1 + 1 ≤ fF ∧ 8 + (3 + 11) + 60 ≤ fL) (hW : (rest.map fun v => v.category).sum ≤ 8) (hd : decode cc pc = .ok (.invokevirtual idx, 3)) (kk : ∀ (H1 : Heap) (locs1 : List Loc), PW G σ H1 → va_S (AA G) s.heap H1 locs1 → W p l e R s m args below meth c H1 locs1 0 0 Q (F0 m (pc + 3) ls (.int (i32 res) :: rest))) : W p l e R s m args below meth c H locs 0 0 Q (F0 m pc ls (.int (i32 l2) :: .int (i32 l1) :: .ref (gh G + 54) :: rest)) := r_callV (n := 2) X hP hS hls (c_X3_pageCost hf) h1 (tb t_744 rfl) (tb t_745 rfl) (tb t_83 rfl) (tb t_746 rfl) (by decide +kernel) hR (r_recv X hP (kd_lt ks_3 (by decide)) (cE_3 ks_3) rfl) rfl rfl hW hd kk
/-! X4_takeCheaper -/
theorem dX4_takeCheaper_0 : decode cX4_takeCheaper 0 = .ok (.iconst 0, 1) := by decide +kernel
theorem dX4_takeCheaper_1 : decode cX4_takeCheaper 1 = .ok (.istore 5, 2) := by decide +kernel
theorem dX4_takeCheaper_3 : decode cX4_takeCheaper 3 = .ok (.iload 5, 2) := by decide +kernel
theorem dX4_takeCheaper_5 : decode cX4_takeCheaper 5 = .ok (.iload_n 3, 1) := by decide +kernel
theorem dX4_takeCheaper_6 : decode cX4_takeCheaper 6 = .ok (.if_icmp .gt 58, 3) := by decide +kernel
theorem dX4_takeCheaper_9 : decode cX4_takeCheaper 9 = .ok (.aload_n 1, 1) := by decide +kernel
theorem dX4_takeCheaper_10 : decode cX4_takeCheaper 10 = .ok (.iload_n 2, 1) := by decide +kernel
theorem dX4_takeCheaper_11 : decode cX4_takeCheaper 11 = .ok (.iload 5, 2) := by decide +kernel
theorem dX4_takeCheaper_13 : decode cX4_takeCheaper 13 = .ok (.invokevirtual 50, 3) := by decide +kernel
theorem dX4_takeCheaper_16 : decode cX4_takeCheaper 16 = .ok (.istore 6, 2) := by decide +kernel
theorem dX4_takeCheaper_18 : decode cX4_takeCheaper 18 = .ok (.iload 6, 2) := by decide +kernel
theorem dX4_takeCheaper_20 : decode cX4_takeCheaper 20 = .ok (.ldc 26, 2) := by decide +kernel
theorem dX4_takeCheaper_22 : decode cX4_takeCheaper 22 = .ok (.if_icmp .eq 36, 3) := by decide +kernel
theorem dX4_takeCheaper_25 : decode cX4_takeCheaper 25 = .ok (.iload 5, 2) := by decide +kernel
theorem dX4_takeCheaper_27 : decode cX4_takeCheaper 27 = .ok (.bipush 40, 2) := by decide +kernel
theorem dX4_takeCheaper_29 : decode cX4_takeCheaper 29 = .ok (.imul, 1) := by decide +kernel
theorem dX4_takeCheaper_30 : decode cX4_takeCheaper 30 = .ok (.iload_n 3, 1) := by decide +kernel
theorem dX4_takeCheaper_31 : decode cX4_takeCheaper 31 = .ok (.iadd, 1) := by decide +kernel
theorem dX4_takeCheaper_32 : decode cX4_takeCheaper 32 = .ok (.istore 7, 2) := by decide +kernel
theorem dX4_takeCheaper_34 : decode cX4_takeCheaper 34 = .ok (.aload_n 0, 1) := by decide +kernel
theorem dX4_takeCheaper_35 : decode cX4_takeCheaper 35 = .ok (.getfield 9, 3) := by decide +kernel
theorem dX4_takeCheaper_38 : decode cX4_takeCheaper 38 = .ok (.iload 7, 2) := by decide +kernel
theorem dX4_takeCheaper_40 : decode cX4_takeCheaper 40 = .ok (.aload_n 0, 1) := by decide +kernel
theorem dX4_takeCheaper_41 : decode cX4_takeCheaper 41 = .ok (.getfield 9, 3) := by decide +kernel
theorem dX4_takeCheaper_44 : decode cX4_takeCheaper 44 = .ok (.iload 7, 2) := by decide +kernel
theorem dX4_takeCheaper_46 : decode cX4_takeCheaper 46 = .ok (.iaload, 1) := by decide +kernel
theorem dX4_takeCheaper_47 : decode cX4_takeCheaper 47 = .ok (.iload 6, 2) := by decide +kernel
theorem dX4_takeCheaper_49 : decode cX4_takeCheaper 49 = .ok (.iconst 4, 1) := by decide +kernel
theorem dX4_takeCheaper_50 : decode cX4_takeCheaper 50 = .ok (.imul, 1) := by decide +kernel
theorem dX4_takeCheaper_51 : decode cX4_takeCheaper 51 = .ok (.iload 4, 2) := by decide +kernel
theorem dX4_takeCheaper_53 : decode cX4_takeCheaper 53 = .ok (.iadd, 1) := by decide +kernel
theorem dX4_takeCheaper_54 : decode cX4_takeCheaper 54 = .ok (.invokestatic 54, 3) := by decide +kernel
theorem dX4_takeCheaper_57 : decode cX4_takeCheaper 57 = .ok (.iastore, 1) := by decide +kernel
theorem dX4_takeCheaper_58 : decode cX4_takeCheaper 58 = .ok (.iinc 5 1, 3) := by decide +kernel
theorem dX4_takeCheaper_61 : decode cX4_takeCheaper 61 = .ok (.goto (-58), 3) := by decide +kernel
theorem dX4_takeCheaper_64 : decode cX4_takeCheaper 64 = .ok (.return_, 1) := by decide +kernel
def S_X4_takeCheaper_3 (fn : Mem → Nat → Int → Int → Int → Int → Option (Mem)) (p : Program) (l : Launch) (e : Env) (R : Room) (s : State) (m : MethodId) (args : Array Value) (below : List Frame) (meth : Method) (c : Code) (G : GT) (τ : Mem) : Prop := ∀ (σ : Mem) (H : Heap) (locs : List Loc) (ls : Array Slot) (l0 : Nat) (l2 : Int) (l3 : Int) (l4 : Int) (l5 : Int), kd l0 = 4 → PW G σ H → va_S (AA G) s.heap H locs → fn σ l0 l2 l3 l4 l5 = some τ → lv_has ls 8 [(0, .ref (gh G + l0)), (1, .ref (gh G + 54)), (2, .int (i32 l2)), (3, .int (i32 l3)), (4, .int (i32 l4)), (5, .int (i32 l5))] → W p l e R s m args below meth c H locs 0 0 (MQ below (QM G none τ) args s 0 0 (AA G)) (F0 m 3 ls [])
def X4_takeCheaper_B58 (rec3 : Mem → Nat → Int → Int → Int → Int → Option (Mem)) (σ : Mem) (l0 : Nat) (l2 : Int) (l3 : Int) (l4 : Int) (l5 : Int) : Option (Mem) :=
  lt (l5 + 1) fun l5_1 =>
  rec3 σ l0 l2 l3 l4 l5_1
def S_X4_takeCheaper_58 (fn : Mem → Nat → Int → Int → Int → Int → Option (Mem)) (p : Program) (l : Launch) (e : Env) (R : Room) (s : State) (m : MethodId) (args : Array Value) (below : List Frame) (meth : Method) (c : Code) (G : GT) (τ : Mem) : Prop := ∀ (σ : Mem) (H : Heap) (locs : List Loc) (ls : Array Slot) (l0 : Nat) (l2 : Int) (l3 : Int) (l4 : Int) (l5 : Int), kd l0 = 4 → PW G σ H → va_S (AA G) s.heap H locs → fn σ l0 l2 l3 l4 l5 = some τ → lv_has ls 8 [(0, .ref (gh G + l0)), (1, .ref (gh G + 54)), (2, .int (i32 l2)), (3, .int (i32 l3)), (4, .int (i32 l4)), (5, .int (i32 l5))] → W p l e R s m args below meth c H locs 0 0 (MQ below (QM G none τ) args s 0 0 (AA G)) (F0 m 58 ls [])
def X4_takeCheaper_B3 (rec3 : Mem → Nat → Int → Int → Int → Int → Option (Mem)) (σ : Mem) (l0 : Nat) (l2 : Int) (l3 : Int) (l4 : Int) (l5 : Int) : Option (Mem) :=
  if w32 l3 < w32 l5 then
    some σ
  else
  bd (X3_pageCost σ l2 l5) fun r1 =>
  if w32 r1 = w32 2147483647 then
    X4_takeCheaper_B58 rec3 σ l0 l2 l3 l4 l5
  else
  lt ((l5 * 40) + l3) fun l7_2 =>
  ag 1600 l7_2 fun j3 =>
  ag 1600 l7_2 fun j4 =>
  lt (st σ (l0 + 1) j4 (imn (σ (l0 + 1) j3) ((r1 * 4) + l4))) fun s5 =>
  X4_takeCheaper_B58 rec3 s5 l0 l2 l3 l4 l5
def X4_takeCheaper_L3 : Nat → Mem → Nat → Int → Int → Int → Int → Option (Mem)
  | 0 => fun _ _ _ _ _ _ => none
  | n + 1 => X4_takeCheaper_B3 (X4_takeCheaper_L3 n)
def X4_takeCheaper (σ : Mem) (l0 : Nat) (l2 : Int) (l3 : Int) (l4 : Int) : Option (Mem) :=
  X4_takeCheaper_L3 5000 σ l0 l2 l3 l4 0
def S_X4_takeCheaper_0 (fn : Mem → Nat → Int → Int → Int → Option (Mem)) (p : Program) (l : Launch) (e : Env) (R : Room) (s : State) (m : MethodId) (args : Array Value) (below : List Frame) (meth : Method) (c : Code) (G : GT) (τ : Mem) : Prop := ∀ (σ : Mem) (H : Heap) (locs : List Loc) (ls : Array Slot) (l0 : Nat) (l2 : Int) (l3 : Int) (l4 : Int), kd l0 = 4 → PW G σ H → va_S (AA G) s.heap H locs → fn σ l0 l2 l3 l4 = some τ → lv_has ls 8 [(0, .ref (gh G + l0)), (1, .ref (gh G + 54)), (2, .int (i32 l2)), (3, .int (i32 l3)), (4, .int (i32 l4))] → W p l e R s m args below meth c H locs 0 0 (MQ below (QM G none τ) args s 0 0 (AA G)) (F0 m 0 ls [])
set_option maxHeartbeats 4000000 in
theorem a_X4_takeCheaper_58 {p : Program} {l : Launch} {e : Env} {R : Room} {s : State} {m : MethodId} {args : Array Value} {below : List Frame} {meth : Method} {c : Code} {G : GT} {τ : Mem} {rec3 : Mem → Nat → Int → Int → Int → Int → Option (Mem)} (X : CX p R s m args meth c cX4_takeCheaper 8 RX4 none 2 82 G) (h3 : S_X4_takeCheaper_3 rec3 p l e R s m args below meth c G τ) : S_X4_takeCheaper_58 (X4_takeCheaper_B58 rec3) p l e R s m args below meth c G τ := by
  intro σ H locs ls l0 l2 l3 l4 l5 hk_l0 hP hS hf hl
  unfold X4_takeCheaper_B58 at hf
  obtain ⟨l5_1, el5_1, hf⟩ := lt_inv hf
  refine lv_iinc (v := i32 l5_1) (lv' := [(5, .int (i32 l5_1)), (0, .ref (gh G + l0)), (1, .ref (gh G + 54)), (2, .int (i32 l2)), (3, .int (i32 l3)), (4, .int (i32 l4))]) X.1 X.2.1 dX4_takeCheaper_58 hl (k := 5) rfl (by rw [← el5_1]; exact i32_add _ _) (by decide) rfl (fun ls hl => ?_)
  refine lv_goto (tgt := 3) X.1 X.2.1 dX4_takeCheaper_61 (by decide) ?_
  exact h3 σ H locs ls l0 l2 l3 l4 l5_1 hk_l0 hP hS hf (lv_sub hl [1, 2, 3, 4, 5, 0] rfl)
set_option maxHeartbeats 4000000 in
theorem a_X4_takeCheaper_3 {p : Program} {l : Launch} {e : Env} {R : Room} {s : State} {m : MethodId} {args : Array Value} {below : List Frame} {meth : Method} {c : Code} {G : GT} {τ : Mem} {rec3 : Mem → Nat → Int → Int → Int → Int → Option (Mem)} (X : CX p R s m args meth c cX4_takeCheaper 8 RX4 none 2 82 G) (h3 : S_X4_takeCheaper_3 rec3 p l e R s m args below meth c G τ) : S_X4_takeCheaper_3 (X4_takeCheaper_B3 rec3) p l e R s m args below meth c G τ := by
  intro σ H locs ls l0 l2 l3 l4 l5 hk_l0 hP hS hf hl
  unfold X4_takeCheaper_B3 at hf
  refine lv_iload X.1 X.2.1 dX4_takeCheaper_3 (lv_at hl 5 rfl) ?_
  refine lv_iload_n X.1 X.2.1 dX4_takeCheaper_5 rfl (lv_at hl 3 rfl) ?_
  refine r_icmp_gt (tgt := 64) X dX4_takeCheaper_6 (by decide) (fun q => ?_) (fun q => ?_)
  · replace hf := it_inv q hf
    cases so_inv hf
    exact r_vret X hP hS dX4_takeCheaper_64
  · replace hf := ie_inv q hf
    refine lv_aload_n X.1 X.2.1 dX4_takeCheaper_9 rfl (lv_at hl 1 rfl) ?_
    refine lv_iload_n X.1 X.2.1 dX4_takeCheaper_10 rfl (lv_at hl 2 rfl) ?_
    refine lv_iload X.1 X.2.1 dX4_takeCheaper_11 (lv_at hl 5 rfl) ?_
    obtain ⟨r1, hr1, hf⟩ := bd_inv hf
    refine k_X3_pageCost X hP hS hl.1  hr1 (tb t_773 rfl) (by decide) (Nat.le_of_ble_eq_true rfl) dX4_takeCheaper_13 (fun H locs hP hS => ?_)
    refine lv_istore (lv' := [(6, .int (i32 r1)), (0, .ref (gh G + l0)), (1, .ref (gh G + 54)), (2, .int (i32 l2)), (3, .int (i32 l3)), (4, .int (i32 l4)), (5, .int (i32 l5))]) X.1 X.2.1 dX4_takeCheaper_16 hl (by decide) rfl (fun ls hl => ?_)
    refine lv_iload X.1 X.2.1 dX4_takeCheaper_18 (lv_at hl 0 rfl) ?_
    refine r_ldc X 2147483647 (tb t_764 rfl) (by decide) dX4_takeCheaper_20 ?_
    refine r_icmp_eq (tgt := 58) X dX4_takeCheaper_22 (by decide) (fun q => ?_) (fun q => ?_)
    · replace hf := it_inv q hf
      exact a_X4_takeCheaper_58 X h3 σ H locs ls l0 l2 l3 l4 l5 hk_l0 hP hS hf (lv_sub hl [1, 2, 3, 4, 5, 6] rfl)
    · replace hf := ie_inv q hf
      refine lv_iload X.1 X.2.1 dX4_takeCheaper_25 (lv_at hl 6 rfl) ?_
      refine r_bipush X 40 (by decide) dX4_takeCheaper_27 ?_
      refine r_imul X dX4_takeCheaper_29 ?_
      refine lv_iload_n X.1 X.2.1 dX4_takeCheaper_30 rfl (lv_at hl 4 rfl) ?_
      refine r_iadd X dX4_takeCheaper_31 ?_
      obtain ⟨l7_2, el7_2, hf⟩ := lt_inv hf
      refine r_eqi el7_2 ?_
      refine lv_istore (lv' := [(7, .int (i32 l7_2)), (6, .int (i32 r1)), (0, .ref (gh G + l0)), (1, .ref (gh G + 54)), (2, .int (i32 l2)), (3, .int (i32 l3)), (4, .int (i32 l4)), (5, .int (i32 l5))]) X.1 X.2.1 dX4_takeCheaper_32 hl (by decide) rfl (fun ls hl => ?_)
      refine lv_aload_n X.1 X.2.1 dX4_takeCheaper_34 rfl (lv_at hl 2 rfl) ?_
      refine g_4_0 (r := l0 + 1) X hP hk_l0 rfl (tb t_322 rfl) dX4_takeCheaper_35 ?_
      refine lv_iload X.1 X.2.1 dX4_takeCheaper_38 (lv_at hl 0 rfl) ?_
      refine lv_aload_n X.1 X.2.1 dX4_takeCheaper_40 rfl (lv_at hl 2 rfl) ?_
      refine g_4_0 (r := l0 + 1) X hP hk_l0 rfl (tb t_322 rfl) dX4_takeCheaper_41 ?_
      refine lv_iload X.1 X.2.1 dX4_takeCheaper_44 (lv_at hl 0 rfl) ?_
      obtain ⟨j3, hij3, hjj3, hlj3, hf⟩ := ag_inv hf
      refine r_iald X hP (ch_4_0 hk_l0).1 (ch_4_0 hk_l0).2 hij3 hjj3 dX4_takeCheaper_46 ?_
      refine lv_iload X.1 X.2.1 dX4_takeCheaper_47 (lv_at hl 1 rfl) ?_
      refine r_iconst X 4 dX4_takeCheaper_49 ?_
      refine r_imul X dX4_takeCheaper_50 ?_
      refine lv_iload X.1 X.2.1 dX4_takeCheaper_51 (lv_at hl 6 rfl) ?_
      refine r_iadd X dX4_takeCheaper_53 ?_
      refine r_mmin X hl.1 (tb t_774 rfl) (tb t_569 rfl) (tb t_92 rfl) (tb t_570 rfl) (by decide) (Nat.le_of_ble_eq_true rfl) dX4_takeCheaper_54 ?_
      obtain ⟨j4, hij4, hjj4, hlj4, hf⟩ := ag_inv hf
      refine r_iast X hP hS (ch_4_0 hk_l0).1 (ch_4_0 hk_l0).2 hij4 hjj4 dX4_takeCheaper_57 (fun H locs hP hS => ?_)
      obtain ⟨s5, es5, hf⟩ := lt_inv hf
      rw [es5] at hP
      exact a_X4_takeCheaper_58 X h3 s5 H locs ls l0 l2 l3 l4 l5 hk_l0 hP hS hf (lv_sub hl [2, 3, 4, 5, 6, 7] rfl)
theorem al_X4_takeCheaper_3 {p : Program} {l : Launch} {e : Env} {R : Room} {s : State} {m : MethodId} {args : Array Value} {below : List Frame} {meth : Method} {c : Code} {G : GT} {τ : Mem} (X : CX p R s m args meth c cX4_takeCheaper 8 RX4 none 2 82 G) : ∀ n, S_X4_takeCheaper_3 (X4_takeCheaper_L3 n) p l e R s m args below meth c G τ := by
  intro n
  induction n with
  | zero =>
    intro σ H locs ls l0 l2 l3 l4 l5 hk_l0 hP hS hf hl
    cases hf
  | succ n ih => exact a_X4_takeCheaper_3 X ih
set_option maxHeartbeats 4000000 in
theorem a_X4_takeCheaper_0 {p : Program} {l : Launch} {e : Env} {R : Room} {s : State} {m : MethodId} {args : Array Value} {below : List Frame} {meth : Method} {c : Code} {G : GT} {τ : Mem} (X : CX p R s m args meth c cX4_takeCheaper 8 RX4 none 2 82 G) : S_X4_takeCheaper_0 (X4_takeCheaper) p l e R s m args below meth c G τ := by
  intro σ H locs ls l0 l2 l3 l4 hk_l0 hP hS hf hl
  unfold X4_takeCheaper at hf
  refine r_iconst X 0 dX4_takeCheaper_0 ?_
  refine lv_istore (lv' := [(5, .int (i32 0)), (0, .ref (gh G + l0)), (1, .ref (gh G + 54)), (2, .int (i32 l2)), (3, .int (i32 l3)), (4, .int (i32 l4))]) X.1 X.2.1 dX4_takeCheaper_1 hl (by decide) rfl (fun ls hl => ?_)
  exact al_X4_takeCheaper_3 X 5000 σ H locs ls l0 l2 l3 l4 0 hk_l0 hP hS hf (lv_sub hl [1, 2, 3, 4, 5, 0] rfl)
set_option maxHeartbeats 4000000 in
theorem c_X4_takeCheaper {l : Launch} {G : GT} {σ τ : Mem} {l0 : Nat} {l2 : Int} {l3 : Int} {l4 : Int} (hk_l0 : kd l0 = 4) (hf : X4_takeCheaper σ l0 l2 l3 l4 = some τ) : CT l yX4_takeCheaper cX4_takeCheaper 8 none 2 82 G [.ref (gh G + l0), .ref (gh G + 54), .int (i32 l2), .int (i32 l3), .int (i32 l4)] σ τ none := by
  refine CT.mk (own := RX4) (by decide) rfl (Nat.le_of_ble_eq_true rfl) ?_
  intro p e s m below meth c ls X hP hS hl
  have hl : lv_has ls 8 [(0, .ref (gh G + l0)), (1, .ref (gh G + 54)), (2, .int (i32 l2)), (3, .int (i32 l3)), (4, .int (i32 l4))] := hl
  exact a_X4_takeCheaper_0 X σ s.heap [] ls l0 l2 l3 l4 hk_l0 hP hS hf hl
theorem k_X4_takeCheaper {p : Program} {l : Launch} {e : Env} {R : Room} {s : State} {m : MethodId} {args : Array Value} {below : List Frame} {meth : Method} {c : Code} {H : Heap} {locs : List Loc} {Q : State → Prop} {cc : ByteArray} {nL : Nat} {own : String} {ret : Option FieldType} {fF fL : Nat} {G : GT} {pc idx : Nat} {ls : Array Slot} {rest : List Value} {σ τ : Mem} {l0 : Nat} {l2 : Int} {l3 : Int} {l4 : Int} (X : CX p R s m args meth c cc nL own ret fF fL G) (hP : PW G σ H) (hS : va_S (AA G) s.heap H locs) (hls : ls.size = nL) (hk_l0 : kd l0 = 4) (hf : X4_takeCheaper σ l0 l2 l3 l4 = some τ) (h1 : Cond.methodLink own idx yX4_takeCheaper ∈ TB) (hR : 2 + 1 ≤ fF ∧ 8 + (8 + 11) + 82 ≤ fL) (hW : (rest.map fun v => v.category).sum ≤ 8) (hd : decode cc pc = .ok (.invokevirtual idx, 3)) (kk : ∀ (H1 : Heap) (locs1 : List Loc), PW G τ H1 → va_S (AA G) s.heap H1 locs1 → W p l e R s m args below meth c H1 locs1 0 0 Q (F0 m (pc + 3) ls (rest))) : W p l e R s m args below meth c H locs 0 0 Q (F0 m pc ls (.int (i32 l4) :: .int (i32 l3) :: .int (i32 l2) :: .ref (gh G + 54) :: .ref (gh G + l0) :: rest)) := r_callV (n := 4) X hP hS hls (c_X4_takeCheaper hk_l0 hf) h1 (tb t_771 rfl) (tb t_26 rfl) (tb t_85 rfl) (tb t_772 rfl) (by decide +kernel) hR (r_recv X hP (kd_lt hk_l0 (by decide)) (cE_4 hk_l0) rfl) rfl rfl hW hd kk
/-! X4_fill -/
theorem dX4_fill_0 : decode cX4_fill 0 = .ok (.aload_n 0, 1) := by decide +kernel
theorem dX4_fill_1 : decode cX4_fill 1 = .ok (.aload_n 1, 1) := by decide +kernel
theorem dX4_fill_2 : decode cX4_fill 2 = .ok (.getfield 15, 3) := by decide +kernel
theorem dX4_fill_5 : decode cX4_fill 5 = .ok (.putfield 21, 3) := by decide +kernel
theorem dX4_fill_8 : decode cX4_fill 8 = .ok (.aload_n 0, 1) := by decide +kernel
theorem dX4_fill_9 : decode cX4_fill 9 = .ok (.iconst 1, 1) := by decide +kernel
theorem dX4_fill_10 : decode cX4_fill 10 = .ok (.putfield 22, 3) := by decide +kernel
theorem dX4_fill_13 : decode cX4_fill 13 = .ok (.aload_n 0, 1) := by decide +kernel
theorem dX4_fill_14 : decode cX4_fill 14 = .ok (.getfield 9, 3) := by decide +kernel
theorem dX4_fill_17 : decode cX4_fill 17 = .ok (.ldc 26, 2) := by decide +kernel
theorem dX4_fill_19 : decode cX4_fill 19 = .ok (.invokestatic 27, 3) := by decide +kernel
theorem dX4_fill_22 : decode cX4_fill 22 = .ok (.iconst 0, 1) := by decide +kernel
theorem dX4_fill_23 : decode cX4_fill 23 = .ok (.istore 4, 2) := by decide +kernel
theorem dX4_fill_25 : decode cX4_fill 25 = .ok (.iload 4, 2) := by decide +kernel
theorem dX4_fill_27 : decode cX4_fill 27 = .ok (.iconst 3, 1) := by decide +kernel
theorem dX4_fill_28 : decode cX4_fill 28 = .ok (.if_icmp .ge 73, 3) := by decide +kernel
theorem dX4_fill_31 : decode cX4_fill 31 = .ok (.aload_n 3, 1) := by decide +kernel
theorem dX4_fill_32 : decode cX4_fill 32 = .ok (.aload_n 1, 1) := by decide +kernel
theorem dX4_fill_33 : decode cX4_fill 33 = .ok (.aload_n 2, 1) := by decide +kernel
theorem dX4_fill_34 : decode cX4_fill 34 = .ok (.iload 4, 2) := by decide +kernel
theorem dX4_fill_36 : decode cX4_fill 36 = .ok (.iconst 0, 1) := by decide +kernel
theorem dX4_fill_37 : decode cX4_fill 37 = .ok (.aload_n 0, 1) := by decide +kernel
theorem dX4_fill_38 : decode cX4_fill 38 = .ok (.getfield 21, 3) := by decide +kernel
theorem dX4_fill_41 : decode cX4_fill 41 = .ok (.iconst 1, 1) := by decide +kernel
theorem dX4_fill_42 : decode cX4_fill 42 = .ok (.isub, 1) := by decide +kernel
theorem dX4_fill_43 : decode cX4_fill 43 = .ok (.invokevirtual 33, 3) := by decide +kernel
theorem dX4_fill_46 : decode cX4_fill 46 = .ok (.iconst 0, 1) := by decide +kernel
theorem dX4_fill_47 : decode cX4_fill 47 = .ok (.istore 5, 2) := by decide +kernel
theorem dX4_fill_49 : decode cX4_fill 49 = .ok (.iload 5, 2) := by decide +kernel
theorem dX4_fill_51 : decode cX4_fill 51 = .ok (.aload_n 0, 1) := by decide +kernel
theorem dX4_fill_52 : decode cX4_fill 52 = .ok (.getfield 21, 3) := by decide +kernel
theorem dX4_fill_55 : decode cX4_fill 55 = .ok (.if_icmp .ge 40, 3) := by decide +kernel
theorem dX4_fill_58 : decode cX4_fill 58 = .ok (.aload_n 1, 1) := by decide +kernel
theorem dX4_fill_59 : decode cX4_fill 59 = .ok (.iload 5, 2) := by decide +kernel
theorem dX4_fill_61 : decode cX4_fill 61 = .ok (.invokevirtual 38, 3) := by decide +kernel
theorem dX4_fill_64 : decode cX4_fill 64 = .ok (.ifCond .eq 25, 3) := by decide +kernel
theorem dX4_fill_67 : decode cX4_fill 67 = .ok (.aload_n 3, 1) := by decide +kernel
theorem dX4_fill_68 : decode cX4_fill 68 = .ok (.iconst 0, 1) := by decide +kernel
theorem dX4_fill_69 : decode cX4_fill 69 = .ok (.iload 5, 2) := by decide +kernel
theorem dX4_fill_71 : decode cX4_fill 71 = .ok (.aload_n 2, 1) := by decide +kernel
theorem dX4_fill_72 : decode cX4_fill 72 = .ok (.iconst 1, 1) := by decide +kernel
theorem dX4_fill_73 : decode cX4_fill 73 = .ok (.iaload, 1) := by decide +kernel
theorem dX4_fill_74 : decode cX4_fill 74 = .ok (.invokevirtual 42, 3) := by decide +kernel
theorem dX4_fill_77 : decode cX4_fill 77 = .ok (.aload_n 0, 1) := by decide +kernel
theorem dX4_fill_78 : decode cX4_fill 78 = .ok (.aload_n 3, 1) := by decide +kernel
theorem dX4_fill_79 : decode cX4_fill 79 = .ok (.aload_n 2, 1) := by decide +kernel
theorem dX4_fill_80 : decode cX4_fill 80 = .ok (.iconst 1, 1) := by decide +kernel
theorem dX4_fill_81 : decode cX4_fill 81 = .ok (.iaload, 1) := by decide +kernel
theorem dX4_fill_82 : decode cX4_fill 82 = .ok (.iload 5, 2) := by decide +kernel
theorem dX4_fill_84 : decode cX4_fill 84 = .ok (.iload 4, 2) := by decide +kernel
theorem dX4_fill_86 : decode cX4_fill 86 = .ok (.invokevirtual 46, 3) := by decide +kernel
theorem dX4_fill_89 : decode cX4_fill 89 = .ok (.iinc 5 1, 3) := by decide +kernel
theorem dX4_fill_92 : decode cX4_fill 92 = .ok (.goto (-43), 3) := by decide +kernel
theorem dX4_fill_95 : decode cX4_fill 95 = .ok (.iinc 4 1, 3) := by decide +kernel
theorem dX4_fill_98 : decode cX4_fill 98 = .ok (.goto (-73), 3) := by decide +kernel
theorem dX4_fill_101 : decode cX4_fill 101 = .ok (.return_, 1) := by decide +kernel
def S_X4_fill_25 (fn : Mem → Nat → Nat → Nat → Int → Option (Mem)) (p : Program) (l : Launch) (e : Env) (R : Room) (s : State) (m : MethodId) (args : Array Value) (below : List Frame) (meth : Method) (c : Code) (G : GT) (τ : Mem) : Prop := ∀ (σ : Mem) (H : Heap) (locs : List Loc) (ls : Array Slot) (l0 : Nat) (l1 : Nat) (l2 : Nat) (l4 : Int), kd l0 = 4 → kd l1 = 5 → kd l2 = 13 → PW G σ H → va_S (AA G) s.heap H locs → fn σ l0 l1 l2 l4 = some τ → lv_has ls 6 [(0, .ref (gh G + l0)), (1, .ref (gh G + l1)), (2, .ref (gh G + l2)), (3, .ref (gh G + 54)), (4, .int (i32 l4))] → W p l e R s m args below meth c H locs 0 0 (MQ below (QM G none τ) args s 0 0 (AA G)) (F0 m 25 ls [])
def S_X4_fill_49 (fn : Mem → Nat → Nat → Nat → Int → Int → Option (Mem)) (p : Program) (l : Launch) (e : Env) (R : Room) (s : State) (m : MethodId) (args : Array Value) (below : List Frame) (meth : Method) (c : Code) (G : GT) (τ : Mem) : Prop := ∀ (σ : Mem) (H : Heap) (locs : List Loc) (ls : Array Slot) (l0 : Nat) (l1 : Nat) (l2 : Nat) (l4 : Int) (l5 : Int), kd l0 = 4 → kd l1 = 5 → kd l2 = 13 → PW G σ H → va_S (AA G) s.heap H locs → fn σ l0 l1 l2 l4 l5 = some τ → lv_has ls 6 [(0, .ref (gh G + l0)), (1, .ref (gh G + l1)), (2, .ref (gh G + l2)), (3, .ref (gh G + 54)), (4, .int (i32 l4)), (5, .int (i32 l5))] → W p l e R s m args below meth c H locs 0 0 (MQ below (QM G none τ) args s 0 0 (AA G)) (F0 m 49 ls [])
def X4_fill_B89 (rec25 : Mem → Nat → Nat → Nat → Int → Option (Mem)) (rec49 : Mem → Nat → Nat → Nat → Int → Int → Option (Mem)) (σ : Mem) (l0 : Nat) (l1 : Nat) (l2 : Nat) (l4 : Int) (l5 : Int) : Option (Mem) :=
  lt (l5 + 1) fun l5_1 =>
  rec49 σ l0 l1 l2 l4 l5_1
def S_X4_fill_89 (fn : Mem → Nat → Nat → Nat → Int → Int → Option (Mem)) (p : Program) (l : Launch) (e : Env) (R : Room) (s : State) (m : MethodId) (args : Array Value) (below : List Frame) (meth : Method) (c : Code) (G : GT) (τ : Mem) : Prop := ∀ (σ : Mem) (H : Heap) (locs : List Loc) (ls : Array Slot) (l0 : Nat) (l1 : Nat) (l2 : Nat) (l4 : Int) (l5 : Int), kd l0 = 4 → kd l1 = 5 → kd l2 = 13 → PW G σ H → va_S (AA G) s.heap H locs → fn σ l0 l1 l2 l4 l5 = some τ → lv_has ls 6 [(0, .ref (gh G + l0)), (1, .ref (gh G + l1)), (2, .ref (gh G + l2)), (3, .ref (gh G + 54)), (4, .int (i32 l4)), (5, .int (i32 l5))] → W p l e R s m args below meth c H locs 0 0 (MQ below (QM G none τ) args s 0 0 (AA G)) (F0 m 89 ls [])
def X4_fill_B49 (rec25 : Mem → Nat → Nat → Nat → Int → Option (Mem)) (rec49 : Mem → Nat → Nat → Nat → Int → Int → Option (Mem)) (σ : Mem) (l0 : Nat) (l1 : Nat) (l2 : Nat) (l4 : Int) (l5 : Int) : Option (Mem) :=
  if w32 (σ l0 1) ≤ w32 l5 then
    lt (l4 + 1) fun l4_1 =>
    rec25 σ l0 l1 l2 l4_1
  else
  bd (X5_mayEndLine σ l1 l5) fun r2 =>
  if w32 r2 = 0 then
    X4_fill_B89 rec25 rec49 σ l0 l1 l2 l4 l5
  else
  ag (ln l2) 1 fun j3 =>
  bd (X3_fillPages σ 0 l5 (σ l2 j3)) fun s5 =>
  ag (ln l2) 1 fun j6 =>
  bd (X4_takeCheaper s5 l0 (s5 l2 j6) l5 l4) fun s8 =>
  X4_fill_B89 rec25 rec49 s8 l0 l1 l2 l4 l5
def X4_fill_L49 (rec25 : Mem → Nat → Nat → Nat → Int → Option (Mem)) : Nat → Mem → Nat → Nat → Nat → Int → Int → Option (Mem)
  | 0 => fun _ _ _ _ _ _ => none
  | n + 1 => X4_fill_B49 rec25 (X4_fill_L49 rec25 n)
def X4_fill_B25 (rec25 : Mem → Nat → Nat → Nat → Int → Option (Mem)) (σ : Mem) (l0 : Nat) (l1 : Nat) (l2 : Nat) (l4 : Int) : Option (Mem) :=
  if w32 3 ≤ w32 l4 then
    some σ
  else
  bd (X3_fill σ l1 l2 l4 0 ((σ l0 1) - 1)) fun s2 =>
  X4_fill_L49 rec25 5000 s2 l0 l1 l2 l4 0
def X4_fill_L25 : Nat → Mem → Nat → Nat → Nat → Int → Option (Mem)
  | 0 => fun _ _ _ _ _ => none
  | n + 1 => X4_fill_B25 (X4_fill_L25 n)
def X4_fill (σ : Mem) (l0 : Nat) (l1 : Nat) (l2 : Nat) : Option (Mem) :=
  lt (st σ l0 1 (σ l1 2)) fun s1 =>
  lt (st s1 l0 2 1) fun s2 =>
  bd (J7_fill_53178 s2 (l0 + 1) 2147483647) fun s4 =>
  X4_fill_L25 5000 s4 l0 l1 l2 0
def S_X4_fill_0 (fn : Mem → Nat → Nat → Nat → Option (Mem)) (p : Program) (l : Launch) (e : Env) (R : Room) (s : State) (m : MethodId) (args : Array Value) (below : List Frame) (meth : Method) (c : Code) (G : GT) (τ : Mem) : Prop := ∀ (σ : Mem) (H : Heap) (locs : List Loc) (ls : Array Slot) (l0 : Nat) (l1 : Nat) (l2 : Nat), kd l0 = 4 → kd l1 = 5 → kd l2 = 13 → PW G σ H → va_S (AA G) s.heap H locs → fn σ l0 l1 l2 = some τ → lv_has ls 6 [(0, .ref (gh G + l0)), (1, .ref (gh G + l1)), (2, .ref (gh G + l2)), (3, .ref (gh G + 54))] → W p l e R s m args below meth c H locs 0 0 (MQ below (QM G none τ) args s 0 0 (AA G)) (F0 m 0 ls [])
set_option maxHeartbeats 4000000 in
theorem a_X4_fill_89 {p : Program} {l : Launch} {e : Env} {R : Room} {s : State} {m : MethodId} {args : Array Value} {below : List Frame} {meth : Method} {c : Code} {G : GT} {τ : Mem} {rec25 : Mem → Nat → Nat → Nat → Int → Option (Mem)} {rec49 : Mem → Nat → Nat → Nat → Int → Int → Option (Mem)} (X : CX p R s m args meth c cX4_fill 6 RX4 none 4 138 G) (h25 : S_X4_fill_25 rec25 p l e R s m args below meth c G τ) (h49 : S_X4_fill_49 rec49 p l e R s m args below meth c G τ) : S_X4_fill_89 (X4_fill_B89 rec25 rec49) p l e R s m args below meth c G τ := by
  intro σ H locs ls l0 l1 l2 l4 l5 hk_l0 hk_l1 hk_l2 hP hS hf hl
  unfold X4_fill_B89 at hf
  obtain ⟨l5_1, el5_1, hf⟩ := lt_inv hf
  refine lv_iinc (v := i32 l5_1) (lv' := [(5, .int (i32 l5_1)), (0, .ref (gh G + l0)), (1, .ref (gh G + l1)), (2, .ref (gh G + l2)), (3, .ref (gh G + 54)), (4, .int (i32 l4))]) X.1 X.2.1 dX4_fill_89 hl (k := 5) rfl (by rw [← el5_1]; exact i32_add _ _) (by decide) rfl (fun ls hl => ?_)
  refine lv_goto (tgt := 49) X.1 X.2.1 dX4_fill_92 (by decide) ?_
  exact h49 σ H locs ls l0 l1 l2 l4 l5_1 hk_l0 hk_l1 hk_l2 hP hS hf (lv_sub hl [1, 2, 3, 4, 5, 0] rfl)
set_option maxHeartbeats 4000000 in
theorem a_X4_fill_49 {p : Program} {l : Launch} {e : Env} {R : Room} {s : State} {m : MethodId} {args : Array Value} {below : List Frame} {meth : Method} {c : Code} {G : GT} {τ : Mem} {rec25 : Mem → Nat → Nat → Nat → Int → Option (Mem)} {rec49 : Mem → Nat → Nat → Nat → Int → Int → Option (Mem)} (X : CX p R s m args meth c cX4_fill 6 RX4 none 4 138 G) (h25 : S_X4_fill_25 rec25 p l e R s m args below meth c G τ) (h49 : S_X4_fill_49 rec49 p l e R s m args below meth c G τ) : S_X4_fill_49 (X4_fill_B49 rec25 rec49) p l e R s m args below meth c G τ := by
  intro σ H locs ls l0 l1 l2 l4 l5 hk_l0 hk_l1 hk_l2 hP hS hf hl
  unfold X4_fill_B49 at hf
  refine lv_iload X.1 X.2.1 dX4_fill_49 (lv_at hl 5 rfl) ?_
  refine lv_aload_n X.1 X.2.1 dX4_fill_51 rfl (lv_at hl 0 rfl) ?_
  refine g_4_1 X hP hk_l0 (tb t_323 rfl) dX4_fill_52 ?_
  refine r_icmp_ge (tgt := 95) X dX4_fill_55 (by decide) (fun q => ?_) (fun q => ?_)
  · replace hf := it_inv q hf
    obtain ⟨l4_1, el4_1, hf⟩ := lt_inv hf
    refine lv_iinc (v := i32 l4_1) (lv' := [(4, .int (i32 l4_1)), (0, .ref (gh G + l0)), (1, .ref (gh G + l1)), (2, .ref (gh G + l2)), (3, .ref (gh G + 54)), (5, .int (i32 l5))]) X.1 X.2.1 dX4_fill_95 hl (k := 4) rfl (by rw [← el4_1]; exact i32_add _ _) (by decide) rfl (fun ls hl => ?_)
    refine lv_goto (tgt := 25) X.1 X.2.1 dX4_fill_98 (by decide) ?_
    exact h25 σ H locs ls l0 l1 l2 l4_1 hk_l0 hk_l1 hk_l2 hP hS hf (lv_sub hl [1, 2, 3, 4, 0] rfl)
  · replace hf := ie_inv q hf
    refine lv_aload_n X.1 X.2.1 dX4_fill_58 rfl (lv_at hl 1 rfl) ?_
    refine lv_iload X.1 X.2.1 dX4_fill_59 (lv_at hl 5 rfl) ?_
    obtain ⟨r2, hr2, hf⟩ := bd_inv hf
    refine k_X5_mayEndLine X hP hS hl.1 hk_l1 hr2 (tb t_767 rfl) (by decide) (Nat.le_of_ble_eq_true rfl) dX4_fill_61 (fun H locs hP hS => ?_)
    refine r_if_eq (tgt := 89) X dX4_fill_64 (by decide) (fun q => ?_) (fun q => ?_)
    · replace hf := it_inv q hf
      exact a_X4_fill_89 X h25 h49 σ H locs ls l0 l1 l2 l4 l5 hk_l0 hk_l1 hk_l2 hP hS hf hl
    · replace hf := ie_inv q hf
      refine lv_aload_n X.1 X.2.1 dX4_fill_67 rfl (lv_at hl 3 rfl) ?_
      refine r_iconst X 0 dX4_fill_68 ?_
      refine lv_iload X.1 X.2.1 dX4_fill_69 (lv_at hl 5 rfl) ?_
      refine lv_aload_n X.1 X.2.1 dX4_fill_71 rfl (lv_at hl 2 rfl) ?_
      refine r_iconst X 1 dX4_fill_72 ?_
      obtain ⟨j3, hij3, hjj3, hlj3, hf⟩ := ag_inv hf
      refine r_iald X hP hk_l2 rfl hij3 hjj3 dX4_fill_73 ?_
      obtain ⟨s5, hr4, hf⟩ := bd_inv hf
      refine k_X3_fillPages X hP hS hl.1  hr4 (tb t_768 rfl) (by decide) (Nat.le_of_ble_eq_true rfl) dX4_fill_74 (fun H locs hP hS => ?_)
      refine lv_aload_n X.1 X.2.1 dX4_fill_77 rfl (lv_at hl 0 rfl) ?_
      refine lv_aload_n X.1 X.2.1 dX4_fill_78 rfl (lv_at hl 3 rfl) ?_
      refine lv_aload_n X.1 X.2.1 dX4_fill_79 rfl (lv_at hl 2 rfl) ?_
      refine r_iconst X 1 dX4_fill_80 ?_
      obtain ⟨j6, hij6, hjj6, hlj6, hf⟩ := ag_inv hf
      refine r_iald X hP hk_l2 rfl hij6 hjj6 dX4_fill_81 ?_
      refine lv_iload X.1 X.2.1 dX4_fill_82 (lv_at hl 5 rfl) ?_
      refine lv_iload X.1 X.2.1 dX4_fill_84 (lv_at hl 4 rfl) ?_
      obtain ⟨s8, hr7, hf⟩ := bd_inv hf
      refine k_X4_takeCheaper X hP hS hl.1 hk_l0 hr7 (tb t_769 rfl) (by decide) (Nat.le_of_ble_eq_true rfl) dX4_fill_86 (fun H locs hP hS => ?_)
      exact a_X4_fill_89 X h25 h49 s8 H locs ls l0 l1 l2 l4 l5 hk_l0 hk_l1 hk_l2 hP hS hf hl
theorem al_X4_fill_49 {p : Program} {l : Launch} {e : Env} {R : Room} {s : State} {m : MethodId} {args : Array Value} {below : List Frame} {meth : Method} {c : Code} {G : GT} {τ : Mem} {rec25 : Mem → Nat → Nat → Nat → Int → Option (Mem)} (X : CX p R s m args meth c cX4_fill 6 RX4 none 4 138 G) (h25 : S_X4_fill_25 rec25 p l e R s m args below meth c G τ) : ∀ n, S_X4_fill_49 (X4_fill_L49 rec25 n) p l e R s m args below meth c G τ := by
  intro n
  induction n with
  | zero =>
    intro σ H locs ls l0 l1 l2 l4 l5 hk_l0 hk_l1 hk_l2 hP hS hf hl
    cases hf
  | succ n ih => exact a_X4_fill_49 X h25 ih
set_option maxHeartbeats 4000000 in
theorem a_X4_fill_25 {p : Program} {l : Launch} {e : Env} {R : Room} {s : State} {m : MethodId} {args : Array Value} {below : List Frame} {meth : Method} {c : Code} {G : GT} {τ : Mem} {rec25 : Mem → Nat → Nat → Nat → Int → Option (Mem)} (X : CX p R s m args meth c cX4_fill 6 RX4 none 4 138 G) (h25 : S_X4_fill_25 rec25 p l e R s m args below meth c G τ) : S_X4_fill_25 (X4_fill_B25 rec25) p l e R s m args below meth c G τ := by
  intro σ H locs ls l0 l1 l2 l4 hk_l0 hk_l1 hk_l2 hP hS hf hl
  unfold X4_fill_B25 at hf
  refine lv_iload X.1 X.2.1 dX4_fill_25 (lv_at hl 4 rfl) ?_
  refine r_iconst X 3 dX4_fill_27 ?_
  refine r_icmp_ge (tgt := 101) X dX4_fill_28 (by decide) (fun q => ?_) (fun q => ?_)
  · replace hf := it_inv q hf
    cases so_inv hf
    exact r_vret X hP hS dX4_fill_101
  · replace hf := ie_inv q hf
    refine lv_aload_n X.1 X.2.1 dX4_fill_31 rfl (lv_at hl 3 rfl) ?_
    refine lv_aload_n X.1 X.2.1 dX4_fill_32 rfl (lv_at hl 1 rfl) ?_
    refine lv_aload_n X.1 X.2.1 dX4_fill_33 rfl (lv_at hl 2 rfl) ?_
    refine lv_iload X.1 X.2.1 dX4_fill_34 (lv_at hl 4 rfl) ?_
    refine r_iconst X 0 dX4_fill_36 ?_
    refine lv_aload_n X.1 X.2.1 dX4_fill_37 rfl (lv_at hl 0 rfl) ?_
    refine g_4_1 X hP hk_l0 (tb t_323 rfl) dX4_fill_38 ?_
    refine r_iconst X 1 dX4_fill_41 ?_
    refine r_isub X dX4_fill_42 ?_
    obtain ⟨s2, hr1, hf⟩ := bd_inv hf
    refine k_X3_fill X hP hS hl.1 hk_l1 hk_l2 hr1 (tb t_766 rfl) (by decide) (Nat.le_of_ble_eq_true rfl) dX4_fill_43 (fun H locs hP hS => ?_)
    refine r_iconst X 0 dX4_fill_46 ?_
    refine lv_istore (lv' := [(5, .int (i32 0)), (0, .ref (gh G + l0)), (1, .ref (gh G + l1)), (2, .ref (gh G + l2)), (3, .ref (gh G + 54)), (4, .int (i32 l4))]) X.1 X.2.1 dX4_fill_47 hl (by decide) rfl (fun ls hl => ?_)
    exact al_X4_fill_49 X h25 5000 s2 H locs ls l0 l1 l2 l4 0 hk_l0 hk_l1 hk_l2 hP hS hf (lv_sub hl [1, 2, 3, 4, 5, 0] rfl)
theorem al_X4_fill_25 {p : Program} {l : Launch} {e : Env} {R : Room} {s : State} {m : MethodId} {args : Array Value} {below : List Frame} {meth : Method} {c : Code} {G : GT} {τ : Mem} (X : CX p R s m args meth c cX4_fill 6 RX4 none 4 138 G) : ∀ n, S_X4_fill_25 (X4_fill_L25 n) p l e R s m args below meth c G τ := by
  intro n
  induction n with
  | zero =>
    intro σ H locs ls l0 l1 l2 l4 hk_l0 hk_l1 hk_l2 hP hS hf hl
    cases hf
  | succ n ih => exact a_X4_fill_25 X ih
set_option maxHeartbeats 4000000 in
theorem a_X4_fill_0 {p : Program} {l : Launch} {e : Env} {R : Room} {s : State} {m : MethodId} {args : Array Value} {below : List Frame} {meth : Method} {c : Code} {G : GT} {τ : Mem} (X : CX p R s m args meth c cX4_fill 6 RX4 none 4 138 G) : S_X4_fill_0 (X4_fill) p l e R s m args below meth c G τ := by
  intro σ H locs ls l0 l1 l2 hk_l0 hk_l1 hk_l2 hP hS hf hl
  unfold X4_fill at hf
  refine lv_aload_n X.1 X.2.1 dX4_fill_0 rfl (lv_at hl 0 rfl) ?_
  refine lv_aload_n X.1 X.2.1 dX4_fill_1 rfl (lv_at hl 1 rfl) ?_
  refine g_5_2 X hP hk_l1 (tb t_155 rfl) dX4_fill_2 ?_
  refine p_4_1 X hP hS hk_l0 (tb t_323 rfl) dX4_fill_5 (fun H locs hP hS => ?_)
  obtain ⟨s1, es1, hf⟩ := lt_inv hf
  rw [es1] at hP
  refine lv_aload_n X.1 X.2.1 dX4_fill_8 rfl (lv_at hl 0 rfl) ?_
  refine r_iconst X 1 dX4_fill_9 ?_
  refine p_4_2 X hP hS (Or.inr rfl) hk_l0 (tb t_325 rfl) dX4_fill_10 (fun H locs hP hS => ?_)
  obtain ⟨s2, es2, hf⟩ := lt_inv hf
  rw [es2] at hP
  refine lv_aload_n X.1 X.2.1 dX4_fill_13 rfl (lv_at hl 0 rfl) ?_
  refine g_4_0 (r := l0 + 1) X hP hk_l0 rfl (tb t_322 rfl) dX4_fill_14 ?_
  refine r_ldc X 2147483647 (tb t_764 rfl) (by decide) dX4_fill_17 ?_
  obtain ⟨s4, hr3, hf⟩ := bd_inv hf
  refine k_J7_fill_53178 X hP hS hl.1 (ch_4_0 hk_l0).1 hr3 (tb t_765 rfl) (by decide) (Nat.le_of_ble_eq_true rfl) dX4_fill_19 (fun H locs hP hS => ?_)
  refine r_iconst X 0 dX4_fill_22 ?_
  refine lv_istore (lv' := [(4, .int (i32 0)), (0, .ref (gh G + l0)), (1, .ref (gh G + l1)), (2, .ref (gh G + l2)), (3, .ref (gh G + 54))]) X.1 X.2.1 dX4_fill_23 hl (by decide) rfl (fun ls hl => ?_)
  exact al_X4_fill_25 X 5000 s4 H locs ls l0 l1 l2 0 hk_l0 hk_l1 hk_l2 hP hS hf (lv_sub hl [1, 2, 3, 4, 0] rfl)
set_option maxHeartbeats 4000000 in
theorem c_X4_fill {l : Launch} {G : GT} {σ τ : Mem} {l0 : Nat} {l1 : Nat} {l2 : Nat} (hk_l0 : kd l0 = 4) (hk_l1 : kd l1 = 5) (hk_l2 : kd l2 = 13) (hf : X4_fill σ l0 l1 l2 = some τ) : CT l yX4_fill cX4_fill 6 none 4 138 G [.ref (gh G + l0), .ref (gh G + l1), .ref (gh G + l2), .ref (gh G + 54)] σ τ none := by
  refine CT.mk (own := RX4) (by decide) rfl (Nat.le_of_ble_eq_true rfl) ?_
  intro p e s m below meth c ls X hP hS hl
  have hl : lv_has ls 6 [(0, .ref (gh G + l0)), (1, .ref (gh G + l1)), (2, .ref (gh G + l2)), (3, .ref (gh G + 54))] := hl
  exact a_X4_fill_0 X σ s.heap [] ls l0 l1 l2 hk_l0 hk_l1 hk_l2 hP hS hf hl
theorem k_X4_fill {p : Program} {l : Launch} {e : Env} {R : Room} {s : State} {m : MethodId} {args : Array Value} {below : List Frame} {meth : Method} {c : Code} {H : Heap} {locs : List Loc} {Q : State → Prop} {cc : ByteArray} {nL : Nat} {own : String} {ret : Option FieldType} {fF fL : Nat} {G : GT} {pc idx : Nat} {ls : Array Slot} {rest : List Value} {σ τ : Mem} {l0 : Nat} {l1 : Nat} {l2 : Nat} (X : CX p R s m args meth c cc nL own ret fF fL G) (hP : PW G σ H) (hS : va_S (AA G) s.heap H locs) (hls : ls.size = nL) (hk_l0 : kd l0 = 4) (hk_l1 : kd l1 = 5) (hk_l2 : kd l2 = 13) (hf : X4_fill σ l0 l1 l2 = some τ) (h1 : Cond.methodLink own idx yX4_fill ∈ TB) (hR : 4 + 1 ≤ fF ∧ 8 + (6 + 11) + 138 ≤ fL) (hW : (rest.map fun v => v.category).sum ≤ 8) (hd : decode cc pc = .ok (.invokevirtual idx, 3)) (kk : ∀ (H1 : Heap) (locs1 : List Loc), PW G τ H1 → va_S (AA G) s.heap H1 locs1 → W p l e R s m args below meth c H1 locs1 0 0 Q (F0 m (pc + 3) ls (rest))) : W p l e R s m args below meth c H locs 0 0 Q (F0 m pc ls (.ref (gh G + 54) :: .ref (gh G + l2) :: .ref (gh G + l1) :: .ref (gh G + l0) :: rest)) := r_callV (n := 3) X hP hS hls (c_X4_fill hk_l0 hk_l1 hk_l2 hf) h1 (tb t_761 rfl) (tb t_762 rfl) (tb t_85 rfl) (tb t_763 rfl) (by decide +kernel) hR (r_recv X hP (kd_lt hk_l0 (by decide)) (cE_4 hk_l0) rfl) rfl rfl hW hd kk
