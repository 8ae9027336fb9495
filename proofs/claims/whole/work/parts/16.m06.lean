/-! X10_status -/
theorem dX10_status_0 : decode cX10_status 0 = .ok (.iload_n 1, 1) := by decide +kernel
theorem dX10_status_1 : decode cX10_status 1 = .ok (.iconst (-1), 1) := by decide +kernel
theorem dX10_status_2 : decode cX10_status 2 = .ok (.bipush 6, 2) := by decide +kernel
theorem dX10_status_4 : decode cX10_status 4 = .ok (.invokestatic 62, 3) := by decide +kernel
theorem dX10_status_7 : decode cX10_status 7 = .ok (.ifCond .ne 10, 3) := by decide +kernel
theorem dX10_status_10 : decode cX10_status 10 = .ok (.aload_n 0, 1) := by decide +kernel
theorem dX10_status_11 : decode cX10_status 11 = .ok (.ldc 72, 2) := by decide +kernel
theorem dX10_status_13 : decode cX10_status 13 = .ok (.invokevirtual 73, 3) := by decide +kernel
theorem dX10_status_16 : decode cX10_status 16 = .ok (.ireturn, 1) := by decide +kernel
theorem dX10_status_17 : decode cX10_status 17 = .ok (.iload_n 1, 1) := by decide +kernel
theorem dX10_status_18 : decode cX10_status 18 = .ok (.ifCond .lt 10, 3) := by decide +kernel
theorem dX10_status_21 : decode cX10_status 21 = .ok (.aload_n 0, 1) := by decide +kernel
theorem dX10_status_22 : decode cX10_status 22 = .ok (.getfield 51, 3) := by decide +kernel
theorem dX10_status_25 : decode cX10_status 25 = .ok (.iload_n 1, 1) := by decide +kernel
theorem dX10_status_26 : decode cX10_status 26 = .ok (.iaload, 1) := by decide +kernel
theorem dX10_status_27 : decode cX10_status 27 = .ok (.ireturn, 1) := by decide +kernel
theorem dX10_status_28 : decode cX10_status 28 = .ok (.iconst 0, 1) := by decide +kernel
theorem dX10_status_29 : decode cX10_status 29 = .ok (.istore_n 2, 1) := by decide +kernel
theorem dX10_status_30 : decode cX10_status 30 = .ok (.iconst 0, 1) := by decide +kernel
theorem dX10_status_31 : decode cX10_status 31 = .ok (.istore_n 3, 1) := by decide +kernel
theorem dX10_status_32 : decode cX10_status 32 = .ok (.iload_n 3, 1) := by decide +kernel
theorem dX10_status_33 : decode cX10_status 33 = .ok (.bipush 7, 2) := by decide +kernel
theorem dX10_status_35 : decode cX10_status 35 = .ok (.if_icmp .ge 18, 3) := by decide +kernel
theorem dX10_status_38 : decode cX10_status 38 = .ok (.iload_n 2, 1) := by decide +kernel
theorem dX10_status_39 : decode cX10_status 39 = .ok (.aload_n 0, 1) := by decide +kernel
theorem dX10_status_40 : decode cX10_status 40 = .ok (.getfield 51, 3) := by decide +kernel
theorem dX10_status_43 : decode cX10_status 43 = .ok (.iload_n 3, 1) := by decide +kernel
theorem dX10_status_44 : decode cX10_status 44 = .ok (.iaload, 1) := by decide +kernel
theorem dX10_status_45 : decode cX10_status 45 = .ok (.iadd, 1) := by decide +kernel
theorem dX10_status_46 : decode cX10_status 46 = .ok (.istore_n 2, 1) := by decide +kernel
theorem dX10_status_47 : decode cX10_status 47 = .ok (.iinc 3 1, 3) := by decide +kernel
theorem dX10_status_50 : decode cX10_status 50 = .ok (.goto (-18), 3) := by decide +kernel
theorem dX10_status_53 : decode cX10_status 53 = .ok (.iload_n 2, 1) := by decide +kernel
theorem dX10_status_54 : decode cX10_status 54 = .ok (.ireturn, 1) := by decide +kernel
def S_X10_status_32 (fn : Mem → Int → Int → Option (Int × Mem)) (p : Program) (l : Launch) (e : Env) (R : Room) (s : State) (m : MethodId) (args : Array Value) (below : List Frame) (meth : Method) (c : Code) (G : GT) (τ : Mem) (res : Int) : Prop := ∀ (σ : Mem) (H : Heap) (locs : List Loc) (ls : Array Slot) (l2 : Int) (l3 : Int), PW G σ H → va_S (AA G) s.heap H locs → fn σ l2 l3 = some (res, τ) → lv_has ls 4 [(0, .ref (gh G + 0)), (2, .int (i32 l2)), (3, .int (i32 l3))] → W p l e R s m args below meth c H locs 0 0 (MQ below (QM G (some (.int (i32 res))) τ) args s 0 0 (AA G)) (F0 m 32 ls [])
def X10_status_B32 (rec32 : Mem → Int → Int → Option (Int × Mem)) (σ : Mem) (l2 : Int) (l3 : Int) : Option (Int × Mem) :=
  if w32 7 ≤ w32 l3 then
    some (l2, σ)
  else
  ag 7 l3 fun j1 =>
  lt (l2 + (σ 62 j1)) fun l2_2 =>
  lt (l3 + 1) fun l3_3 =>
  rec32 σ l2_2 l3_3
def X10_status_L32 : Nat → Mem → Int → Int → Option (Int × Mem)
  | 0 => fun _ _ _ => none
  | n + 1 => X10_status_B32 (X10_status_L32 n)
def X10_status (σ : Mem) (l1 : Int) : Option (Int × Mem) :=
  bd (X10_within σ l1 (-1) 6) fun r1 =>
  if w32 r1 ≠ 0 then
    if w32 l1 < 0 then
      X10_status_L32 5000 σ 0 0
    else
    ag 7 l1 fun j2 =>
    some (σ 62 j2, σ)
  else
  bd2 (X10_tell σ (-1000001)) fun r3 s4 =>
  some (r3, s4)
def S_X10_status_0 (fn : Mem → Int → Option (Int × Mem)) (p : Program) (l : Launch) (e : Env) (R : Room) (s : State) (m : MethodId) (args : Array Value) (below : List Frame) (meth : Method) (c : Code) (G : GT) (τ : Mem) (res : Int) : Prop := ∀ (σ : Mem) (H : Heap) (locs : List Loc) (ls : Array Slot) (l1 : Int), PW G σ H → va_S (AA G) s.heap H locs → fn σ l1 = some (res, τ) → lv_has ls 4 [(0, .ref (gh G + 0)), (1, .int (i32 l1))] → W p l e R s m args below meth c H locs 0 0 (MQ below (QM G (some (.int (i32 res))) τ) args s 0 0 (AA G)) (F0 m 0 ls [])
set_option maxHeartbeats 4000000 in
theorem a_X10_status_32 {p : Program} {l : Launch} {e : Env} {R : Room} {s : State} {m : MethodId} {args : Array Value} {below : List Frame} {meth : Method} {c : Code} {G : GT} {τ : Mem} {res : Int} {rec32 : Mem → Int → Int → Option (Int × Mem)} (X : CX p R s m args meth c cX10_status 4 RX10 (some FieldType.int) 3 104 G) (h32 : S_X10_status_32 rec32 p l e R s m args below meth c G τ res) : S_X10_status_32 (X10_status_B32 rec32) p l e R s m args below meth c G τ res := by
  intro σ H locs ls l2 l3 hP hS hf hl
  unfold X10_status_B32 at hf
  refine lv_iload_n X.1 X.2.1 dX10_status_32 rfl (lv_at hl 2 rfl) ?_
  refine r_bipush X 7 (by decide) dX10_status_33 ?_
  refine r_icmp_ge (tgt := 53) X dX10_status_35 (by decide) (fun q => ?_) (fun q => ?_)
  · replace hf := it_inv q hf
    refine lv_iload_n X.1 X.2.1 dX10_status_53 rfl (lv_at hl 1 rfl) ?_
    obtain ⟨rfl, rfl⟩ := so2_inv hf
    exact r_iret X hP hS dX10_status_54
  · replace hf := ie_inv q hf
    refine lv_iload_n X.1 X.2.1 dX10_status_38 rfl (lv_at hl 1 rfl) ?_
    refine lv_aload_n X.1 X.2.1 dX10_status_39 rfl (lv_at hl 0 rfl) ?_
    refine g_10_8 (r := 62) X hP ks_10 rfl (tb t_396 rfl) dX10_status_40 ?_
    refine lv_iload_n X.1 X.2.1 dX10_status_43 rfl (lv_at hl 2 rfl) ?_
    obtain ⟨j1, hij1, hjj1, hlj1, hf⟩ := ag_inv hf
    refine r_iald X hP (ch_10_8 ks_10).1 (ch_10_8 ks_10).2 hij1 hjj1 dX10_status_44 ?_
    refine r_iadd X dX10_status_45 ?_
    obtain ⟨l2_2, el2_2, hf⟩ := lt_inv hf
    refine r_eqi el2_2 ?_
    refine lv_istore_n (lv' := [(2, .int (i32 l2_2)), (0, .ref (gh G + 0)), (3, .int (i32 l3))]) X.1 X.2.1 dX10_status_46 rfl hl (by decide) rfl (fun ls hl => ?_)
    obtain ⟨l3_3, el3_3, hf⟩ := lt_inv hf
    refine lv_iinc (v := i32 l3_3) (lv' := [(3, .int (i32 l3_3)), (2, .int (i32 l2_2)), (0, .ref (gh G + 0))]) X.1 X.2.1 dX10_status_47 hl (k := 2) rfl (by rw [← el3_3]; exact i32_add _ _) (by decide) rfl (fun ls hl => ?_)
    refine lv_goto (tgt := 32) X.1 X.2.1 dX10_status_50 (by decide) ?_
    exact h32 σ H locs ls l2_2 l3_3 hP hS hf (lv_sub hl [2, 1, 0] rfl)
theorem al_X10_status_32 {p : Program} {l : Launch} {e : Env} {R : Room} {s : State} {m : MethodId} {args : Array Value} {below : List Frame} {meth : Method} {c : Code} {G : GT} {τ : Mem} {res : Int} (X : CX p R s m args meth c cX10_status 4 RX10 (some FieldType.int) 3 104 G) : ∀ n, S_X10_status_32 (X10_status_L32 n) p l e R s m args below meth c G τ res := by
  intro n
  induction n with
  | zero =>
    intro σ H locs ls l2 l3 hP hS hf hl
    cases hf
  | succ n ih => exact a_X10_status_32 X ih
set_option maxHeartbeats 4000000 in
theorem a_X10_status_0 {p : Program} {l : Launch} {e : Env} {R : Room} {s : State} {m : MethodId} {args : Array Value} {below : List Frame} {meth : Method} {c : Code} {G : GT} {τ : Mem} {res : Int} (X : CX p R s m args meth c cX10_status 4 RX10 (some FieldType.int) 3 104 G) : S_X10_status_0 (X10_status) p l e R s m args below meth c G τ res := by
  intro σ H locs ls l1 hP hS hf hl
  unfold X10_status at hf
  refine lv_iload_n X.1 X.2.1 dX10_status_0 rfl (lv_at hl 1 rfl) ?_
  refine r_iconst X (-1) dX10_status_1 ?_
  refine r_bipush X 6 (by decide) dX10_status_2 ?_
  obtain ⟨r1, hr1, hf⟩ := bd_inv hf
  refine k_X10_within X hP hS hl.1  hr1 (tb t_423 rfl) (by decide) (Nat.le_of_ble_eq_true rfl) dX10_status_4 (fun H locs hP hS => ?_)
  refine r_if_ne (tgt := 17) X dX10_status_7 (by decide) (fun q => ?_) (fun q => ?_)
  · replace hf := it_inv q hf
    refine lv_iload_n X.1 X.2.1 dX10_status_17 rfl (lv_at hl 1 rfl) ?_
    refine r_if_lt (tgt := 28) X dX10_status_18 (by decide) (fun q => ?_) (fun q => ?_)
    · replace hf := it_inv q hf
      refine r_iconst X 0 dX10_status_28 ?_
      refine lv_istore_n (lv' := [(2, .int (i32 0)), (0, .ref (gh G + 0)), (1, .int (i32 l1))]) X.1 X.2.1 dX10_status_29 rfl hl (by decide) rfl (fun ls hl => ?_)
      refine r_iconst X 0 dX10_status_30 ?_
      refine lv_istore_n (lv' := [(3, .int (i32 0)), (2, .int (i32 0)), (0, .ref (gh G + 0)), (1, .int (i32 l1))]) X.1 X.2.1 dX10_status_31 rfl hl (by decide) rfl (fun ls hl => ?_)
      exact al_X10_status_32 X 5000 σ H locs ls 0 0 hP hS hf (lv_sub hl [2, 1, 0] rfl)
    · replace hf := ie_inv q hf
      refine lv_aload_n X.1 X.2.1 dX10_status_21 rfl (lv_at hl 0 rfl) ?_
      refine g_10_8 (r := 62) X hP ks_10 rfl (tb t_396 rfl) dX10_status_22 ?_
      refine lv_iload_n X.1 X.2.1 dX10_status_25 rfl (lv_at hl 1 rfl) ?_
      obtain ⟨j2, hij2, hjj2, hlj2, hf⟩ := ag_inv hf
      refine r_iald X hP (ch_10_8 ks_10).1 (ch_10_8 ks_10).2 hij2 hjj2 dX10_status_26 ?_
      obtain ⟨rfl, rfl⟩ := so2_inv hf
      exact r_iret X hP hS dX10_status_27
  · replace hf := ie_inv q hf
    refine lv_aload_n X.1 X.2.1 dX10_status_10 rfl (lv_at hl 0 rfl) ?_
    refine r_ldc X (-1000001) (tb t_430 rfl) (by decide) dX10_status_11 ?_
    obtain ⟨r3, s4, hr3, hf⟩ := bd2_inv hf
    refine k_X10_tell X hP hS hl.1  hr3 (tb t_431 rfl) (by decide) (Nat.le_of_ble_eq_true rfl) dX10_status_13 (fun H locs hP hS => ?_)
    obtain ⟨rfl, rfl⟩ := so2_inv hf
    exact r_iret X hP hS dX10_status_16
set_option maxHeartbeats 4000000 in
theorem c_X10_status {l : Launch} {G : GT} {σ τ : Mem} {res : Int} {l1 : Int} (hf : X10_status σ l1 = some (res, τ)) : CT l yX10_status cX10_status 4 (some FieldType.int) 3 104 G [.ref (gh G + 0), .int (i32 l1)] σ τ (some (.int (i32 res))) := by
  refine CT.mk (own := RX10) (by decide) rfl (Nat.le_of_ble_eq_true rfl) ?_
  intro p e s m below meth c ls X hP hS hl
  have hl : lv_has ls 4 [(0, .ref (gh G + 0)), (1, .int (i32 l1))] := hl
  exact a_X10_status_0 X σ s.heap [] ls l1 hP hS hf hl
theorem k_X10_status {p : Program} {l : Launch} {e : Env} {R : Room} {s : State} {m : MethodId} {args : Array Value} {below : List Frame} {meth : Method} {c : Code} {H : Heap} {locs : List Loc} {Q : State → Prop} {cc : ByteArray} {nL : Nat} {own : String} {ret : Option FieldType} {fF fL : Nat} {G : GT} {pc idx : Nat} {ls : Array Slot} {rest : List Value} {σ τ : Mem} {res : Int} {l1 : Int} (X : CX p R s m args meth c cc nL own ret fF fL G) (hP : PW G σ H) (hS : va_S (AA G) s.heap H locs) (hls : ls.size = nL) (hf : X10_status σ l1 = some (res, τ)) (h1 : Cond.methodLink own idx yX10_status ∈ TB) (hR : 3 + 1 ≤ fF ∧ 8 + (4 + 11) + 104 ≤ fL) (hW : (rest.map fun v => v.category).sum ≤ 8) (hd : decode cc pc = .ok (.invokevirtual idx, 3)) (kk : ∀ (H1 : Heap) (locs1 : List Loc), PW G τ H1 → va_S (AA G) s.heap H1 locs1 → W p l e R s m args below meth c H1 locs1 0 0 Q (F0 m (pc + 3) ls (.int (i32 res) :: rest))) : W p l e R s m args below meth c H locs 0 0 Q (F0 m pc ls (.int (i32 l1) :: .ref (gh G + 0) :: rest)) := r_callV (n := 1) X hP hS hls (c_X10_status hf) h1 (tb t_1075 rfl) (tb t_1076 rfl) (tb t_75 rfl) (tb t_1077 rfl) (by decide +kernel) hR (r_recv X hP (kd_lt ks_10 (by decide)) (cE_10 ks_10) rfl) rfl rfl hW hd kk
/-! X2_barOfStop -/
theorem dX2_barOfStop_0 : decode cX2_barOfStop 0 = .ok (.iload_n 1, 1) := by decide +kernel
theorem dX2_barOfStop_1 : decode cX2_barOfStop 1 = .ok (.istore_n 2, 1) := by decide +kernel
theorem dX2_barOfStop_2 : decode cX2_barOfStop 2 = .ok (.iconst 0, 1) := by decide +kernel
theorem dX2_barOfStop_3 : decode cX2_barOfStop 3 = .ok (.istore_n 3, 1) := by decide +kernel
theorem dX2_barOfStop_4 : decode cX2_barOfStop 4 = .ok (.iload_n 3, 1) := by decide +kernel
theorem dX2_barOfStop_5 : decode cX2_barOfStop 5 = .ok (.bipush 40, 2) := by decide +kernel
theorem dX2_barOfStop_7 : decode cX2_barOfStop 7 = .ok (.if_icmp .ge 31, 3) := by decide +kernel
theorem dX2_barOfStop_10 : decode cX2_barOfStop 10 = .ok (.aload_n 0, 1) := by decide +kernel
theorem dX2_barOfStop_11 : decode cX2_barOfStop 11 = .ok (.getfield 30, 3) := by decide +kernel
theorem dX2_barOfStop_14 : decode cX2_barOfStop 14 = .ok (.iload_n 3, 1) := by decide +kernel
theorem dX2_barOfStop_15 : decode cX2_barOfStop 15 = .ok (.iaload, 1) := by decide +kernel
theorem dX2_barOfStop_16 : decode cX2_barOfStop 16 = .ok (.iconst 2, 1) := by decide +kernel
theorem dX2_barOfStop_17 : decode cX2_barOfStop 17 = .ok (.if_icmp .eq 6, 3) := by decide +kernel
theorem dX2_barOfStop_20 : decode cX2_barOfStop 20 = .ok (.goto 12, 3) := by decide +kernel
theorem dX2_barOfStop_23 : decode cX2_barOfStop 23 = .ok (.iload_n 2, 1) := by decide +kernel
theorem dX2_barOfStop_24 : decode cX2_barOfStop 24 = .ok (.ifCond .ne 5, 3) := by decide +kernel
theorem dX2_barOfStop_27 : decode cX2_barOfStop 27 = .ok (.iload_n 3, 1) := by decide +kernel
theorem dX2_barOfStop_28 : decode cX2_barOfStop 28 = .ok (.ireturn, 1) := by decide +kernel
theorem dX2_barOfStop_29 : decode cX2_barOfStop 29 = .ok (.iinc 2 (-1), 3) := by decide +kernel
theorem dX2_barOfStop_32 : decode cX2_barOfStop 32 = .ok (.iinc 3 1, 3) := by decide +kernel
theorem dX2_barOfStop_35 : decode cX2_barOfStop 35 = .ok (.goto (-31), 3) := by decide +kernel
theorem dX2_barOfStop_38 : decode cX2_barOfStop 38 = .ok (.iconst (-1), 1) := by decide +kernel
theorem dX2_barOfStop_39 : decode cX2_barOfStop 39 = .ok (.ireturn, 1) := by decide +kernel
def S_X2_barOfStop_4 (fn : Nat → Int → Int → Option (Int)) (p : Program) (l : Launch) (e : Env) (R : Room) (s : State) (m : MethodId) (args : Array Value) (below : List Frame) (meth : Method) (c : Code) (G : GT) (σ : Mem) (res : Int) : Prop := ∀ (H : Heap) (locs : List Loc) (ls : Array Slot) (l0 : Nat) (l2 : Int) (l3 : Int), kd l0 = 2 → PW G σ H → va_S (AA G) s.heap H locs → fn l0 l2 l3 = some res → lv_has ls 4 [(0, .ref (gh G + l0)), (2, .int (i32 l2)), (3, .int (i32 l3))] → W p l e R s m args below meth c H locs 0 0 (MQ below (QM G (some (.int (i32 res))) σ) args s 0 0 (AA G)) (F0 m 4 ls [])
def X2_barOfStop_B32 (rec4 : Nat → Int → Int → Option (Int)) (σ : Mem) (l0 : Nat) (l2 : Int) (l3 : Int) : Option (Int) :=
  lt (l3 + 1) fun l3_1 =>
  rec4 l0 l2 l3_1
def S_X2_barOfStop_32 (fn : Nat → Int → Int → Option (Int)) (p : Program) (l : Launch) (e : Env) (R : Room) (s : State) (m : MethodId) (args : Array Value) (below : List Frame) (meth : Method) (c : Code) (G : GT) (σ : Mem) (res : Int) : Prop := ∀ (H : Heap) (locs : List Loc) (ls : Array Slot) (l0 : Nat) (l2 : Int) (l3 : Int), kd l0 = 2 → PW G σ H → va_S (AA G) s.heap H locs → fn l0 l2 l3 = some res → lv_has ls 4 [(0, .ref (gh G + l0)), (2, .int (i32 l2)), (3, .int (i32 l3))] → W p l e R s m args below meth c H locs 0 0 (MQ below (QM G (some (.int (i32 res))) σ) args s 0 0 (AA G)) (F0 m 32 ls [])
def X2_barOfStop_B4 (rec4 : Nat → Int → Int → Option (Int)) (σ : Mem) (l0 : Nat) (l2 : Int) (l3 : Int) : Option (Int) :=
  if w32 40 ≤ w32 l3 then
    some (-1)
  else
  ag 40 l3 fun j1 =>
  if w32 (σ (l0 + 7) j1) = w32 2 then
    if w32 l2 ≠ 0 then
      lt (l2 + (-1)) fun l2_2 =>
      X2_barOfStop_B32 rec4 σ l0 l2_2 l3
    else
    some l3
  else
  X2_barOfStop_B32 rec4 σ l0 l2 l3
def X2_barOfStop_L4 (σ : Mem) : Nat → Nat → Int → Int → Option (Int)
  | 0 => fun _ _ _ => none
  | n + 1 => X2_barOfStop_B4 (X2_barOfStop_L4 σ n) σ
def X2_barOfStop (σ : Mem) (l0 : Nat) (l1 : Int) : Option (Int) :=
  X2_barOfStop_L4 σ 5000 l0 l1 0
def S_X2_barOfStop_0 (fn : Nat → Int → Option (Int)) (p : Program) (l : Launch) (e : Env) (R : Room) (s : State) (m : MethodId) (args : Array Value) (below : List Frame) (meth : Method) (c : Code) (G : GT) (σ : Mem) (res : Int) : Prop := ∀ (H : Heap) (locs : List Loc) (ls : Array Slot) (l0 : Nat) (l1 : Int), kd l0 = 2 → PW G σ H → va_S (AA G) s.heap H locs → fn l0 l1 = some res → lv_has ls 4 [(0, .ref (gh G + l0)), (1, .int (i32 l1))] → W p l e R s m args below meth c H locs 0 0 (MQ below (QM G (some (.int (i32 res))) σ) args s 0 0 (AA G)) (F0 m 0 ls [])
set_option maxHeartbeats 4000000 in
theorem a_X2_barOfStop_32 {p : Program} {l : Launch} {e : Env} {R : Room} {s : State} {m : MethodId} {args : Array Value} {below : List Frame} {meth : Method} {c : Code} {G : GT} {σ : Mem} {res : Int} {rec4 : Nat → Int → Int → Option (Int)} (X : CX p R s m args meth c cX2_barOfStop 4 RX2 (some FieldType.int) 1 60 G) (h4 : S_X2_barOfStop_4 rec4 p l e R s m args below meth c G σ res) : S_X2_barOfStop_32 (X2_barOfStop_B32 rec4 σ) p l e R s m args below meth c G σ res := by
  intro H locs ls l0 l2 l3 hk_l0 hP hS hf hl
  unfold X2_barOfStop_B32 at hf
  obtain ⟨l3_1, el3_1, hf⟩ := lt_inv hf
  refine lv_iinc (v := i32 l3_1) (lv' := [(3, .int (i32 l3_1)), (0, .ref (gh G + l0)), (2, .int (i32 l2))]) X.1 X.2.1 dX2_barOfStop_32 hl (k := 2) rfl (by rw [← el3_1]; exact i32_add _ _) (by decide) rfl (fun ls hl => ?_)
  refine lv_goto (tgt := 4) X.1 X.2.1 dX2_barOfStop_35 (by decide) ?_
  exact h4  H locs ls l0 l2 l3_1 hk_l0 hP hS hf (lv_sub hl [1, 2, 0] rfl)
set_option maxHeartbeats 4000000 in
theorem a_X2_barOfStop_4 {p : Program} {l : Launch} {e : Env} {R : Room} {s : State} {m : MethodId} {args : Array Value} {below : List Frame} {meth : Method} {c : Code} {G : GT} {σ : Mem} {res : Int} {rec4 : Nat → Int → Int → Option (Int)} (X : CX p R s m args meth c cX2_barOfStop 4 RX2 (some FieldType.int) 1 60 G) (h4 : S_X2_barOfStop_4 rec4 p l e R s m args below meth c G σ res) : S_X2_barOfStop_4 (X2_barOfStop_B4 rec4 σ) p l e R s m args below meth c G σ res := by
  intro H locs ls l0 l2 l3 hk_l0 hP hS hf hl
  unfold X2_barOfStop_B4 at hf
  refine lv_iload_n X.1 X.2.1 dX2_barOfStop_4 rfl (lv_at hl 2 rfl) ?_
  refine r_bipush X 40 (by decide) dX2_barOfStop_5 ?_
  refine r_icmp_ge (tgt := 38) X dX2_barOfStop_7 (by decide) (fun q => ?_) (fun q => ?_)
  · replace hf := it_inv q hf
    refine r_iconst X (-1) dX2_barOfStop_38 ?_
    cases so_inv hf
    exact r_iret X hP hS dX2_barOfStop_39
  · replace hf := ie_inv q hf
    refine lv_aload_n X.1 X.2.1 dX2_barOfStop_10 rfl (lv_at hl 0 rfl) ?_
    refine g_2_12 (r := l0 + 7) X hP hk_l0 rfl (tb t_359 rfl) dX2_barOfStop_11 ?_
    refine lv_iload_n X.1 X.2.1 dX2_barOfStop_14 rfl (lv_at hl 2 rfl) ?_
    obtain ⟨j1, hij1, hjj1, hlj1, hf⟩ := ag_inv hf
    refine r_iald X hP (ch_2_12 hk_l0).1 (ch_2_12 hk_l0).2 hij1 hjj1 dX2_barOfStop_15 ?_
    refine r_iconst X 2 dX2_barOfStop_16 ?_
    refine r_icmp_eq (tgt := 23) X dX2_barOfStop_17 (by decide) (fun q => ?_) (fun q => ?_)
    · replace hf := it_inv q hf
      refine lv_iload_n X.1 X.2.1 dX2_barOfStop_23 rfl (lv_at hl 1 rfl) ?_
      refine r_if_ne (tgt := 29) X dX2_barOfStop_24 (by decide) (fun q => ?_) (fun q => ?_)
      · replace hf := it_inv q hf
        obtain ⟨l2_2, el2_2, hf⟩ := lt_inv hf
        refine lv_iinc (v := i32 l2_2) (lv' := [(2, .int (i32 l2_2)), (0, .ref (gh G + l0)), (3, .int (i32 l3))]) X.1 X.2.1 dX2_barOfStop_29 hl (k := 1) rfl (by rw [← el2_2]; exact i32_add _ _) (by decide) rfl (fun ls hl => ?_)
        exact a_X2_barOfStop_32 X h4  H locs ls l0 l2_2 l3 hk_l0 hP hS hf (lv_sub hl [1, 0, 2] rfl)
      · replace hf := ie_inv q hf
        refine lv_iload_n X.1 X.2.1 dX2_barOfStop_27 rfl (lv_at hl 2 rfl) ?_
        cases so_inv hf
        exact r_iret X hP hS dX2_barOfStop_28
    · replace hf := ie_inv q hf
      refine lv_goto (tgt := 32) X.1 X.2.1 dX2_barOfStop_20 (by decide) ?_
      exact a_X2_barOfStop_32 X h4  H locs ls l0 l2 l3 hk_l0 hP hS hf hl
theorem al_X2_barOfStop_4 {p : Program} {l : Launch} {e : Env} {R : Room} {s : State} {m : MethodId} {args : Array Value} {below : List Frame} {meth : Method} {c : Code} {G : GT} {σ : Mem} {res : Int} (X : CX p R s m args meth c cX2_barOfStop 4 RX2 (some FieldType.int) 1 60 G) : ∀ n, S_X2_barOfStop_4 (X2_barOfStop_L4 σ n) p l e R s m args below meth c G σ res := by
  intro n
  induction n with
  | zero =>
    intro H locs ls l0 l2 l3 hk_l0 hP hS hf hl
    cases hf
  | succ n ih => exact a_X2_barOfStop_4 X ih
set_option maxHeartbeats 4000000 in
theorem a_X2_barOfStop_0 {p : Program} {l : Launch} {e : Env} {R : Room} {s : State} {m : MethodId} {args : Array Value} {below : List Frame} {meth : Method} {c : Code} {G : GT} {σ : Mem} {res : Int} (X : CX p R s m args meth c cX2_barOfStop 4 RX2 (some FieldType.int) 1 60 G) : S_X2_barOfStop_0 (X2_barOfStop σ) p l e R s m args below meth c G σ res := by
  intro H locs ls l0 l1 hk_l0 hP hS hf hl
  unfold X2_barOfStop at hf
  refine lv_iload_n X.1 X.2.1 dX2_barOfStop_0 rfl (lv_at hl 1 rfl) ?_
  refine lv_istore_n (lv' := [(2, .int (i32 l1)), (0, .ref (gh G + l0)), (1, .int (i32 l1))]) X.1 X.2.1 dX2_barOfStop_1 rfl hl (by decide) rfl (fun ls hl => ?_)
  refine r_iconst X 0 dX2_barOfStop_2 ?_
  refine lv_istore_n (lv' := [(3, .int (i32 0)), (2, .int (i32 l1)), (0, .ref (gh G + l0)), (1, .int (i32 l1))]) X.1 X.2.1 dX2_barOfStop_3 rfl hl (by decide) rfl (fun ls hl => ?_)
  exact al_X2_barOfStop_4 X 5000  H locs ls l0 l1 0 hk_l0 hP hS hf (lv_sub hl [2, 1, 0] rfl)
set_option maxHeartbeats 4000000 in
theorem c_X2_barOfStop {l : Launch} {G : GT} {σ : Mem} {res : Int} {l0 : Nat} {l1 : Int} (hk_l0 : kd l0 = 2) (hf : X2_barOfStop σ l0 l1 = some res) : CT l yX2_barOfStop cX2_barOfStop 4 (some FieldType.int) 1 60 G [.ref (gh G + l0), .int (i32 l1)] σ σ (some (.int (i32 res))) := by
  refine CT.mk (own := RX2) (by decide) rfl (Nat.le_of_ble_eq_true rfl) ?_
  intro p e s m below meth c ls X hP hS hl
  have hl : lv_has ls 4 [(0, .ref (gh G + l0)), (1, .int (i32 l1))] := hl
  exact a_X2_barOfStop_0 X  s.heap [] ls l0 l1 hk_l0 hP hS hf hl
theorem k_X2_barOfStop {p : Program} {l : Launch} {e : Env} {R : Room} {s : State} {m : MethodId} {args : Array Value} {below : List Frame} {meth : Method} {c : Code} {H : Heap} {locs : List Loc} {Q : State → Prop} {cc : ByteArray} {nL : Nat} {own : String} {ret : Option FieldType} {fF fL : Nat} {G : GT} {pc idx : Nat} {ls : Array Slot} {rest : List Value} {σ : Mem} {res : Int} {l0 : Nat} {l1 : Int} (X : CX p R s m args meth c cc nL own ret fF fL G) (hP : PW G σ H) (hS : va_S (AA G) s.heap H locs) (hls : ls.size = nL) (hk_l0 : kd l0 = 2) (hf : X2_barOfStop σ l0 l1 = some res) (h1 : Cond.methodLink own idx yX2_barOfStop ∈ TB) (hR : 1 + 1 ≤ fF ∧ 8 + (4 + 11) + 60 ≤ fL) (hW : (rest.map fun v => v.category).sum ≤ 8) (hd : decode cc pc = .ok (.invokevirtual idx, 3)) (kk : ∀ (H1 : Heap) (locs1 : List Loc), PW G σ H1 → va_S (AA G) s.heap H1 locs1 → W p l e R s m args below meth c H1 locs1 0 0 Q (F0 m (pc + 3) ls (.int (i32 res) :: rest))) : W p l e R s m args below meth c H locs 0 0 Q (F0 m pc ls (.int (i32 l1) :: .ref (gh G + l0) :: rest)) := r_callV (n := 1) X hP hS hls (c_X2_barOfStop hk_l0 hf) h1 (tb t_878 rfl) (tb t_879 rfl) (tb t_86 rfl) (tb t_880 rfl) (by decide +kernel) hR (r_recv X hP (kd_lt hk_l0 (by decide)) (cE_2 hk_l0) rfl) rfl rfl hW hd kk
/-! X10_stop -/
theorem dX10_stop_0 : decode cX10_stop 0 = .ok (.iload_n 1, 1) := by decide +kernel
theorem dX10_stop_1 : decode cX10_stop 1 = .ok (.invokestatic 58, 3) := by decide +kernel
theorem dX10_stop_4 : decode cX10_stop 4 = .ok (.ifCond .eq 7, 3) := by decide +kernel
theorem dX10_stop_7 : decode cX10_stop 7 = .ok (.iload_n 2, 1) := by decide +kernel
theorem dX10_stop_8 : decode cX10_stop 8 = .ok (.ifCond .ge 10, 3) := by decide +kernel
theorem dX10_stop_11 : decode cX10_stop 11 = .ok (.aload_n 0, 1) := by decide +kernel
theorem dX10_stop_12 : decode cX10_stop 12 = .ok (.ldc 72, 2) := by decide +kernel
theorem dX10_stop_14 : decode cX10_stop 14 = .ok (.invokevirtual 73, 3) := by decide +kernel
theorem dX10_stop_17 : decode cX10_stop 17 = .ok (.ireturn, 1) := by decide +kernel
theorem dX10_stop_18 : decode cX10_stop 18 = .ok (.aload_n 0, 1) := by decide +kernel
theorem dX10_stop_19 : decode cX10_stop 19 = .ok (.iload_n 1, 1) := by decide +kernel
theorem dX10_stop_20 : decode cX10_stop 20 = .ok (.invokevirtual 206, 3) := by decide +kernel
theorem dX10_stop_23 : decode cX10_stop 23 = .ok (.iload_n 2, 1) := by decide +kernel
theorem dX10_stop_24 : decode cX10_stop 24 = .ok (.invokevirtual 234, 3) := by decide +kernel
theorem dX10_stop_27 : decode cX10_stop 27 = .ok (.istore_n 3, 1) := by decide +kernel
theorem dX10_stop_28 : decode cX10_stop 28 = .ok (.iload_n 3, 1) := by decide +kernel
theorem dX10_stop_29 : decode cX10_stop 29 = .ok (.ifCond .ge 12, 3) := by decide +kernel
theorem dX10_stop_32 : decode cX10_stop 32 = .ok (.aload_n 0, 1) := by decide +kernel
theorem dX10_stop_33 : decode cX10_stop 33 = .ok (.ldc 205, 2) := by decide +kernel
theorem dX10_stop_35 : decode cX10_stop 35 = .ok (.invokevirtual 73, 3) := by decide +kernel
theorem dX10_stop_38 : decode cX10_stop 38 = .ok (.goto 4, 3) := by decide +kernel
theorem dX10_stop_41 : decode cX10_stop 41 = .ok (.iload_n 3, 1) := by decide +kernel
theorem dX10_stop_42 : decode cX10_stop 42 = .ok (.ireturn, 1) := by decide +kernel
def X10_stop_B11 (σ : Mem) : Option (Int × Mem) :=
  bd2 (X10_tell σ (-1000001)) fun r1 s2 =>
  some (r1, s2)
def S_X10_stop_11 (fn : Mem → Option (Int × Mem)) (p : Program) (l : Launch) (e : Env) (R : Room) (s : State) (m : MethodId) (args : Array Value) (below : List Frame) (meth : Method) (c : Code) (G : GT) (τ : Mem) (res : Int) : Prop := ∀ (σ : Mem) (H : Heap) (locs : List Loc) (ls : Array Slot), PW G σ H → va_S (AA G) s.heap H locs → fn σ = some (res, τ) → lv_has ls 4 [(0, .ref (gh G + 0))] → W p l e R s m args below meth c H locs 0 0 (MQ below (QM G (some (.int (i32 res))) τ) args s 0 0 (AA G)) (F0 m 11 ls [])
def X10_stop (σ : Mem) (l1 : Int) (l2 : Int) : Option (Int × Mem) :=
  bd (X10_isPart σ l1) fun r1 =>
  if w32 r1 = 0 then
    X10_stop_B11 σ
  else
  if 0 ≤ w32 l2 then
    bd2 (X10_layingOf σ l1) fun r2 s3 =>
    kg 2 r2 <|
    bd (X2_barOfStop s3 r2 l2) fun r4 =>
    if 0 ≤ w32 r4 then
      some (r4, s3)
    else
    bd2 (X10_tell s3 (-1000004)) fun r5 s6 =>
    some (r5, s6)
  else
  X10_stop_B11 σ
def S_X10_stop_0 (fn : Mem → Int → Int → Option (Int × Mem)) (p : Program) (l : Launch) (e : Env) (R : Room) (s : State) (m : MethodId) (args : Array Value) (below : List Frame) (meth : Method) (c : Code) (G : GT) (τ : Mem) (res : Int) : Prop := ∀ (σ : Mem) (H : Heap) (locs : List Loc) (ls : Array Slot) (l1 : Int) (l2 : Int), PW G σ H → va_S (AA G) s.heap H locs → fn σ l1 l2 = some (res, τ) → lv_has ls 4 [(0, .ref (gh G + 0)), (1, .int (i32 l1)), (2, .int (i32 l2))] → W p l e R s m args below meth c H locs 0 0 (MQ below (QM G (some (.int (i32 res))) τ) args s 0 0 (AA G)) (F0 m 0 ls [])
set_option maxHeartbeats 4000000 in
theorem a_X10_stop_11 {p : Program} {l : Launch} {e : Env} {R : Room} {s : State} {m : MethodId} {args : Array Value} {below : List Frame} {meth : Method} {c : Code} {G : GT} {τ : Mem} {res : Int} (X : CX p R s m args meth c cX10_stop 4 RX10 (some FieldType.int) 7 209 G) : S_X10_stop_11 (X10_stop_B11) p l e R s m args below meth c G τ res := by
  intro σ H locs ls hP hS hf hl
  unfold X10_stop_B11 at hf
  refine lv_aload_n X.1 X.2.1 dX10_stop_11 rfl (lv_at hl 0 rfl) ?_
  refine r_ldc X (-1000001) (tb t_430 rfl) (by decide) dX10_stop_12 ?_
  obtain ⟨r1, s2, hr1, hf⟩ := bd2_inv hf
  refine k_X10_tell X hP hS hl.1  hr1 (tb t_431 rfl) (by decide) (Nat.le_of_ble_eq_true rfl) dX10_stop_14 (fun H locs hP hS => ?_)
  obtain ⟨rfl, rfl⟩ := so2_inv hf
  exact r_iret X hP hS dX10_stop_17
set_option maxHeartbeats 4000000 in
theorem a_X10_stop_0 {p : Program} {l : Launch} {e : Env} {R : Room} {s : State} {m : MethodId} {args : Array Value} {below : List Frame} {meth : Method} {c : Code} {G : GT} {τ : Mem} {res : Int} (X : CX p R s m args meth c cX10_stop 4 RX10 (some FieldType.int) 7 209 G) : S_X10_stop_0 (X10_stop) p l e R s m args below meth c G τ res := by
  intro σ H locs ls l1 l2 hP hS hf hl
  unfold X10_stop at hf
  refine lv_iload_n X.1 X.2.1 dX10_stop_0 rfl (lv_at hl 1 rfl) ?_
  obtain ⟨r1, hr1, hf⟩ := bd_inv hf
  refine k_X10_isPart X hP hS hl.1  hr1 (tb t_420 rfl) (by decide) (Nat.le_of_ble_eq_true rfl) dX10_stop_1 (fun H locs hP hS => ?_)
  refine r_if_eq (tgt := 11) X dX10_stop_4 (by decide) (fun q => ?_) (fun q => ?_)
  · replace hf := it_inv q hf
    exact a_X10_stop_11 X σ H locs ls  hP hS hf (lv_sub hl [0] rfl)
  · replace hf := ie_inv q hf
    refine lv_iload_n X.1 X.2.1 dX10_stop_7 rfl (lv_at hl 2 rfl) ?_
    refine r_if_ge (tgt := 18) X dX10_stop_8 (by decide) (fun q => ?_) (fun q => ?_)
    · replace hf := it_inv q hf
      refine lv_aload_n X.1 X.2.1 dX10_stop_18 rfl (lv_at hl 0 rfl) ?_
      refine lv_iload_n X.1 X.2.1 dX10_stop_19 rfl (lv_at hl 1 rfl) ?_
      obtain ⟨r2, s3, hr2, hf⟩ := bd2_inv hf
      refine k_X10_layingOf X hP hS hl.1  hr2 (tb t_752 rfl) (by decide) (Nat.le_of_ble_eq_true rfl) dX10_stop_20 (fun H locs hP hS => ?_)
      obtain ⟨hk_r2, hf⟩ := kg_inv hf
      refine lv_iload_n X.1 X.2.1 dX10_stop_23 rfl (lv_at hl 2 rfl) ?_
      obtain ⟨r4, hr4, hf⟩ := bd_inv hf
      refine k_X2_barOfStop X hP hS hl.1 hk_r2 hr4 (tb t_877 rfl) (by decide) (Nat.le_of_ble_eq_true rfl) dX10_stop_24 (fun H locs hP hS => ?_)
      refine lv_istore_n (lv' := [(3, .int (i32 r4)), (0, .ref (gh G + 0)), (1, .int (i32 l1)), (2, .int (i32 l2))]) X.1 X.2.1 dX10_stop_27 rfl hl (by decide) rfl (fun ls hl => ?_)
      refine lv_iload_n X.1 X.2.1 dX10_stop_28 rfl (lv_at hl 0 rfl) ?_
      refine r_if_ge (tgt := 41) X dX10_stop_29 (by decide) (fun q => ?_) (fun q => ?_)
      · replace hf := it_inv q hf
        refine lv_iload_n X.1 X.2.1 dX10_stop_41 rfl (lv_at hl 0 rfl) ?_
        obtain ⟨rfl, rfl⟩ := so2_inv hf
        exact r_iret X hP hS dX10_stop_42
      · replace hf := ie_inv q hf
        refine lv_aload_n X.1 X.2.1 dX10_stop_32 rfl (lv_at hl 1 rfl) ?_
        refine r_ldc X (-1000004) (tb t_747 rfl) (by decide) dX10_stop_33 ?_
        obtain ⟨r5, s6, hr5, hf⟩ := bd2_inv hf
        refine k_X10_tell X hP hS hl.1  hr5 (tb t_431 rfl) (by decide) (Nat.le_of_ble_eq_true rfl) dX10_stop_35 (fun H locs hP hS => ?_)
        refine lv_goto (tgt := 42) X.1 X.2.1 dX10_stop_38 (by decide) ?_
        obtain ⟨rfl, rfl⟩ := so2_inv hf
        exact r_iret X hP hS dX10_stop_42
    · replace hf := ie_inv q hf
      exact a_X10_stop_11 X σ H locs ls  hP hS hf (lv_sub hl [0] rfl)
set_option maxHeartbeats 4000000 in
theorem c_X10_stop {l : Launch} {G : GT} {σ τ : Mem} {res : Int} {l1 : Int} {l2 : Int} (hf : X10_stop σ l1 l2 = some (res, τ)) : CT l yX10_stop cX10_stop 4 (some FieldType.int) 7 209 G [.ref (gh G + 0), .int (i32 l1), .int (i32 l2)] σ τ (some (.int (i32 res))) := by
  refine CT.mk (own := RX10) (by decide) rfl (Nat.le_of_ble_eq_true rfl) ?_
  intro p e s m below meth c ls X hP hS hl
  have hl : lv_has ls 4 [(0, .ref (gh G + 0)), (1, .int (i32 l1)), (2, .int (i32 l2))] := hl
  exact a_X10_stop_0 X σ s.heap [] ls l1 l2 hP hS hf hl
theorem k_X10_stop {p : Program} {l : Launch} {e : Env} {R : Room} {s : State} {m : MethodId} {args : Array Value} {below : List Frame} {meth : Method} {c : Code} {H : Heap} {locs : List Loc} {Q : State → Prop} {cc : ByteArray} {nL : Nat} {own : String} {ret : Option FieldType} {fF fL : Nat} {G : GT} {pc idx : Nat} {ls : Array Slot} {rest : List Value} {σ τ : Mem} {res : Int} {l1 : Int} {l2 : Int} (X : CX p R s m args meth c cc nL own ret fF fL G) (hP : PW G σ H) (hS : va_S (AA G) s.heap H locs) (hls : ls.size = nL) (hf : X10_stop σ l1 l2 = some (res, τ)) (h1 : Cond.methodLink own idx yX10_stop ∈ TB) (hR : 7 + 1 ≤ fF ∧ 8 + (4 + 11) + 209 ≤ fL) (hW : (rest.map fun v => v.category).sum ≤ 8) (hd : decode cc pc = .ok (.invokevirtual idx, 3)) (kk : ∀ (H1 : Heap) (locs1 : List Loc), PW G τ H1 → va_S (AA G) s.heap H1 locs1 → W p l e R s m args below meth c H1 locs1 0 0 Q (F0 m (pc + 3) ls (.int (i32 res) :: rest))) : W p l e R s m args below meth c H locs 0 0 Q (F0 m pc ls (.int (i32 l2) :: .int (i32 l1) :: .ref (gh G + 0) :: rest)) := r_callV (n := 2) X hP hS hls (c_X10_stop hf) h1 (tb t_874 rfl) (tb t_875 rfl) (tb t_75 rfl) (tb t_876 rfl) (by decide +kernel) hR (r_recv X hP (kd_lt ks_10 (by decide)) (cE_10 ks_10) rfl) rfl rfl hW hd kk
/-! X10_tear -/
theorem dX10_tear_0 : decode cX10_tear 0 = .ok (.aload_n 0, 1) := by decide +kernel
theorem dX10_tear_1 : decode cX10_tear 1 = .ok (.getfield 336, 3) := by decide +kernel
theorem dX10_tear_4 : decode cX10_tear 4 = .ok (.ifCond .eq 7, 3) := by decide +kernel
theorem dX10_tear_7 : decode cX10_tear 7 = .ok (.iconst 1, 1) := by decide +kernel
theorem dX10_tear_8 : decode cX10_tear 8 = .ok (.goto 4, 3) := by decide +kernel
theorem dX10_tear_11 : decode cX10_tear 11 = .ok (.iconst 0, 1) := by decide +kernel
theorem dX10_tear_12 : decode cX10_tear 12 = .ok (.istore_n 1, 1) := by decide +kernel
theorem dX10_tear_13 : decode cX10_tear 13 = .ok (.aload_n 0, 1) := by decide +kernel
theorem dX10_tear_14 : decode cX10_tear 14 = .ok (.iconst 0, 1) := by decide +kernel
theorem dX10_tear_15 : decode cX10_tear 15 = .ok (.putfield 336, 3) := by decide +kernel
theorem dX10_tear_18 : decode cX10_tear 18 = .ok (.iload_n 1, 1) := by decide +kernel
theorem dX10_tear_19 : decode cX10_tear 19 = .ok (.ireturn, 1) := by decide +kernel
def X10_tear_B12 (σ : Mem) (k0 : Int) : Option (Int × Mem) :=
  lt (st σ 0 2 0) fun s1 =>
  some (k0, s1)
def S_X10_tear_12 (fn : Mem → Int → Option (Int × Mem)) (p : Program) (l : Launch) (e : Env) (R : Room) (s : State) (m : MethodId) (args : Array Value) (below : List Frame) (meth : Method) (c : Code) (G : GT) (τ : Mem) (res : Int) : Prop := ∀ (σ : Mem) (H : Heap) (locs : List Loc) (ls : Array Slot) (k0 : Int), PW G σ H → va_S (AA G) s.heap H locs → fn σ k0 = some (res, τ) → lv_has ls 2 [(0, .ref (gh G + 0))] → W p l e R s m args below meth c H locs 0 0 (MQ below (QM G (some (.int (i32 res))) τ) args s 0 0 (AA G)) (F0 m 12 ls [.int (i32 k0)])
def X10_tear (σ : Mem) : Option (Int × Mem) :=
  if w32 (σ 0 2) = 0 then
    X10_tear_B12 σ 0
  else
  X10_tear_B12 σ 1
def S_X10_tear_0 (fn : Mem → Option (Int × Mem)) (p : Program) (l : Launch) (e : Env) (R : Room) (s : State) (m : MethodId) (args : Array Value) (below : List Frame) (meth : Method) (c : Code) (G : GT) (τ : Mem) (res : Int) : Prop := ∀ (σ : Mem) (H : Heap) (locs : List Loc) (ls : Array Slot), PW G σ H → va_S (AA G) s.heap H locs → fn σ = some (res, τ) → lv_has ls 2 [(0, .ref (gh G + 0))] → W p l e R s m args below meth c H locs 0 0 (MQ below (QM G (some (.int (i32 res))) τ) args s 0 0 (AA G)) (F0 m 0 ls [])
set_option maxHeartbeats 4000000 in
theorem a_X10_tear_12 {p : Program} {l : Launch} {e : Env} {R : Room} {s : State} {m : MethodId} {args : Array Value} {below : List Frame} {meth : Method} {c : Code} {G : GT} {τ : Mem} {res : Int} (X : CX p R s m args meth c cX10_tear 2 RX10 (some FieldType.int) 1 60 G) : S_X10_tear_12 (X10_tear_B12) p l e R s m args below meth c G τ res := by
  intro σ H locs ls k0 hP hS hf hl
  unfold X10_tear_B12 at hf
  refine lv_istore_n (lv' := [(1, .int (i32 k0)), (0, .ref (gh G + 0))]) X.1 X.2.1 dX10_tear_12 rfl hl (by decide) rfl (fun ls hl => ?_)
  refine lv_aload_n X.1 X.2.1 dX10_tear_13 rfl (lv_at hl 1 rfl) ?_
  refine r_iconst X 0 dX10_tear_14 ?_
  refine p_10_2 X hP hS (Or.inl rfl) ks_10 (tb t_390 rfl) dX10_tear_15 (fun H locs hP hS => ?_)
  obtain ⟨s1, es1, hf⟩ := lt_inv hf
  rw [es1] at hP
  refine lv_iload_n X.1 X.2.1 dX10_tear_18 rfl (lv_at hl 0 rfl) ?_
  obtain ⟨rfl, rfl⟩ := so2_inv hf
  exact r_iret X hP hS dX10_tear_19
set_option maxHeartbeats 4000000 in
theorem a_X10_tear_0 {p : Program} {l : Launch} {e : Env} {R : Room} {s : State} {m : MethodId} {args : Array Value} {below : List Frame} {meth : Method} {c : Code} {G : GT} {τ : Mem} {res : Int} (X : CX p R s m args meth c cX10_tear 2 RX10 (some FieldType.int) 1 60 G) : S_X10_tear_0 (X10_tear) p l e R s m args below meth c G τ res := by
  intro σ H locs ls hP hS hf hl
  unfold X10_tear at hf
  refine lv_aload_n X.1 X.2.1 dX10_tear_0 rfl (lv_at hl 0 rfl) ?_
  refine g_10_2 X hP ks_10 (tb t_390 rfl) dX10_tear_1 ?_
  refine r_if_eq (tgt := 11) X dX10_tear_4 (by decide) (fun q => ?_) (fun q => ?_)
  · replace hf := it_inv q hf
    refine r_iconst X 0 dX10_tear_11 ?_
    exact a_X10_tear_12 X σ H locs ls 0 hP hS hf hl
  · replace hf := ie_inv q hf
    refine r_iconst X 1 dX10_tear_7 ?_
    refine lv_goto (tgt := 12) X.1 X.2.1 dX10_tear_8 (by decide) ?_
    exact a_X10_tear_12 X σ H locs ls 1 hP hS hf hl
set_option maxHeartbeats 4000000 in
theorem c_X10_tear {l : Launch} {G : GT} {σ τ : Mem} {res : Int} (hf : X10_tear σ = some (res, τ)) : CT l yX10_tear cX10_tear 2 (some FieldType.int) 1 60 G [.ref (gh G + 0)] σ τ (some (.int (i32 res))) := by
  refine CT.mk (own := RX10) (by decide) rfl (Nat.le_of_ble_eq_true rfl) ?_
  intro p e s m below meth c ls X hP hS hl
  have hl : lv_has ls 2 [(0, .ref (gh G + 0))] := hl
  exact a_X10_tear_0 X σ s.heap [] ls hP hS hf hl
theorem k_X10_tear {p : Program} {l : Launch} {e : Env} {R : Room} {s : State} {m : MethodId} {args : Array Value} {below : List Frame} {meth : Method} {c : Code} {H : Heap} {locs : List Loc} {Q : State → Prop} {cc : ByteArray} {nL : Nat} {own : String} {ret : Option FieldType} {fF fL : Nat} {G : GT} {pc idx : Nat} {ls : Array Slot} {rest : List Value} {σ τ : Mem} {res : Int} (X : CX p R s m args meth c cc nL own ret fF fL G) (hP : PW G σ H) (hS : va_S (AA G) s.heap H locs) (hls : ls.size = nL) (hf : X10_tear σ = some (res, τ)) (h1 : Cond.methodLink own idx yX10_tear ∈ TB) (hR : 1 + 1 ≤ fF ∧ 8 + (2 + 11) + 60 ≤ fL) (hW : (rest.map fun v => v.category).sum ≤ 8) (hd : decode cc pc = .ok (.invokevirtual idx, 3)) (kk : ∀ (H1 : Heap) (locs1 : List Loc), PW G τ H1 → va_S (AA G) s.heap H1 locs1 → W p l e R s m args below meth c H1 locs1 0 0 Q (F0 m (pc + 3) ls (.int (i32 res) :: rest))) : W p l e R s m args below meth c H locs 0 0 Q (F0 m pc ls (.ref (gh G + 0) :: rest)) := r_callV (n := 0) X hP hS hls (c_X10_tear hf) h1 (tb t_1063 rfl) (tb t_1064 rfl) (tb t_75 rfl) (tb t_1065 rfl) (by decide +kernel) hR (r_recv X hP (kd_lt ks_10 (by decide)) (cE_10 ks_10) rfl) rfl rfl hW hd kk
/-! X10_together -/
theorem dX10_together_0 : decode cX10_together 0 = .ok (.iload_n 1, 1) := by decide +kernel
theorem dX10_together_1 : decode cX10_together 1 = .ok (.invokestatic 58, 3) := by decide +kernel
theorem dX10_together_4 : decode cX10_together 4 = .ok (.ifCond .eq 15, 3) := by decide +kernel
theorem dX10_together_7 : decode cX10_together 7 = .ok (.iload_n 2, 1) := by decide +kernel
theorem dX10_together_8 : decode cX10_together 8 = .ok (.invokestatic 58, 3) := by decide +kernel
theorem dX10_together_11 : decode cX10_together 11 = .ok (.ifCond .eq 8, 3) := by decide +kernel
theorem dX10_together_14 : decode cX10_together 14 = .ok (.iload_n 1, 1) := by decide +kernel
theorem dX10_together_15 : decode cX10_together 15 = .ok (.iload_n 2, 1) := by decide +kernel
theorem dX10_together_16 : decode cX10_together 16 = .ok (.if_icmp .ne 10, 3) := by decide +kernel
theorem dX10_together_19 : decode cX10_together 19 = .ok (.aload_n 0, 1) := by decide +kernel
theorem dX10_together_20 : decode cX10_together 20 = .ok (.ldc 72, 2) := by decide +kernel
theorem dX10_together_22 : decode cX10_together 22 = .ok (.invokevirtual 73, 3) := by decide +kernel
theorem dX10_together_25 : decode cX10_together 25 = .ok (.ireturn, 1) := by decide +kernel
theorem dX10_together_26 : decode cX10_together 26 = .ok (.aload_n 0, 1) := by decide +kernel
theorem dX10_together_27 : decode cX10_together 27 = .ok (.iload_n 1, 1) := by decide +kernel
theorem dX10_together_28 : decode cX10_together 28 = .ok (.invokevirtual 206, 3) := by decide +kernel
theorem dX10_together_31 : decode cX10_together 31 = .ok (.astore_n 3, 1) := by decide +kernel
theorem dX10_together_32 : decode cX10_together 32 = .ok (.aload_n 0, 1) := by decide +kernel
theorem dX10_together_33 : decode cX10_together 33 = .ok (.iload_n 2, 1) := by decide +kernel
theorem dX10_together_34 : decode cX10_together 34 = .ok (.invokevirtual 206, 3) := by decide +kernel
theorem dX10_together_37 : decode cX10_together 37 = .ok (.astore 4, 2) := by decide +kernel
theorem dX10_together_39 : decode cX10_together 39 = .ok (.aload_n 3, 1) := by decide +kernel
theorem dX10_together_40 : decode cX10_together 40 = .ok (.invokevirtual 210, 3) := by decide +kernel
theorem dX10_together_43 : decode cX10_together 43 = .ok (.ifCond .ne 11, 3) := by decide +kernel
theorem dX10_together_46 : decode cX10_together 46 = .ok (.aload 4, 2) := by decide +kernel
theorem dX10_together_48 : decode cX10_together 48 = .ok (.invokevirtual 210, 3) := by decide +kernel
theorem dX10_together_51 : decode cX10_together 51 = .ok (.ifCond .eq 10, 3) := by decide +kernel
theorem dX10_together_54 : decode cX10_together 54 = .ok (.aload_n 0, 1) := by decide +kernel
theorem dX10_together_55 : decode cX10_together 55 = .ok (.ldc 205, 2) := by decide +kernel
theorem dX10_together_57 : decode cX10_together 57 = .ok (.invokevirtual 73, 3) := by decide +kernel
theorem dX10_together_60 : decode cX10_together 60 = .ok (.ireturn, 1) := by decide +kernel
theorem dX10_together_61 : decode cX10_together 61 = .ok (.iconst 0, 1) := by decide +kernel
theorem dX10_together_62 : decode cX10_together 62 = .ok (.istore 5, 2) := by decide +kernel
theorem dX10_together_64 : decode cX10_together 64 = .ok (.iconst 0, 1) := by decide +kernel
theorem dX10_together_65 : decode cX10_together 65 = .ok (.istore 6, 2) := by decide +kernel
theorem dX10_together_67 : decode cX10_together 67 = .ok (.iload 6, 2) := by decide +kernel
theorem dX10_together_69 : decode cX10_together 69 = .ok (.bipush 40, 2) := by decide +kernel
theorem dX10_together_71 : decode cX10_together 71 = .ok (.if_icmp .ge 33, 3) := by decide +kernel
theorem dX10_together_74 : decode cX10_together 74 = .ok (.aload_n 3, 1) := by decide +kernel
theorem dX10_together_75 : decode cX10_together 75 = .ok (.getfield 257, 3) := by decide +kernel
theorem dX10_together_78 : decode cX10_together 78 = .ok (.iload 6, 2) := by decide +kernel
theorem dX10_together_80 : decode cX10_together 80 = .ok (.iaload, 1) := by decide +kernel
theorem dX10_together_81 : decode cX10_together 81 = .ok (.ifCond .eq 17, 3) := by decide +kernel
theorem dX10_together_84 : decode cX10_together 84 = .ok (.aload 4, 2) := by decide +kernel
theorem dX10_together_86 : decode cX10_together 86 = .ok (.getfield 257, 3) := by decide +kernel
theorem dX10_together_89 : decode cX10_together 89 = .ok (.iload 6, 2) := by decide +kernel
theorem dX10_together_91 : decode cX10_together 91 = .ok (.iaload, 1) := by decide +kernel
theorem dX10_together_92 : decode cX10_together 92 = .ok (.ifCond .eq 6, 3) := by decide +kernel
theorem dX10_together_95 : decode cX10_together 95 = .ok (.iinc 5 1, 3) := by decide +kernel
theorem dX10_together_98 : decode cX10_together 98 = .ok (.iinc 6 1, 3) := by decide +kernel
theorem dX10_together_101 : decode cX10_together 101 = .ok (.goto (-34), 3) := by decide +kernel
theorem dX10_together_104 : decode cX10_together 104 = .ok (.iload 5, 2) := by decide +kernel
theorem dX10_together_106 : decode cX10_together 106 = .ok (.ireturn, 1) := by decide +kernel
def S_X10_together_67 (fn : Mem → Nat → Nat → Int → Int → Option (Int × Mem)) (p : Program) (l : Launch) (e : Env) (R : Room) (s : State) (m : MethodId) (args : Array Value) (below : List Frame) (meth : Method) (c : Code) (G : GT) (τ : Mem) (res : Int) : Prop := ∀ (σ : Mem) (H : Heap) (locs : List Loc) (ls : Array Slot) (l3 : Nat) (l4 : Nat) (l5 : Int) (l6 : Int), kd l3 = 2 → kd l4 = 2 → PW G σ H → va_S (AA G) s.heap H locs → fn σ l3 l4 l5 l6 = some (res, τ) → lv_has ls 7 [(3, .ref (gh G + l3)), (4, .ref (gh G + l4)), (5, .int (i32 l5)), (6, .int (i32 l6))] → W p l e R s m args below meth c H locs 0 0 (MQ below (QM G (some (.int (i32 res))) τ) args s 0 0 (AA G)) (F0 m 67 ls [])
def X10_together_B98 (rec67 : Mem → Nat → Nat → Int → Int → Option (Int × Mem)) (σ : Mem) (l3 : Nat) (l4 : Nat) (l5 : Int) (l6 : Int) : Option (Int × Mem) :=
  lt (l6 + 1) fun l6_1 =>
  rec67 σ l3 l4 l5 l6_1
def S_X10_together_98 (fn : Mem → Nat → Nat → Int → Int → Option (Int × Mem)) (p : Program) (l : Launch) (e : Env) (R : Room) (s : State) (m : MethodId) (args : Array Value) (below : List Frame) (meth : Method) (c : Code) (G : GT) (τ : Mem) (res : Int) : Prop := ∀ (σ : Mem) (H : Heap) (locs : List Loc) (ls : Array Slot) (l3 : Nat) (l4 : Nat) (l5 : Int) (l6 : Int), kd l3 = 2 → kd l4 = 2 → PW G σ H → va_S (AA G) s.heap H locs → fn σ l3 l4 l5 l6 = some (res, τ) → lv_has ls 7 [(3, .ref (gh G + l3)), (4, .ref (gh G + l4)), (5, .int (i32 l5)), (6, .int (i32 l6))] → W p l e R s m args below meth c H locs 0 0 (MQ below (QM G (some (.int (i32 res))) τ) args s 0 0 (AA G)) (F0 m 98 ls [])
def X10_together_B67 (rec67 : Mem → Nat → Nat → Int → Int → Option (Int × Mem)) (σ : Mem) (l3 : Nat) (l4 : Nat) (l5 : Int) (l6 : Int) : Option (Int × Mem) :=
  if w32 40 ≤ w32 l6 then
    some (l5, σ)
  else
  ag 40 l6 fun j1 =>
  if w32 (σ (l3 + 7) j1) = 0 then
    X10_together_B98 rec67 σ l3 l4 l5 l6
  else
  ag 40 l6 fun j2 =>
  if w32 (σ (l4 + 7) j2) = 0 then
    X10_together_B98 rec67 σ l3 l4 l5 l6
  else
  lt (l5 + 1) fun l5_3 =>
  X10_together_B98 rec67 σ l3 l4 l5_3 l6
def X10_together_L67 : Nat → Mem → Nat → Nat → Int → Int → Option (Int × Mem)
  | 0 => fun _ _ _ _ _ => none
  | n + 1 => X10_together_B67 (X10_together_L67 n)
def X10_together_B54 (σ : Mem) : Option (Int × Mem) :=
  bd2 (X10_tell σ (-1000004)) fun r1 s2 =>
  some (r1, s2)
def S_X10_together_54 (fn : Mem → Option (Int × Mem)) (p : Program) (l : Launch) (e : Env) (R : Room) (s : State) (m : MethodId) (args : Array Value) (below : List Frame) (meth : Method) (c : Code) (G : GT) (τ : Mem) (res : Int) : Prop := ∀ (σ : Mem) (H : Heap) (locs : List Loc) (ls : Array Slot), PW G σ H → va_S (AA G) s.heap H locs → fn σ = some (res, τ) → lv_has ls 7 [(0, .ref (gh G + 0))] → W p l e R s m args below meth c H locs 0 0 (MQ below (QM G (some (.int (i32 res))) τ) args s 0 0 (AA G)) (F0 m 54 ls [])
def X10_together_B19 (σ : Mem) : Option (Int × Mem) :=
  bd2 (X10_tell σ (-1000001)) fun r1 s2 =>
  some (r1, s2)
def S_X10_together_19 (fn : Mem → Option (Int × Mem)) (p : Program) (l : Launch) (e : Env) (R : Room) (s : State) (m : MethodId) (args : Array Value) (below : List Frame) (meth : Method) (c : Code) (G : GT) (τ : Mem) (res : Int) : Prop := ∀ (σ : Mem) (H : Heap) (locs : List Loc) (ls : Array Slot), PW G σ H → va_S (AA G) s.heap H locs → fn σ = some (res, τ) → lv_has ls 7 [(0, .ref (gh G + 0))] → W p l e R s m args below meth c H locs 0 0 (MQ below (QM G (some (.int (i32 res))) τ) args s 0 0 (AA G)) (F0 m 19 ls [])
def X10_together (σ : Mem) (l1 : Int) (l2 : Int) : Option (Int × Mem) :=
  bd (X10_isPart σ l1) fun r1 =>
  if w32 r1 = 0 then
    X10_together_B19 σ
  else
  bd (X10_isPart σ l2) fun r2 =>
  if w32 r2 = 0 then
    X10_together_B19 σ
  else
  if w32 l1 ≠ w32 l2 then
    bd2 (X10_layingOf σ l1) fun r3 s4 =>
    kg 2 r3 <|
    bd2 (X10_layingOf s4 l2) fun r5 s6 =>
    kg 2 r5 <|
    bd (X2_isNone s6 r3) fun r7 =>
    if w32 r7 ≠ 0 then
      X10_together_B54 s6
    else
    bd (X2_isNone s6 r5) fun r8 =>
    if w32 r8 = 0 then
      X10_together_L67 5000 s6 r3 r5 0 0
    else
    X10_together_B54 s6
  else
  X10_together_B19 σ
def S_X10_together_0 (fn : Mem → Int → Int → Option (Int × Mem)) (p : Program) (l : Launch) (e : Env) (R : Room) (s : State) (m : MethodId) (args : Array Value) (below : List Frame) (meth : Method) (c : Code) (G : GT) (τ : Mem) (res : Int) : Prop := ∀ (σ : Mem) (H : Heap) (locs : List Loc) (ls : Array Slot) (l1 : Int) (l2 : Int), PW G σ H → va_S (AA G) s.heap H locs → fn σ l1 l2 = some (res, τ) → lv_has ls 7 [(0, .ref (gh G + 0)), (1, .int (i32 l1)), (2, .int (i32 l2))] → W p l e R s m args below meth c H locs 0 0 (MQ below (QM G (some (.int (i32 res))) τ) args s 0 0 (AA G)) (F0 m 0 ls [])
set_option maxHeartbeats 4000000 in
theorem a_X10_together_98 {p : Program} {l : Launch} {e : Env} {R : Room} {s : State} {m : MethodId} {args : Array Value} {below : List Frame} {meth : Method} {c : Code} {G : GT} {τ : Mem} {res : Int} {rec67 : Mem → Nat → Nat → Int → Int → Option (Int × Mem)} (X : CX p R s m args meth c cX10_together 7 RX10 (some FieldType.int) 7 209 G) (h67 : S_X10_together_67 rec67 p l e R s m args below meth c G τ res) : S_X10_together_98 (X10_together_B98 rec67) p l e R s m args below meth c G τ res := by
  intro σ H locs ls l3 l4 l5 l6 hk_l3 hk_l4 hP hS hf hl
  unfold X10_together_B98 at hf
  obtain ⟨l6_1, el6_1, hf⟩ := lt_inv hf
  refine lv_iinc (v := i32 l6_1) (lv' := [(6, .int (i32 l6_1)), (3, .ref (gh G + l3)), (4, .ref (gh G + l4)), (5, .int (i32 l5))]) X.1 X.2.1 dX10_together_98 hl (k := 3) rfl (by rw [← el6_1]; exact i32_add _ _) (by decide) rfl (fun ls hl => ?_)
  refine lv_goto (tgt := 67) X.1 X.2.1 dX10_together_101 (by decide) ?_
  exact h67 σ H locs ls l3 l4 l5 l6_1 hk_l3 hk_l4 hP hS hf (lv_sub hl [1, 2, 3, 0] rfl)
set_option maxHeartbeats 4000000 in
theorem a_X10_together_67 {p : Program} {l : Launch} {e : Env} {R : Room} {s : State} {m : MethodId} {args : Array Value} {below : List Frame} {meth : Method} {c : Code} {G : GT} {τ : Mem} {res : Int} {rec67 : Mem → Nat → Nat → Int → Int → Option (Int × Mem)} (X : CX p R s m args meth c cX10_together 7 RX10 (some FieldType.int) 7 209 G) (h67 : S_X10_together_67 rec67 p l e R s m args below meth c G τ res) : S_X10_together_67 (X10_together_B67 rec67) p l e R s m args below meth c G τ res := by
  intro σ H locs ls l3 l4 l5 l6 hk_l3 hk_l4 hP hS hf hl
  unfold X10_together_B67 at hf
  refine lv_iload X.1 X.2.1 dX10_together_67 (lv_at hl 3 rfl) ?_
  refine r_bipush X 40 (by decide) dX10_together_69 ?_
  refine r_icmp_ge (tgt := 104) X dX10_together_71 (by decide) (fun q => ?_) (fun q => ?_)
  · replace hf := it_inv q hf
    refine lv_iload X.1 X.2.1 dX10_together_104 (lv_at hl 2 rfl) ?_
    obtain ⟨rfl, rfl⟩ := so2_inv hf
    exact r_iret X hP hS dX10_together_106
  · replace hf := ie_inv q hf
    refine lv_aload_n X.1 X.2.1 dX10_together_74 rfl (lv_at hl 0 rfl) ?_
    refine g_2_12 (r := l3 + 7) X hP hk_l3 rfl (tb t_360 rfl) dX10_together_75 ?_
    refine lv_iload X.1 X.2.1 dX10_together_78 (lv_at hl 3 rfl) ?_
    obtain ⟨j1, hij1, hjj1, hlj1, hf⟩ := ag_inv hf
    refine r_iald X hP (ch_2_12 hk_l3).1 (ch_2_12 hk_l3).2 hij1 hjj1 dX10_together_80 ?_
    refine r_if_eq (tgt := 98) X dX10_together_81 (by decide) (fun q => ?_) (fun q => ?_)
    · replace hf := it_inv q hf
      exact a_X10_together_98 X h67 σ H locs ls l3 l4 l5 l6 hk_l3 hk_l4 hP hS hf hl
    · replace hf := ie_inv q hf
      refine lv_aload X.1 X.2.1 dX10_together_84 (lv_at hl 1 rfl) ?_
      refine g_2_12 (r := l4 + 7) X hP hk_l4 rfl (tb t_360 rfl) dX10_together_86 ?_
      refine lv_iload X.1 X.2.1 dX10_together_89 (lv_at hl 3 rfl) ?_
      obtain ⟨j2, hij2, hjj2, hlj2, hf⟩ := ag_inv hf
      refine r_iald X hP (ch_2_12 hk_l4).1 (ch_2_12 hk_l4).2 hij2 hjj2 dX10_together_91 ?_
      refine r_if_eq (tgt := 98) X dX10_together_92 (by decide) (fun q => ?_) (fun q => ?_)
      · replace hf := it_inv q hf
        exact a_X10_together_98 X h67 σ H locs ls l3 l4 l5 l6 hk_l3 hk_l4 hP hS hf hl
      · replace hf := ie_inv q hf
        obtain ⟨l5_3, el5_3, hf⟩ := lt_inv hf
        refine lv_iinc (v := i32 l5_3) (lv' := [(5, .int (i32 l5_3)), (3, .ref (gh G + l3)), (4, .ref (gh G + l4)), (6, .int (i32 l6))]) X.1 X.2.1 dX10_together_95 hl (k := 2) rfl (by rw [← el5_3]; exact i32_add _ _) (by decide) rfl (fun ls hl => ?_)
        exact a_X10_together_98 X h67 σ H locs ls l3 l4 l5_3 l6 hk_l3 hk_l4 hP hS hf (lv_sub hl [1, 2, 0, 3] rfl)
theorem al_X10_together_67 {p : Program} {l : Launch} {e : Env} {R : Room} {s : State} {m : MethodId} {args : Array Value} {below : List Frame} {meth : Method} {c : Code} {G : GT} {τ : Mem} {res : Int} (X : CX p R s m args meth c cX10_together 7 RX10 (some FieldType.int) 7 209 G) : ∀ n, S_X10_together_67 (X10_together_L67 n) p l e R s m args below meth c G τ res := by
  intro n
  induction n with
  | zero =>
    intro σ H locs ls l3 l4 l5 l6 hk_l3 hk_l4 hP hS hf hl
    cases hf
  | succ n ih => exact a_X10_together_67 X ih
set_option maxHeartbeats 4000000 in
theorem a_X10_together_54 {p : Program} {l : Launch} {e : Env} {R : Room} {s : State} {m : MethodId} {args : Array Value} {below : List Frame} {meth : Method} {c : Code} {G : GT} {τ : Mem} {res : Int} (X : CX p R s m args meth c cX10_together 7 RX10 (some FieldType.int) 7 209 G) : S_X10_together_54 (X10_together_B54) p l e R s m args below meth c G τ res := by
  intro σ H locs ls hP hS hf hl
  unfold X10_together_B54 at hf
  refine lv_aload_n X.1 X.2.1 dX10_together_54 rfl (lv_at hl 0 rfl) ?_
  refine r_ldc X (-1000004) (tb t_747 rfl) (by decide) dX10_together_55 ?_
  obtain ⟨r1, s2, hr1, hf⟩ := bd2_inv hf
  refine k_X10_tell X hP hS hl.1  hr1 (tb t_431 rfl) (by decide) (Nat.le_of_ble_eq_true rfl) dX10_together_57 (fun H locs hP hS => ?_)
  obtain ⟨rfl, rfl⟩ := so2_inv hf
  exact r_iret X hP hS dX10_together_60
set_option maxHeartbeats 4000000 in
theorem a_X10_together_19 {p : Program} {l : Launch} {e : Env} {R : Room} {s : State} {m : MethodId} {args : Array Value} {below : List Frame} {meth : Method} {c : Code} {G : GT} {τ : Mem} {res : Int} (X : CX p R s m args meth c cX10_together 7 RX10 (some FieldType.int) 7 209 G) : S_X10_together_19 (X10_together_B19) p l e R s m args below meth c G τ res := by
  intro σ H locs ls hP hS hf hl
  unfold X10_together_B19 at hf
  refine lv_aload_n X.1 X.2.1 dX10_together_19 rfl (lv_at hl 0 rfl) ?_
  refine r_ldc X (-1000001) (tb t_430 rfl) (by decide) dX10_together_20 ?_
  obtain ⟨r1, s2, hr1, hf⟩ := bd2_inv hf
  refine k_X10_tell X hP hS hl.1  hr1 (tb t_431 rfl) (by decide) (Nat.le_of_ble_eq_true rfl) dX10_together_22 (fun H locs hP hS => ?_)
  obtain ⟨rfl, rfl⟩ := so2_inv hf
  exact r_iret X hP hS dX10_together_25
set_option maxHeartbeats 4000000 in
theorem a_X10_together_0 {p : Program} {l : Launch} {e : Env} {R : Room} {s : State} {m : MethodId} {args : Array Value} {below : List Frame} {meth : Method} {c : Code} {G : GT} {τ : Mem} {res : Int} (X : CX p R s m args meth c cX10_together 7 RX10 (some FieldType.int) 7 209 G) : S_X10_together_0 (X10_together) p l e R s m args below meth c G τ res := by
  intro σ H locs ls l1 l2 hP hS hf hl
  unfold X10_together at hf
  refine lv_iload_n X.1 X.2.1 dX10_together_0 rfl (lv_at hl 1 rfl) ?_
  obtain ⟨r1, hr1, hf⟩ := bd_inv hf
  refine k_X10_isPart X hP hS hl.1  hr1 (tb t_420 rfl) (by decide) (Nat.le_of_ble_eq_true rfl) dX10_together_1 (fun H locs hP hS => ?_)
  refine r_if_eq (tgt := 19) X dX10_together_4 (by decide) (fun q => ?_) (fun q => ?_)
  · replace hf := it_inv q hf
    exact a_X10_together_19 X σ H locs ls  hP hS hf (lv_sub hl [0] rfl)
  · replace hf := ie_inv q hf
    refine lv_iload_n X.1 X.2.1 dX10_together_7 rfl (lv_at hl 2 rfl) ?_
    obtain ⟨r2, hr2, hf⟩ := bd_inv hf
    refine k_X10_isPart X hP hS hl.1  hr2 (tb t_420 rfl) (by decide) (Nat.le_of_ble_eq_true rfl) dX10_together_8 (fun H locs hP hS => ?_)
    refine r_if_eq (tgt := 19) X dX10_together_11 (by decide) (fun q => ?_) (fun q => ?_)
    · replace hf := it_inv q hf
      exact a_X10_together_19 X σ H locs ls  hP hS hf (lv_sub hl [0] rfl)
    · replace hf := ie_inv q hf
      refine lv_iload_n X.1 X.2.1 dX10_together_14 rfl (lv_at hl 1 rfl) ?_
      refine lv_iload_n X.1 X.2.1 dX10_together_15 rfl (lv_at hl 2 rfl) ?_
      refine r_icmp_ne (tgt := 26) X dX10_together_16 (by decide) (fun q => ?_) (fun q => ?_)
      · replace hf := it_inv q hf
        refine lv_aload_n X.1 X.2.1 dX10_together_26 rfl (lv_at hl 0 rfl) ?_
        refine lv_iload_n X.1 X.2.1 dX10_together_27 rfl (lv_at hl 1 rfl) ?_
        obtain ⟨r3, s4, hr3, hf⟩ := bd2_inv hf
        refine k_X10_layingOf X hP hS hl.1  hr3 (tb t_752 rfl) (by decide) (Nat.le_of_ble_eq_true rfl) dX10_together_28 (fun H locs hP hS => ?_)
        obtain ⟨hk_r3, hf⟩ := kg_inv hf
        refine lv_astore_n (lv' := [(3, .ref (gh G + r3)), (0, .ref (gh G + 0)), (1, .int (i32 l1)), (2, .int (i32 l2))]) X.1 X.2.1 dX10_together_31 rfl hl (by decide) rfl (fun ls hl => ?_)
        refine lv_aload_n X.1 X.2.1 dX10_together_32 rfl (lv_at hl 1 rfl) ?_
        refine lv_iload_n X.1 X.2.1 dX10_together_33 rfl (lv_at hl 3 rfl) ?_
        obtain ⟨r5, s6, hr5, hf⟩ := bd2_inv hf
        refine k_X10_layingOf X hP hS hl.1  hr5 (tb t_752 rfl) (by decide) (Nat.le_of_ble_eq_true rfl) dX10_together_34 (fun H locs hP hS => ?_)
        obtain ⟨hk_r5, hf⟩ := kg_inv hf
        refine lv_astore (lv' := [(4, .ref (gh G + r5)), (3, .ref (gh G + r3)), (0, .ref (gh G + 0)), (1, .int (i32 l1)), (2, .int (i32 l2))]) X.1 X.2.1 dX10_together_37 hl (by decide) rfl (fun ls hl => ?_)
        refine lv_aload_n X.1 X.2.1 dX10_together_39 rfl (lv_at hl 1 rfl) ?_
        obtain ⟨r7, hr7, hf⟩ := bd_inv hf
        refine k_X2_isNone X hP hS hl.1 hk_r3 hr7 (tb t_857 rfl) (by decide) (Nat.le_of_ble_eq_true rfl) dX10_together_40 (fun H locs hP hS => ?_)
        refine r_if_ne (tgt := 54) X dX10_together_43 (by decide) (fun q => ?_) (fun q => ?_)
        · replace hf := it_inv q hf
          exact a_X10_together_54 X s6 H locs ls  hP hS hf (lv_sub hl [2] rfl)
        · replace hf := ie_inv q hf
          refine lv_aload X.1 X.2.1 dX10_together_46 (lv_at hl 0 rfl) ?_
          obtain ⟨r8, hr8, hf⟩ := bd_inv hf
          refine k_X2_isNone X hP hS hl.1 hk_r5 hr8 (tb t_857 rfl) (by decide) (Nat.le_of_ble_eq_true rfl) dX10_together_48 (fun H locs hP hS => ?_)
          refine r_if_eq (tgt := 61) X dX10_together_51 (by decide) (fun q => ?_) (fun q => ?_)
          · replace hf := it_inv q hf
            refine r_iconst X 0 dX10_together_61 ?_
            refine lv_istore (lv' := [(5, .int (i32 0)), (4, .ref (gh G + r5)), (3, .ref (gh G + r3)), (0, .ref (gh G + 0)), (1, .int (i32 l1)), (2, .int (i32 l2))]) X.1 X.2.1 dX10_together_62 hl (by decide) rfl (fun ls hl => ?_)
            refine r_iconst X 0 dX10_together_64 ?_
            refine lv_istore (lv' := [(6, .int (i32 0)), (5, .int (i32 0)), (4, .ref (gh G + r5)), (3, .ref (gh G + r3)), (0, .ref (gh G + 0)), (1, .int (i32 l1)), (2, .int (i32 l2))]) X.1 X.2.1 dX10_together_65 hl (by decide) rfl (fun ls hl => ?_)
            exact al_X10_together_67 X 5000 s6 H locs ls r3 r5 0 0 hk_r3 hk_r5 hP hS hf (lv_sub hl [3, 2, 1, 0] rfl)
          · replace hf := ie_inv q hf
            exact a_X10_together_54 X s6 H locs ls  hP hS hf (lv_sub hl [2] rfl)
      · replace hf := ie_inv q hf
        exact a_X10_together_19 X σ H locs ls  hP hS hf (lv_sub hl [0] rfl)
set_option maxHeartbeats 4000000 in
theorem c_X10_together {l : Launch} {G : GT} {σ τ : Mem} {res : Int} {l1 : Int} {l2 : Int} (hf : X10_together σ l1 l2 = some (res, τ)) : CT l yX10_together cX10_together 7 (some FieldType.int) 7 209 G [.ref (gh G + 0), .int (i32 l1), .int (i32 l2)] σ τ (some (.int (i32 res))) := by
  refine CT.mk (own := RX10) (by decide) rfl (Nat.le_of_ble_eq_true rfl) ?_
  intro p e s m below meth c ls X hP hS hl
  have hl : lv_has ls 7 [(0, .ref (gh G + 0)), (1, .int (i32 l1)), (2, .int (i32 l2))] := hl
  exact a_X10_together_0 X σ s.heap [] ls l1 l2 hP hS hf hl
theorem k_X10_together {p : Program} {l : Launch} {e : Env} {R : Room} {s : State} {m : MethodId} {args : Array Value} {below : List Frame} {meth : Method} {c : Code} {H : Heap} {locs : List Loc} {Q : State → Prop} {cc : ByteArray} {nL : Nat} {own : String} {ret : Option FieldType} {fF fL : Nat} {G : GT} {pc idx : Nat} {ls : Array Slot} {rest : List Value} {σ τ : Mem} {res : Int} {l1 : Int} {l2 : Int} (X : CX p R s m args meth c cc nL own ret fF fL G) (hP : PW G σ H) (hS : va_S (AA G) s.heap H locs) (hls : ls.size = nL) (hf : X10_together σ l1 l2 = some (res, τ)) (h1 : Cond.methodLink own idx yX10_together ∈ TB) (hR : 7 + 1 ≤ fF ∧ 8 + (7 + 11) + 209 ≤ fL) (hW : (rest.map fun v => v.category).sum ≤ 8) (hd : decode cc pc = .ok (.invokevirtual idx, 3)) (kk : ∀ (H1 : Heap) (locs1 : List Loc), PW G τ H1 → va_S (AA G) s.heap H1 locs1 → W p l e R s m args below meth c H1 locs1 0 0 Q (F0 m (pc + 3) ls (.int (i32 res) :: rest))) : W p l e R s m args below meth c H locs 0 0 Q (F0 m pc ls (.int (i32 l2) :: .int (i32 l1) :: .ref (gh G + 0) :: rest)) := r_callV (n := 2) X hP hS hls (c_X10_together hf) h1 (tb t_911 rfl) (tb t_912 rfl) (tb t_75 rfl) (tb t_913 rfl) (by decide +kernel) hR (r_recv X hP (kd_lt ks_10 (by decide)) (cE_10 ks_10) rfl) rfl rfl hW hd kk
/-! X10_undo -/
theorem dX10_undo_0 : decode cX10_undo 0 = .ok (.aload_n 0, 1) := by decide +kernel
theorem dX10_undo_1 : decode cX10_undo 1 = .ok (.getfield 336, 3) := by decide +kernel
theorem dX10_undo_4 : decode cX10_undo 4 = .ok (.ifCond .ne 10, 3) := by decide +kernel
theorem dX10_undo_7 : decode cX10_undo 7 = .ok (.aload_n 0, 1) := by decide +kernel
theorem dX10_undo_8 : decode cX10_undo 8 = .ok (.ldc 205, 2) := by decide +kernel
theorem dX10_undo_10 : decode cX10_undo 10 = .ok (.invokevirtual 73, 3) := by decide +kernel
theorem dX10_undo_13 : decode cX10_undo 13 = .ok (.ireturn, 1) := by decide +kernel
theorem dX10_undo_14 : decode cX10_undo 14 = .ok (.aload_n 0, 1) := by decide +kernel
theorem dX10_undo_15 : decode cX10_undo 15 = .ok (.getfield 10, 3) := by decide +kernel
theorem dX10_undo_18 : decode cX10_undo 18 = .ok (.aload_n 0, 1) := by decide +kernel
theorem dX10_undo_19 : decode cX10_undo 19 = .ok (.getfield 16, 3) := by decide +kernel
theorem dX10_undo_22 : decode cX10_undo 22 = .ok (.invokevirtual 332, 3) := by decide +kernel
theorem dX10_undo_25 : decode cX10_undo 25 = .ok (.aload_n 0, 1) := by decide +kernel
theorem dX10_undo_26 : decode cX10_undo 26 = .ok (.invokevirtual 98, 3) := by decide +kernel
theorem dX10_undo_29 : decode cX10_undo 29 = .ok (.aload_n 0, 1) := by decide +kernel
theorem dX10_undo_30 : decode cX10_undo 30 = .ok (.getfield 10, 3) := by decide +kernel
theorem dX10_undo_33 : decode cX10_undo 33 = .ok (.invokevirtual 339, 3) := by decide +kernel
theorem dX10_undo_36 : decode cX10_undo 36 = .ok (.ireturn, 1) := by decide +kernel
def X10_undo (σ : Mem) : Option (Int × Mem) :=
  if w32 (σ 0 2) ≠ 0 then
    bd (X7_become σ 1 21) fun s2 =>
    bd (X10_forgetAll s2) fun s4 =>
    bd (X7_barsInAll s4 1) fun r5 =>
    some (r5, s4)
  else
  bd2 (X10_tell σ (-1000004)) fun r6 s7 =>
  some (r6, s7)
def S_X10_undo_0 (fn : Mem → Option (Int × Mem)) (p : Program) (l : Launch) (e : Env) (R : Room) (s : State) (m : MethodId) (args : Array Value) (below : List Frame) (meth : Method) (c : Code) (G : GT) (τ : Mem) (res : Int) : Prop := ∀ (σ : Mem) (H : Heap) (locs : List Loc) (ls : Array Slot), PW G σ H → va_S (AA G) s.heap H locs → fn σ = some (res, τ) → lv_has ls 1 [(0, .ref (gh G + 0))] → W p l e R s m args below meth c H locs 0 0 (MQ below (QM G (some (.int (i32 res))) τ) args s 0 0 (AA G)) (F0 m 0 ls [])
set_option maxHeartbeats 4000000 in
theorem a_X10_undo_0 {p : Program} {l : Launch} {e : Env} {R : Room} {s : State} {m : MethodId} {args : Array Value} {below : List Frame} {meth : Method} {c : Code} {G : GT} {τ : Mem} {res : Int} (X : CX p R s m args meth c cX10_undo 1 RX10 (some FieldType.int) 4 123 G) : S_X10_undo_0 (X10_undo) p l e R s m args below meth c G τ res := by
  intro σ H locs ls hP hS hf hl
  unfold X10_undo at hf
  refine lv_aload_n X.1 X.2.1 dX10_undo_0 rfl (lv_at hl 0 rfl) ?_
  refine g_10_2 X hP ks_10 (tb t_390 rfl) dX10_undo_1 ?_
  refine r_if_ne (tgt := 14) X dX10_undo_4 (by decide) (fun q => ?_) (fun q => ?_)
  · replace hf := it_inv q hf
    refine lv_aload_n X.1 X.2.1 dX10_undo_14 rfl (lv_at hl 0 rfl) ?_
    refine g_10_0 (r := 1) X hP ks_10 rfl (tb t_388 rfl) dX10_undo_15 ?_
    refine lv_aload_n X.1 X.2.1 dX10_undo_18 rfl (lv_at hl 0 rfl) ?_
    refine g_10_1 (r := 21) X hP ks_10 rfl (tb t_389 rfl) dX10_undo_19 ?_
    obtain ⟨s2, hr1, hf⟩ := bd_inv hf
    refine k_X7_become X hP hS hl.1 (ch_10_0 ks_10).1 (ch_10_1 ks_10).1 hr1 (tb t_1040 rfl) (by decide) (Nat.le_of_ble_eq_true rfl) dX10_undo_22 (fun H locs hP hS => ?_)
    refine lv_aload_n X.1 X.2.1 dX10_undo_25 rfl (lv_at hl 0 rfl) ?_
    obtain ⟨s4, hr3, hf⟩ := bd_inv hf
    refine k_X10_forgetAll X hP hS hl.1  hr3 (tb t_447 rfl) (by decide) (Nat.le_of_ble_eq_true rfl) dX10_undo_26 (fun H locs hP hS => ?_)
    refine lv_aload_n X.1 X.2.1 dX10_undo_29 rfl (lv_at hl 0 rfl) ?_
    refine g_10_0 (r := 1) X hP ks_10 rfl (tb t_388 rfl) dX10_undo_30 ?_
    obtain ⟨r5, hr5, hf⟩ := bd_inv hf
    refine k_X7_barsInAll X hP hS hl.1 (ch_10_0 ks_10).1 hr5 (tb t_1058 rfl) (by decide) (Nat.le_of_ble_eq_true rfl) dX10_undo_33 (fun H locs hP hS => ?_)
    obtain ⟨rfl, rfl⟩ := so2_inv hf
    exact r_iret X hP hS dX10_undo_36
  · replace hf := ie_inv q hf
    refine lv_aload_n X.1 X.2.1 dX10_undo_7 rfl (lv_at hl 0 rfl) ?_
    refine r_ldc X (-1000004) (tb t_747 rfl) (by decide) dX10_undo_8 ?_
    obtain ⟨r6, s7, hr6, hf⟩ := bd2_inv hf
    refine k_X10_tell X hP hS hl.1  hr6 (tb t_431 rfl) (by decide) (Nat.le_of_ble_eq_true rfl) dX10_undo_10 (fun H locs hP hS => ?_)
    obtain ⟨rfl, rfl⟩ := so2_inv hf
    exact r_iret X hP hS dX10_undo_13
set_option maxHeartbeats 4000000 in
theorem c_X10_undo {l : Launch} {G : GT} {σ τ : Mem} {res : Int} (hf : X10_undo σ = some (res, τ)) : CT l yX10_undo cX10_undo 1 (some FieldType.int) 4 123 G [.ref (gh G + 0)] σ τ (some (.int (i32 res))) := by
  refine CT.mk (own := RX10) (by decide) rfl (Nat.le_of_ble_eq_true rfl) ?_
  intro p e s m below meth c ls X hP hS hl
  have hl : lv_has ls 1 [(0, .ref (gh G + 0))] := hl
  exact a_X10_undo_0 X σ s.heap [] ls hP hS hf hl
theorem k_X10_undo {p : Program} {l : Launch} {e : Env} {R : Room} {s : State} {m : MethodId} {args : Array Value} {below : List Frame} {meth : Method} {c : Code} {H : Heap} {locs : List Loc} {Q : State → Prop} {cc : ByteArray} {nL : Nat} {own : String} {ret : Option FieldType} {fF fL : Nat} {G : GT} {pc idx : Nat} {ls : Array Slot} {rest : List Value} {σ τ : Mem} {res : Int} (X : CX p R s m args meth c cc nL own ret fF fL G) (hP : PW G σ H) (hS : va_S (AA G) s.heap H locs) (hls : ls.size = nL) (hf : X10_undo σ = some (res, τ)) (h1 : Cond.methodLink own idx yX10_undo ∈ TB) (hR : 4 + 1 ≤ fF ∧ 8 + (1 + 11) + 123 ≤ fL) (hW : (rest.map fun v => v.category).sum ≤ 8) (hd : decode cc pc = .ok (.invokevirtual idx, 3)) (kk : ∀ (H1 : Heap) (locs1 : List Loc), PW G τ H1 → va_S (AA G) s.heap H1 locs1 → W p l e R s m args below meth c H1 locs1 0 0 Q (F0 m (pc + 3) ls (.int (i32 res) :: rest))) : W p l e R s m args below meth c H locs 0 0 Q (F0 m pc ls (.ref (gh G + 0) :: rest)) := r_callV (n := 0) X hP hS hls (c_X10_undo hf) h1 (tb t_1055 rfl) (tb t_1056 rfl) (tb t_75 rfl) (tb t_1057 rfl) (by decide +kernel) hR (r_recv X hP (kd_lt ks_10 (by decide)) (cE_10 ks_10) rfl) rfl rfl hW hd kk
/-! X10_wipe -/
theorem dX10_wipe_0 : decode cX10_wipe 0 = .ok (.aload_n 0, 1) := by decide +kernel
theorem dX10_wipe_1 : decode cX10_wipe 1 = .ok (.getfield 22, 3) := by decide +kernel
theorem dX10_wipe_4 : decode cX10_wipe 4 = .ok (.getfield 101, 3) := by decide +kernel
theorem dX10_wipe_7 : decode cX10_wipe 7 = .ok (.getfield 115, 3) := by decide +kernel
theorem dX10_wipe_10 : decode cX10_wipe 10 = .ok (.istore_n 1, 1) := by decide +kernel
theorem dX10_wipe_11 : decode cX10_wipe 11 = .ok (.aload_n 0, 1) := by decide +kernel
theorem dX10_wipe_12 : decode cX10_wipe 12 = .ok (.getfield 22, 3) := by decide +kernel
theorem dX10_wipe_15 : decode cX10_wipe 15 = .ok (.getfield 101, 3) := by decide +kernel
theorem dX10_wipe_18 : decode cX10_wipe 18 = .ok (.iconst 0, 1) := by decide +kernel
theorem dX10_wipe_19 : decode cX10_wipe 19 = .ok (.putfield 115, 3) := by decide +kernel
theorem dX10_wipe_22 : decode cX10_wipe 22 = .ok (.iload_n 1, 1) := by decide +kernel
theorem dX10_wipe_23 : decode cX10_wipe 23 = .ok (.ireturn, 1) := by decide +kernel
def X10_wipe (σ : Mem) : Option (Int × Mem) :=
  lt (σ 42 1) fun l1_1 =>
  lt (st σ 42 1 0) fun s2 =>
  some (l1_1, s2)
def S_X10_wipe_0 (fn : Mem → Option (Int × Mem)) (p : Program) (l : Launch) (e : Env) (R : Room) (s : State) (m : MethodId) (args : Array Value) (below : List Frame) (meth : Method) (c : Code) (G : GT) (τ : Mem) (res : Int) : Prop := ∀ (σ : Mem) (H : Heap) (locs : List Loc) (ls : Array Slot), PW G σ H → va_S (AA G) s.heap H locs → fn σ = some (res, τ) → lv_has ls 2 [(0, .ref (gh G + 0))] → W p l e R s m args below meth c H locs 0 0 (MQ below (QM G (some (.int (i32 res))) τ) args s 0 0 (AA G)) (F0 m 0 ls [])
set_option maxHeartbeats 4000000 in
theorem a_X10_wipe_0 {p : Program} {l : Launch} {e : Env} {R : Room} {s : State} {m : MethodId} {args : Array Value} {below : List Frame} {meth : Method} {c : Code} {G : GT} {τ : Mem} {res : Int} (X : CX p R s m args meth c cX10_wipe 2 RX10 (some FieldType.int) 1 60 G) : S_X10_wipe_0 (X10_wipe) p l e R s m args below meth c G τ res := by
  intro σ H locs ls hP hS hf hl
  unfold X10_wipe at hf
  refine lv_aload_n X.1 X.2.1 dX10_wipe_0 rfl (lv_at hl 0 rfl) ?_
  refine g_10_3 (r := 41) X hP ks_10 rfl (tb t_391 rfl) dX10_wipe_1 ?_
  refine g_9_0 (r := 42) X hP ks_9 rfl (tb t_216 rfl) dX10_wipe_4 ?_
  refine g_8_1 X hP ks_8 (tb t_196 rfl) dX10_wipe_7 ?_
  obtain ⟨l1_1, el1_1, hf⟩ := lt_inv hf
  refine r_eqi el1_1 ?_
  refine lv_istore_n (lv' := [(1, .int (i32 l1_1)), (0, .ref (gh G + 0))]) X.1 X.2.1 dX10_wipe_10 rfl hl (by decide) rfl (fun ls hl => ?_)
  refine lv_aload_n X.1 X.2.1 dX10_wipe_11 rfl (lv_at hl 1 rfl) ?_
  refine g_10_3 (r := 41) X hP ks_10 rfl (tb t_391 rfl) dX10_wipe_12 ?_
  refine g_9_0 (r := 42) X hP ks_9 rfl (tb t_216 rfl) dX10_wipe_15 ?_
  refine r_iconst X 0 dX10_wipe_18 ?_
  refine p_8_1 X hP hS ks_8 (tb t_196 rfl) dX10_wipe_19 (fun H locs hP hS => ?_)
  obtain ⟨s2, es2, hf⟩ := lt_inv hf
  rw [es2] at hP
  refine lv_iload_n X.1 X.2.1 dX10_wipe_22 rfl (lv_at hl 0 rfl) ?_
  obtain ⟨rfl, rfl⟩ := so2_inv hf
  exact r_iret X hP hS dX10_wipe_23
set_option maxHeartbeats 4000000 in
theorem c_X10_wipe {l : Launch} {G : GT} {σ τ : Mem} {res : Int} (hf : X10_wipe σ = some (res, τ)) : CT l yX10_wipe cX10_wipe 2 (some FieldType.int) 1 60 G [.ref (gh G + 0)] σ τ (some (.int (i32 res))) := by
  refine CT.mk (own := RX10) (by decide) rfl (Nat.le_of_ble_eq_true rfl) ?_
  intro p e s m below meth c ls X hP hS hl
  have hl : lv_has ls 2 [(0, .ref (gh G + 0))] := hl
  exact a_X10_wipe_0 X σ s.heap [] ls hP hS hf hl
theorem k_X10_wipe {p : Program} {l : Launch} {e : Env} {R : Room} {s : State} {m : MethodId} {args : Array Value} {below : List Frame} {meth : Method} {c : Code} {H : Heap} {locs : List Loc} {Q : State → Prop} {cc : ByteArray} {nL : Nat} {own : String} {ret : Option FieldType} {fF fL : Nat} {G : GT} {pc idx : Nat} {ls : Array Slot} {rest : List Value} {σ τ : Mem} {res : Int} (X : CX p R s m args meth c cc nL own ret fF fL G) (hP : PW G σ H) (hS : va_S (AA G) s.heap H locs) (hls : ls.size = nL) (hf : X10_wipe σ = some (res, τ)) (h1 : Cond.methodLink own idx yX10_wipe ∈ TB) (hR : 1 + 1 ≤ fF ∧ 8 + (2 + 11) + 60 ≤ fL) (hW : (rest.map fun v => v.category).sum ≤ 8) (hd : decode cc pc = .ok (.invokevirtual idx, 3)) (kk : ∀ (H1 : Heap) (locs1 : List Loc), PW G τ H1 → va_S (AA G) s.heap H1 locs1 → W p l e R s m args below meth c H1 locs1 0 0 Q (F0 m (pc + 3) ls (.int (i32 res) :: rest))) : W p l e R s m args below meth c H locs 0 0 Q (F0 m pc ls (.ref (gh G + 0) :: rest)) := r_callV (n := 0) X hP hS hls (c_X10_wipe hf) h1 (tb t_470 rfl) (tb t_471 rfl) (tb t_75 rfl) (tb t_472 rfl) (by decide +kernel) hR (r_recv X hP (kd_lt ks_10 (by decide)) (cE_10 ks_10) rfl) rfl rfl hW hd kk
/-! X6_put -/
theorem dX6_put_0 : decode cX6_put 0 = .ok (.iload_n 1, 1) := by decide +kernel
theorem dX6_put_1 : decode cX6_put 1 = .ok (.ifCond .lt 11, 3) := by decide +kernel
theorem dX6_put_4 : decode cX6_put 4 = .ok (.iload_n 1, 1) := by decide +kernel
theorem dX6_put_5 : decode cX6_put 5 = .ok (.aload_n 0, 1) := by decide +kernel
theorem dX6_put_6 : decode cX6_put 6 = .ok (.getfield 19, 3) := by decide +kernel
theorem dX6_put_9 : decode cX6_put 9 = .ok (.if_icmp .lt 5, 3) := by decide +kernel
theorem dX6_put_12 : decode cX6_put 12 = .ok (.iconst 0, 1) := by decide +kernel
theorem dX6_put_13 : decode cX6_put 13 = .ok (.ireturn, 1) := by decide +kernel
theorem dX6_put_14 : decode cX6_put 14 = .ok (.aload_n 0, 1) := by decide +kernel
theorem dX6_put_15 : decode cX6_put 15 = .ok (.getfield 9, 3) := by decide +kernel
theorem dX6_put_18 : decode cX6_put 18 = .ok (.iload_n 1, 1) := by decide +kernel
theorem dX6_put_19 : decode cX6_put 19 = .ok (.aload_n 0, 1) := by decide +kernel
theorem dX6_put_20 : decode cX6_put 20 = .ok (.getfield 15, 3) := by decide +kernel
theorem dX6_put_23 : decode cX6_put 23 = .ok (.bipush 8, 2) := by decide +kernel
theorem dX6_put_25 : decode cX6_put 25 = .ok (.if_icmp .ne 11, 3) := by decide +kernel
theorem dX6_put_28 : decode cX6_put 28 = .ok (.iload_n 2, 1) := by decide +kernel
theorem dX6_put_29 : decode cX6_put 29 = .ok (.sipush 255, 3) := by decide +kernel
theorem dX6_put_32 : decode cX6_put 32 = .ok (.iand, 1) := by decide +kernel
theorem dX6_put_33 : decode cX6_put 33 = .ok (.goto 20, 3) := by decide +kernel
theorem dX6_put_36 : decode cX6_put 36 = .ok (.aload_n 0, 1) := by decide +kernel
theorem dX6_put_37 : decode cX6_put 37 = .ok (.getfield 15, 3) := by decide +kernel
theorem dX6_put_40 : decode cX6_put 40 = .ok (.bipush 16, 2) := by decide +kernel
theorem dX6_put_42 : decode cX6_put 42 = .ok (.if_icmp .ne 10, 3) := by decide +kernel
theorem dX6_put_45 : decode cX6_put 45 = .ok (.iload_n 2, 1) := by decide +kernel
theorem dX6_put_46 : decode cX6_put 46 = .ok (.ldc 28, 2) := by decide +kernel
theorem dX6_put_48 : decode cX6_put 48 = .ok (.iand, 1) := by decide +kernel
theorem dX6_put_49 : decode cX6_put 49 = .ok (.goto 4, 3) := by decide +kernel
theorem dX6_put_52 : decode cX6_put 52 = .ok (.iload_n 2, 1) := by decide +kernel
theorem dX6_put_53 : decode cX6_put 53 = .ok (.iastore, 1) := by decide +kernel
theorem dX6_put_54 : decode cX6_put 54 = .ok (.iconst 1, 1) := by decide +kernel
theorem dX6_put_55 : decode cX6_put 55 = .ok (.ireturn, 1) := by decide +kernel
def X6_put (σ : Mem) (l0 : Nat) (l1 : Int) (l2 : Int) : Option (Int × Mem) :=
  if w32 l1 < 0 then
    some (0, σ)
  else
  if w32 l1 < w32 (σ l0 2) then
    if w32 (σ l0 1) ≠ w32 8 then
      if w32 (σ l0 1) ≠ w32 16 then
        ag 40 l1 fun j1 =>
        lt (st σ (l0 + 1) j1 l2) fun s2 =>
        some (1, s2)
      else
      ag 40 l1 fun j3 =>
      lt (st σ (l0 + 1) j3 (ian l2 65535)) fun s4 =>
      some (1, s4)
    else
    ag 40 l1 fun j5 =>
    lt (st σ (l0 + 1) j5 (ian l2 255)) fun s6 =>
    some (1, s6)
  else
  some (0, σ)
def S_X6_put_0 (fn : Mem → Nat → Int → Int → Option (Int × Mem)) (p : Program) (l : Launch) (e : Env) (R : Room) (s : State) (m : MethodId) (args : Array Value) (below : List Frame) (meth : Method) (c : Code) (G : GT) (τ : Mem) (res : Int) : Prop := ∀ (σ : Mem) (H : Heap) (locs : List Loc) (ls : Array Slot) (l0 : Nat) (l1 : Int) (l2 : Int), kd l0 = 6 → PW G σ H → va_S (AA G) s.heap H locs → fn σ l0 l1 l2 = some (res, τ) → lv_has ls 3 [(0, .ref (gh G + l0)), (1, .int (i32 l1)), (2, .int (i32 l2))] → W p l e R s m args below meth c H locs 0 0 (MQ below (QM G (some (.int (i32 res))) τ) args s 0 0 (AA G)) (F0 m 0 ls [])
set_option maxHeartbeats 4000000 in
theorem a_X6_put_0 {p : Program} {l : Launch} {e : Env} {R : Room} {s : State} {m : MethodId} {args : Array Value} {below : List Frame} {meth : Method} {c : Code} {G : GT} {τ : Mem} {res : Int} (X : CX p R s m args meth c cX6_put 3 RX6 (some FieldType.boolean) 1 60 G) : S_X6_put_0 (X6_put) p l e R s m args below meth c G τ res := by
  intro σ H locs ls l0 l1 l2 hk_l0 hP hS hf hl
  unfold X6_put at hf
  refine lv_iload_n X.1 X.2.1 dX6_put_0 rfl (lv_at hl 1 rfl) ?_
  refine r_if_lt (tgt := 12) X dX6_put_1 (by decide) (fun q => ?_) (fun q => ?_)
  · replace hf := it_inv q hf
    refine r_iconst X 0 dX6_put_12 ?_
    obtain ⟨rfl, rfl⟩ := so2_inv hf
    exact r_zret X hP hS (Or.inl rfl) dX6_put_13
  · replace hf := ie_inv q hf
    refine lv_iload_n X.1 X.2.1 dX6_put_4 rfl (lv_at hl 1 rfl) ?_
    refine lv_aload_n X.1 X.2.1 dX6_put_5 rfl (lv_at hl 0 rfl) ?_
    refine g_6_2 X hP hk_l0 (tb t_308 rfl) dX6_put_6 ?_
    refine r_icmp_lt (tgt := 14) X dX6_put_9 (by decide) (fun q => ?_) (fun q => ?_)
    · replace hf := it_inv q hf
      refine lv_aload_n X.1 X.2.1 dX6_put_14 rfl (lv_at hl 0 rfl) ?_
      refine g_6_0 (r := l0 + 1) X hP hk_l0 rfl (tb t_304 rfl) dX6_put_15 ?_
      refine lv_iload_n X.1 X.2.1 dX6_put_18 rfl (lv_at hl 1 rfl) ?_
      refine lv_aload_n X.1 X.2.1 dX6_put_19 rfl (lv_at hl 0 rfl) ?_
      refine g_6_1 X hP hk_l0 (tb t_306 rfl) dX6_put_20 ?_
      refine r_bipush X 8 (by decide) dX6_put_23 ?_
      refine r_icmp_ne (tgt := 36) X dX6_put_25 (by decide) (fun q => ?_) (fun q => ?_)
      · replace hf := it_inv q hf
        refine lv_aload_n X.1 X.2.1 dX6_put_36 rfl (lv_at hl 0 rfl) ?_
        refine g_6_1 X hP hk_l0 (tb t_306 rfl) dX6_put_37 ?_
        refine r_bipush X 16 (by decide) dX6_put_40 ?_
        refine r_icmp_ne (tgt := 52) X dX6_put_42 (by decide) (fun q => ?_) (fun q => ?_)
        · replace hf := it_inv q hf
          refine lv_iload_n X.1 X.2.1 dX6_put_52 rfl (lv_at hl 2 rfl) ?_
          obtain ⟨j1, hij1, hjj1, hlj1, hf⟩ := ag_inv hf
          refine r_iast X hP hS (ch_6_0 hk_l0).1 (ch_6_0 hk_l0).2 hij1 hjj1 dX6_put_53 (fun H locs hP hS => ?_)
          obtain ⟨s2, es2, hf⟩ := lt_inv hf
          rw [es2] at hP
          refine r_iconst X 1 dX6_put_54 ?_
          obtain ⟨rfl, rfl⟩ := so2_inv hf
          exact r_zret X hP hS (Or.inr rfl) dX6_put_55
        · replace hf := ie_inv q hf
          refine lv_iload_n X.1 X.2.1 dX6_put_45 rfl (lv_at hl 2 rfl) ?_
          refine r_ldc X 65535 (tb t_1018 rfl) (by decide) dX6_put_46 ?_
          refine r_iand X dX6_put_48 ?_
          refine lv_goto (tgt := 53) X.1 X.2.1 dX6_put_49 (by decide) ?_
          obtain ⟨j3, hij3, hjj3, hlj3, hf⟩ := ag_inv hf
          refine r_iast X hP hS (ch_6_0 hk_l0).1 (ch_6_0 hk_l0).2 hij3 hjj3 dX6_put_53 (fun H locs hP hS => ?_)
          obtain ⟨s4, es4, hf⟩ := lt_inv hf
          rw [es4] at hP
          refine r_iconst X 1 dX6_put_54 ?_
          obtain ⟨rfl, rfl⟩ := so2_inv hf
          exact r_zret X hP hS (Or.inr rfl) dX6_put_55
      · replace hf := ie_inv q hf
        refine lv_iload_n X.1 X.2.1 dX6_put_28 rfl (lv_at hl 2 rfl) ?_
        refine r_sipush X 255 (by decide) dX6_put_29 ?_
        refine r_iand X dX6_put_32 ?_
        refine lv_goto (tgt := 53) X.1 X.2.1 dX6_put_33 (by decide) ?_
        obtain ⟨j5, hij5, hjj5, hlj5, hf⟩ := ag_inv hf
        refine r_iast X hP hS (ch_6_0 hk_l0).1 (ch_6_0 hk_l0).2 hij5 hjj5 dX6_put_53 (fun H locs hP hS => ?_)
        obtain ⟨s6, es6, hf⟩ := lt_inv hf
        rw [es6] at hP
        refine r_iconst X 1 dX6_put_54 ?_
        obtain ⟨rfl, rfl⟩ := so2_inv hf
        exact r_zret X hP hS (Or.inr rfl) dX6_put_55
    · replace hf := ie_inv q hf
      refine r_iconst X 0 dX6_put_12 ?_
      obtain ⟨rfl, rfl⟩ := so2_inv hf
      exact r_zret X hP hS (Or.inl rfl) dX6_put_13
set_option maxHeartbeats 4000000 in
theorem c_X6_put {l : Launch} {G : GT} {σ τ : Mem} {res : Int} {l0 : Nat} {l1 : Int} {l2 : Int} (hk_l0 : kd l0 = 6) (hf : X6_put σ l0 l1 l2 = some (res, τ)) : CT l yX6_put cX6_put 3 (some FieldType.boolean) 1 60 G [.ref (gh G + l0), .int (i32 l1), .int (i32 l2)] σ τ (some (.int (i32 res))) := by
  refine CT.mk (own := RX6) (by decide) rfl (Nat.le_of_ble_eq_true rfl) ?_
  intro p e s m below meth c ls X hP hS hl
  have hl : lv_has ls 3 [(0, .ref (gh G + l0)), (1, .int (i32 l1)), (2, .int (i32 l2))] := hl
  exact a_X6_put_0 X σ s.heap [] ls l0 l1 l2 hk_l0 hP hS hf hl
theorem k_X6_put {p : Program} {l : Launch} {e : Env} {R : Room} {s : State} {m : MethodId} {args : Array Value} {below : List Frame} {meth : Method} {c : Code} {H : Heap} {locs : List Loc} {Q : State → Prop} {cc : ByteArray} {nL : Nat} {own : String} {ret : Option FieldType} {fF fL : Nat} {G : GT} {pc idx : Nat} {ls : Array Slot} {rest : List Value} {σ τ : Mem} {res : Int} {l0 : Nat} {l1 : Int} {l2 : Int} (X : CX p R s m args meth c cc nL own ret fF fL G) (hP : PW G σ H) (hS : va_S (AA G) s.heap H locs) (hls : ls.size = nL) (hk_l0 : kd l0 = 6) (hf : X6_put σ l0 l1 l2 = some (res, τ)) (h1 : Cond.methodLink own idx yX6_put ∈ TB) (hR : 1 + 1 ≤ fF ∧ 8 + (3 + 11) + 60 ≤ fL) (hW : (rest.map fun v => v.category).sum ≤ 8) (hd : decode cc pc = .ok (.invokevirtual idx, 3)) (kk : ∀ (H1 : Heap) (locs1 : List Loc), PW G τ H1 → va_S (AA G) s.heap H1 locs1 → W p l e R s m args below meth c H1 locs1 0 0 Q (F0 m (pc + 3) ls (.int (i32 res) :: rest))) : W p l e R s m args below meth c H locs 0 0 Q (F0 m pc ls (.int (i32 l2) :: .int (i32 l1) :: .ref (gh G + l0) :: rest)) := r_callV (n := 2) X hP hS hls (c_X6_put hk_l0 hf) h1 (tb t_1015 rfl) (tb t_1016 rfl) (tb t_84 rfl) (tb t_1017 rfl) (by decide +kernel) hR (r_recv X hP (kd_lt hk_l0 (by decide)) (cE_6 hk_l0) rfl) rfl rfl hW hd kk
/-! X10_write -/
theorem dX10_write_0 : decode cX10_write 0 = .ok (.iload_n 1, 1) := by decide +kernel
theorem dX10_write_1 : decode cX10_write 1 = .ok (.invokestatic 300, 3) := by decide +kernel
theorem dX10_write_4 : decode cX10_write 4 = .ok (.ifCond .ne 10, 3) := by decide +kernel
theorem dX10_write_7 : decode cX10_write 7 = .ok (.aload_n 0, 1) := by decide +kernel
theorem dX10_write_8 : decode cX10_write 8 = .ok (.ldc 72, 2) := by decide +kernel
theorem dX10_write_10 : decode cX10_write 10 = .ok (.invokevirtual 73, 3) := by decide +kernel
theorem dX10_write_13 : decode cX10_write 13 = .ok (.ireturn, 1) := by decide +kernel
theorem dX10_write_14 : decode cX10_write 14 = .ok (.aload_n 0, 1) := by decide +kernel
theorem dX10_write_15 : decode cX10_write 15 = .ok (.getfield 28, 3) := by decide +kernel
theorem dX10_write_18 : decode cX10_write 18 = .ok (.iload_n 1, 1) := by decide +kernel
theorem dX10_write_19 : decode cX10_write 19 = .ok (.aaload, 1) := by decide +kernel
theorem dX10_write_20 : decode cX10_write 20 = .ok (.invokevirtual 307, 3) := by decide +kernel
theorem dX10_write_23 : decode cX10_write 23 = .ok (.ifCond .eq 11, 3) := by decide +kernel
theorem dX10_write_26 : decode cX10_write 26 = .ok (.aload_n 0, 1) := by decide +kernel
theorem dX10_write_27 : decode cX10_write 27 = .ok (.ldc_w 296, 3) := by decide +kernel
theorem dX10_write_30 : decode cX10_write 30 = .ok (.invokevirtual 73, 3) := by decide +kernel
theorem dX10_write_33 : decode cX10_write 33 = .ok (.ireturn, 1) := by decide +kernel
theorem dX10_write_34 : decode cX10_write 34 = .ok (.aload_n 0, 1) := by decide +kernel
theorem dX10_write_35 : decode cX10_write 35 = .ok (.getfield 28, 3) := by decide +kernel
theorem dX10_write_38 : decode cX10_write 38 = .ok (.iload_n 1, 1) := by decide +kernel
theorem dX10_write_39 : decode cX10_write 39 = .ok (.aaload, 1) := by decide +kernel
theorem dX10_write_40 : decode cX10_write 40 = .ok (.iload_n 2, 1) := by decide +kernel
theorem dX10_write_41 : decode cX10_write 41 = .ok (.iload_n 3, 1) := by decide +kernel
theorem dX10_write_42 : decode cX10_write 42 = .ok (.invokevirtual 310, 3) := by decide +kernel
theorem dX10_write_45 : decode cX10_write 45 = .ok (.ifCond .eq 7, 3) := by decide +kernel
theorem dX10_write_48 : decode cX10_write 48 = .ok (.iconst 1, 1) := by decide +kernel
theorem dX10_write_49 : decode cX10_write 49 = .ok (.goto 9, 3) := by decide +kernel
theorem dX10_write_52 : decode cX10_write 52 = .ok (.aload_n 0, 1) := by decide +kernel
theorem dX10_write_53 : decode cX10_write 53 = .ok (.ldc 72, 2) := by decide +kernel
theorem dX10_write_55 : decode cX10_write 55 = .ok (.invokevirtual 73, 3) := by decide +kernel
theorem dX10_write_58 : decode cX10_write 58 = .ok (.ireturn, 1) := by decide +kernel
def X10_write (σ : Mem) (l1 : Int) (l2 : Int) (l3 : Int) : Option (Int × Mem) :=
  bd (X10_isSheet σ l1) fun r1 =>
  if w32 r1 ≠ 0 then
    ag 4 l1 fun j2 =>
    bd (X6_isMissing σ (63 + 2 * j2)) fun r3 =>
    if w32 r3 = 0 then
      ag 4 l1 fun j4 =>
      bd2 (X6_put σ (63 + 2 * j4) l2 l3) fun r5 s6 =>
      if w32 r5 = 0 then
        bd2 (X10_tell s6 (-1000001)) fun r7 s8 =>
        some (r7, s8)
      else
      some (1, s6)
    else
    bd2 (X10_tell σ (-1000006)) fun r9 s10 =>
    some (r9, s10)
  else
  bd2 (X10_tell σ (-1000001)) fun r11 s12 =>
  some (r11, s12)
def S_X10_write_0 (fn : Mem → Int → Int → Int → Option (Int × Mem)) (p : Program) (l : Launch) (e : Env) (R : Room) (s : State) (m : MethodId) (args : Array Value) (below : List Frame) (meth : Method) (c : Code) (G : GT) (τ : Mem) (res : Int) : Prop := ∀ (σ : Mem) (H : Heap) (locs : List Loc) (ls : Array Slot) (l1 : Int) (l2 : Int) (l3 : Int), PW G σ H → va_S (AA G) s.heap H locs → fn σ l1 l2 l3 = some (res, τ) → lv_has ls 4 [(0, .ref (gh G + 0)), (1, .int (i32 l1)), (2, .int (i32 l2)), (3, .int (i32 l3))] → W p l e R s m args below meth c H locs 0 0 (MQ below (QM G (some (.int (i32 res))) τ) args s 0 0 (AA G)) (F0 m 0 ls [])
set_option maxHeartbeats 4000000 in
theorem a_X10_write_0 {p : Program} {l : Launch} {e : Env} {R : Room} {s : State} {m : MethodId} {args : Array Value} {below : List Frame} {meth : Method} {c : Code} {G : GT} {τ : Mem} {res : Int} (X : CX p R s m args meth c cX10_write 4 RX10 (some FieldType.int) 3 104 G) : S_X10_write_0 (X10_write) p l e R s m args below meth c G τ res := by
  intro σ H locs ls l1 l2 l3 hP hS hf hl
  unfold X10_write at hf
  refine lv_iload_n X.1 X.2.1 dX10_write_0 rfl (lv_at hl 1 rfl) ?_
  obtain ⟨r1, hr1, hf⟩ := bd_inv hf
  refine k_X10_isSheet X hP hS hl.1  hr1 (tb t_997 rfl) (by decide) (Nat.le_of_ble_eq_true rfl) dX10_write_1 (fun H locs hP hS => ?_)
  refine r_if_ne (tgt := 14) X dX10_write_4 (by decide) (fun q => ?_) (fun q => ?_)
  · replace hf := it_inv q hf
    refine lv_aload_n X.1 X.2.1 dX10_write_14 rfl (lv_at hl 0 rfl) ?_
    refine g_10_4 (r := 50) X hP ks_10 rfl (tb t_392 rfl) dX10_write_15 ?_
    refine lv_iload_n X.1 X.2.1 dX10_write_18 rfl (lv_at hl 1 rfl) ?_
    obtain ⟨j2, hij2, hjj2, hlj2, hf⟩ := ag_inv hf
    refine r_aald19 (r := 63 + 2 * j2) X hP (ch_10_4 ks_10).1 (ch_10_4 ks_10).2 hij2 hjj2 rfl dX10_write_19 ?_
    obtain ⟨r3, hr3, hf⟩ := bd_inv hf
    refine k_X6_isMissing X hP hS hl.1 ((ch_19 (ch_10_4 ks_10).1).2 j2 hlj2) hr3 (tb t_1010 rfl) (by decide) (Nat.le_of_ble_eq_true rfl) dX10_write_20 (fun H locs hP hS => ?_)
    refine r_if_eq (tgt := 34) X dX10_write_23 (by decide) (fun q => ?_) (fun q => ?_)
    · replace hf := it_inv q hf
      refine lv_aload_n X.1 X.2.1 dX10_write_34 rfl (lv_at hl 0 rfl) ?_
      refine g_10_4 (r := 50) X hP ks_10 rfl (tb t_392 rfl) dX10_write_35 ?_
      refine lv_iload_n X.1 X.2.1 dX10_write_38 rfl (lv_at hl 1 rfl) ?_
      obtain ⟨j4, hij4, hjj4, hlj4, hf⟩ := ag_inv hf
      refine r_aald19 (r := 63 + 2 * j4) X hP (ch_10_4 ks_10).1 (ch_10_4 ks_10).2 hij4 hjj4 rfl dX10_write_39 ?_
      refine lv_iload_n X.1 X.2.1 dX10_write_40 rfl (lv_at hl 2 rfl) ?_
      refine lv_iload_n X.1 X.2.1 dX10_write_41 rfl (lv_at hl 3 rfl) ?_
      obtain ⟨r5, s6, hr5, hf⟩ := bd2_inv hf
      refine k_X6_put X hP hS hl.1 ((ch_19 (ch_10_4 ks_10).1).2 j4 hlj4) hr5 (tb t_1014 rfl) (by decide) (Nat.le_of_ble_eq_true rfl) dX10_write_42 (fun H locs hP hS => ?_)
      refine r_if_eq (tgt := 52) X dX10_write_45 (by decide) (fun q => ?_) (fun q => ?_)
      · replace hf := it_inv q hf
        refine lv_aload_n X.1 X.2.1 dX10_write_52 rfl (lv_at hl 0 rfl) ?_
        refine r_ldc X (-1000001) (tb t_430 rfl) (by decide) dX10_write_53 ?_
        obtain ⟨r7, s8, hr7, hf⟩ := bd2_inv hf
        refine k_X10_tell X hP hS hl.1  hr7 (tb t_431 rfl) (by decide) (Nat.le_of_ble_eq_true rfl) dX10_write_55 (fun H locs hP hS => ?_)
        obtain ⟨rfl, rfl⟩ := so2_inv hf
        exact r_iret X hP hS dX10_write_58
      · replace hf := ie_inv q hf
        refine r_iconst X 1 dX10_write_48 ?_
        refine lv_goto (tgt := 58) X.1 X.2.1 dX10_write_49 (by decide) ?_
        obtain ⟨rfl, rfl⟩ := so2_inv hf
        exact r_iret X hP hS dX10_write_58
    · replace hf := ie_inv q hf
      refine lv_aload_n X.1 X.2.1 dX10_write_26 rfl (lv_at hl 0 rfl) ?_
      refine r_ldcw X (-1000006) (tb t_987 rfl) (by decide) dX10_write_27 ?_
      obtain ⟨r9, s10, hr9, hf⟩ := bd2_inv hf
      refine k_X10_tell X hP hS hl.1  hr9 (tb t_431 rfl) (by decide) (Nat.le_of_ble_eq_true rfl) dX10_write_30 (fun H locs hP hS => ?_)
      obtain ⟨rfl, rfl⟩ := so2_inv hf
      exact r_iret X hP hS dX10_write_33
  · replace hf := ie_inv q hf
    refine lv_aload_n X.1 X.2.1 dX10_write_7 rfl (lv_at hl 0 rfl) ?_
    refine r_ldc X (-1000001) (tb t_430 rfl) (by decide) dX10_write_8 ?_
    obtain ⟨r11, s12, hr11, hf⟩ := bd2_inv hf
    refine k_X10_tell X hP hS hl.1  hr11 (tb t_431 rfl) (by decide) (Nat.le_of_ble_eq_true rfl) dX10_write_10 (fun H locs hP hS => ?_)
    obtain ⟨rfl, rfl⟩ := so2_inv hf
    exact r_iret X hP hS dX10_write_13
set_option maxHeartbeats 4000000 in
theorem c_X10_write {l : Launch} {G : GT} {σ τ : Mem} {res : Int} {l1 : Int} {l2 : Int} {l3 : Int} (hf : X10_write σ l1 l2 l3 = some (res, τ)) : CT l yX10_write cX10_write 4 (some FieldType.int) 3 104 G [.ref (gh G + 0), .int (i32 l1), .int (i32 l2), .int (i32 l3)] σ τ (some (.int (i32 res))) := by
  refine CT.mk (own := RX10) (by decide) rfl (Nat.le_of_ble_eq_true rfl) ?_
  intro p e s m below meth c ls X hP hS hl
  have hl : lv_has ls 4 [(0, .ref (gh G + 0)), (1, .int (i32 l1)), (2, .int (i32 l2)), (3, .int (i32 l3))] := hl
  exact a_X10_write_0 X σ s.heap [] ls l1 l2 l3 hP hS hf hl
theorem k_X10_write {p : Program} {l : Launch} {e : Env} {R : Room} {s : State} {m : MethodId} {args : Array Value} {below : List Frame} {meth : Method} {c : Code} {H : Heap} {locs : List Loc} {Q : State → Prop} {cc : ByteArray} {nL : Nat} {own : String} {ret : Option FieldType} {fF fL : Nat} {G : GT} {pc idx : Nat} {ls : Array Slot} {rest : List Value} {σ τ : Mem} {res : Int} {l1 : Int} {l2 : Int} {l3 : Int} (X : CX p R s m args meth c cc nL own ret fF fL G) (hP : PW G σ H) (hS : va_S (AA G) s.heap H locs) (hls : ls.size = nL) (hf : X10_write σ l1 l2 l3 = some (res, τ)) (h1 : Cond.methodLink own idx yX10_write ∈ TB) (hR : 3 + 1 ≤ fF ∧ 8 + (4 + 11) + 104 ≤ fL) (hW : (rest.map fun v => v.category).sum ≤ 8) (hd : decode cc pc = .ok (.invokevirtual idx, 3)) (kk : ∀ (H1 : Heap) (locs1 : List Loc), PW G τ H1 → va_S (AA G) s.heap H1 locs1 → W p l e R s m args below meth c H1 locs1 0 0 Q (F0 m (pc + 3) ls (.int (i32 res) :: rest))) : W p l e R s m args below meth c H locs 0 0 Q (F0 m pc ls (.int (i32 l3) :: .int (i32 l2) :: .int (i32 l1) :: .ref (gh G + 0) :: rest)) := r_callV (n := 3) X hP hS hls (c_X10_write hf) h1 (tb t_1007 rfl) (tb t_1008 rfl) (tb t_75 rfl) (tb t_1009 rfl) (by decide +kernel) hR (r_recv X hP (kd_lt ks_10 (by decide)) (cE_10 ks_10) rfl) rfl rfl hW hd kk
/-! X11_above -/
theorem dX11_above_0 : decode cX11_above 0 = .ok (.iload_n 0, 1) := by decide +kernel
theorem dX11_above_1 : decode cX11_above 1 = .ok (.ifCond .ne 7, 3) := by decide +kernel
theorem dX11_above_4 : decode cX11_above 4 = .ok (.iconst (-1), 1) := by decide +kernel
theorem dX11_above_5 : decode cX11_above 5 = .ok (.goto 22, 3) := by decide +kernel
theorem dX11_above_8 : decode cX11_above 8 = .ok (.iload_n 0, 1) := by decide +kernel
theorem dX11_above_9 : decode cX11_above 9 = .ok (.iconst 3, 1) := by decide +kernel
theorem dX11_above_10 : decode cX11_above 10 = .ok (.if_icmp .ge 7, 3) := by decide +kernel
theorem dX11_above_13 : decode cX11_above 13 = .ok (.iconst 0, 1) := by decide +kernel
theorem dX11_above_14 : decode cX11_above 14 = .ok (.goto 13, 3) := by decide +kernel
theorem dX11_above_17 : decode cX11_above 17 = .ok (.iload_n 0, 1) := by decide +kernel
theorem dX11_above_18 : decode cX11_above 18 = .ok (.iconst 5, 1) := by decide +kernel
theorem dX11_above_19 : decode cX11_above 19 = .ok (.if_icmp .ge 7, 3) := by decide +kernel
theorem dX11_above_22 : decode cX11_above 22 = .ok (.iconst 2, 1) := by decide +kernel
theorem dX11_above_23 : decode cX11_above 23 = .ok (.goto 4, 3) := by decide +kernel
theorem dX11_above_26 : decode cX11_above 26 = .ok (.iconst 3, 1) := by decide +kernel
theorem dX11_above_27 : decode cX11_above 27 = .ok (.ireturn, 1) := by decide +kernel
def X11_above (σ : Mem) (l0 : Int) : Option (Int) :=
  if w32 l0 ≠ 0 then
    if w32 3 ≤ w32 l0 then
      if w32 5 ≤ w32 l0 then
        some 3
      else
      some 2
    else
    some 0
  else
  some (-1)
def S_X11_above_0 (fn : Int → Option (Int)) (p : Program) (l : Launch) (e : Env) (R : Room) (s : State) (m : MethodId) (args : Array Value) (below : List Frame) (meth : Method) (c : Code) (G : GT) (σ : Mem) (res : Int) : Prop := ∀ (H : Heap) (locs : List Loc) (ls : Array Slot) (l0 : Int), PW G σ H → va_S (AA G) s.heap H locs → fn l0 = some res → lv_has ls 1 [(0, .int (i32 l0))] → W p l e R s m args below meth c H locs 0 0 (MQ below (QM G (some (.int (i32 res))) σ) args s 0 0 (AA G)) (F0 m 0 ls [])
set_option maxHeartbeats 4000000 in
theorem a_X11_above_0 {p : Program} {l : Launch} {e : Env} {R : Room} {s : State} {m : MethodId} {args : Array Value} {below : List Frame} {meth : Method} {c : Code} {G : GT} {σ : Mem} {res : Int} (X : CX p R s m args meth c cX11_above 1 RX11 (some FieldType.int) 1 60 G) : S_X11_above_0 (X11_above σ) p l e R s m args below meth c G σ res := by
  intro H locs ls l0 hP hS hf hl
  unfold X11_above at hf
  refine lv_iload_n X.1 X.2.1 dX11_above_0 rfl (lv_at hl 0 rfl) ?_
  refine r_if_ne (tgt := 8) X dX11_above_1 (by decide) (fun q => ?_) (fun q => ?_)
  · replace hf := it_inv q hf
    refine lv_iload_n X.1 X.2.1 dX11_above_8 rfl (lv_at hl 0 rfl) ?_
    refine r_iconst X 3 dX11_above_9 ?_
    refine r_icmp_ge (tgt := 17) X dX11_above_10 (by decide) (fun q => ?_) (fun q => ?_)
    · replace hf := it_inv q hf
      refine lv_iload_n X.1 X.2.1 dX11_above_17 rfl (lv_at hl 0 rfl) ?_
      refine r_iconst X 5 dX11_above_18 ?_
      refine r_icmp_ge (tgt := 26) X dX11_above_19 (by decide) (fun q => ?_) (fun q => ?_)
      · replace hf := it_inv q hf
        refine r_iconst X 3 dX11_above_26 ?_
        cases so_inv hf
        exact r_iret X hP hS dX11_above_27
      · replace hf := ie_inv q hf
        refine r_iconst X 2 dX11_above_22 ?_
        refine lv_goto (tgt := 27) X.1 X.2.1 dX11_above_23 (by decide) ?_
        cases so_inv hf
        exact r_iret X hP hS dX11_above_27
    · replace hf := ie_inv q hf
      refine r_iconst X 0 dX11_above_13 ?_
      refine lv_goto (tgt := 27) X.1 X.2.1 dX11_above_14 (by decide) ?_
      cases so_inv hf
      exact r_iret X hP hS dX11_above_27
  · replace hf := ie_inv q hf
    refine r_iconst X (-1) dX11_above_4 ?_
    refine lv_goto (tgt := 27) X.1 X.2.1 dX11_above_5 (by decide) ?_
    cases so_inv hf
    exact r_iret X hP hS dX11_above_27
set_option maxHeartbeats 4000000 in
theorem c_X11_above {l : Launch} {G : GT} {σ : Mem} {res : Int} {l0 : Int} (hf : X11_above σ l0 = some res) : CT l yX11_above cX11_above 1 (some FieldType.int) 1 60 G [.int (i32 l0)] σ σ (some (.int (i32 res))) := by
  refine CT.mk (own := RX11) (by decide) rfl (Nat.le_of_ble_eq_true rfl) ?_
  intro p e s m below meth c ls X hP hS hl
  have hl : lv_has ls 1 [(0, .int (i32 l0))] := hl
  exact a_X11_above_0 X  s.heap [] ls l0 hP hS hf hl
theorem k_X11_above {p : Program} {l : Launch} {e : Env} {R : Room} {s : State} {m : MethodId} {args : Array Value} {below : List Frame} {meth : Method} {c : Code} {H : Heap} {locs : List Loc} {Q : State → Prop} {cc : ByteArray} {nL : Nat} {own : String} {ret : Option FieldType} {fF fL : Nat} {G : GT} {pc idx : Nat} {ls : Array Slot} {rest : List Value} {σ : Mem} {res : Int} {l0 : Int} (X : CX p R s m args meth c cc nL own ret fF fL G) (hP : PW G σ H) (hS : va_S (AA G) s.heap H locs) (hls : ls.size = nL) (hf : X11_above σ l0 = some res) (h1 : Cond.methodLink own idx yX11_above ∈ TB) (hR : 1 + 1 ≤ fF ∧ 8 + (1 + 11) + 60 ≤ fL) (hW : (rest.map fun v => v.category).sum ≤ 8) (hd : decode cc pc = .ok (.invokestatic idx, 3)) (kk : ∀ (H1 : Heap) (locs1 : List Loc), PW G σ H1 → va_S (AA G) s.heap H1 locs1 → W p l e R s m args below meth c H1 locs1 0 0 Q (F0 m (pc + 3) ls (.int (i32 res) :: rest))) : W p l e R s m args below meth c H locs 0 0 Q (F0 m pc ls (.int (i32 l0) :: rest)) := r_callS (n := 1) X hP hS hls (c_X11_above hf) h1 (tb t_1526 rfl) (tb t_87 rfl) (tb t_1527 rfl) (by decide +kernel) hR rfl rfl hW hd kk
theorem kn_X11_above {p : Program} {l : Launch} {e : Env} {R : Room} {s : State} {m : MethodId} {args : Array Value} {below : List Frame} {meth : Method} {c : Code} {H : Heap} {locs : List Loc} {Q : State → Prop} {cc : ByteArray} {nL : Nat} {own : String} {ret : Option FieldType} {fF fL : Nat} {G : GT} {pc idx : Nat} {ls : Array Slot} {rest : List Value} {σ : Mem} {res : Int} {l0 : Int} (X : CX p R s m args meth c cc nL own ret fF fL G) (hP : PW G σ H) (hS : va_S (AA G) s.heap H locs) (hls : ls.size = nL) (hf : X11_above σ l0 = some res) {host : String} (h1 : Cond.methodLinkNest own idx yX11_above host ∈ NWl) (hR : 1 + 1 ≤ fF ∧ 8 + (1 + 11) + 60 ≤ fL) (hW : (rest.map fun v => v.category).sum ≤ 8) (hd : decode cc pc = .ok (.invokestatic idx, 3)) (kk : ∀ (H1 : Heap) (locs1 : List Loc), PW G σ H1 → va_S (AA G) s.heap H1 locs1 → W p l e R s m args below meth c H1 locs1 0 0 Q (F0 m (pc + 3) ls (.int (i32 res) :: rest))) : W p l e R s m args below meth c H locs 0 0 Q (F0 m pc ls (.int (i32 l0) :: rest)) := r_callSN (n := 1) X hP hS hls (c_X11_above hf) h1 (tb t_1526 rfl) (tb t_87 rfl) (tb t_1527 rfl) (by decide +kernel) hR rfl rfl hW hd kk
/-! X11_in -/
theorem dX11_in_0 : decode cX11_in 0 = .ok (.lload_n 0, 1) := by decide +kernel
theorem dX11_in_1 : decode cX11_in 1 = .ok (.lload_n 2, 1) := by decide +kernel
theorem dX11_in_2 : decode cX11_in 2 = .ok (.lcmp, 1) := by decide +kernel
theorem dX11_in_3 : decode cX11_in 3 = .ok (.ifCond .lt 14, 3) := by decide +kernel
theorem dX11_in_6 : decode cX11_in 6 = .ok (.lload_n 0, 1) := by decide +kernel
theorem dX11_in_7 : decode cX11_in 7 = .ok (.lload 4, 2) := by decide +kernel
theorem dX11_in_9 : decode cX11_in 9 = .ok (.lcmp, 1) := by decide +kernel
theorem dX11_in_10 : decode cX11_in 10 = .ok (.ifCond .gt 7, 3) := by decide +kernel
theorem dX11_in_13 : decode cX11_in 13 = .ok (.iconst 1, 1) := by decide +kernel
theorem dX11_in_14 : decode cX11_in 14 = .ok (.goto 4, 3) := by decide +kernel
theorem dX11_in_17 : decode cX11_in 17 = .ok (.iconst 0, 1) := by decide +kernel
theorem dX11_in_18 : decode cX11_in 18 = .ok (.ireturn, 1) := by decide +kernel
def X11_in (σ : Mem) (l0 : Int) (l2 : Int) (l4 : Int) : Option (Int) :=
  if w64 l0 < w64 l2 then
    some 0
  else
  if w64 l4 < w64 l0 then
    some 0
  else
  some 1
def S_X11_in_0 (fn : Int → Int → Int → Option (Int)) (p : Program) (l : Launch) (e : Env) (R : Room) (s : State) (m : MethodId) (args : Array Value) (below : List Frame) (meth : Method) (c : Code) (G : GT) (σ : Mem) (res : Int) : Prop := ∀ (H : Heap) (locs : List Loc) (ls : Array Slot) (l0 : Int) (l2 : Int) (l4 : Int), PW G σ H → va_S (AA G) s.heap H locs → fn l0 l2 l4 = some res → lv_has ls 6 [(0, .long (i64 l0)), (2, .long (i64 l2)), (4, .long (i64 l4))] → W p l e R s m args below meth c H locs 0 0 (MQ below (QM G (some (.int (i32 res))) σ) args s 0 0 (AA G)) (F0 m 0 ls [])
set_option maxHeartbeats 4000000 in
theorem a_X11_in_0 {p : Program} {l : Launch} {e : Env} {R : Room} {s : State} {m : MethodId} {args : Array Value} {below : List Frame} {meth : Method} {c : Code} {G : GT} {σ : Mem} {res : Int} (X : CX p R s m args meth c cX11_in 6 RX11 (some FieldType.boolean) 1 60 G) : S_X11_in_0 (X11_in σ) p l e R s m args below meth c G σ res := by
  intro H locs ls l0 l2 l4 hP hS hf hl
  unfold X11_in at hf
  refine lv_lload_n X.1 X.2.1 dX11_in_0 rfl (lv_at hl 0 rfl) ?_
  refine lv_lload_n X.1 X.2.1 dX11_in_1 rfl (lv_at hl 1 rfl) ?_
  refine r_lcmp_lt (tgt := 17) X dX11_in_2 dX11_in_3 (by decide) (fun q => ?_) (fun q => ?_)
  · replace hf := it_inv q hf
    refine r_iconst X 0 dX11_in_17 ?_
    cases so_inv hf
    exact r_zret X hP hS (Or.inl rfl) dX11_in_18
  · replace hf := ie_inv q hf
    refine lv_lload_n X.1 X.2.1 dX11_in_6 rfl (lv_at hl 0 rfl) ?_
    refine lv_lload X.1 X.2.1 dX11_in_7 (lv_at hl 2 rfl) ?_
    refine r_lcmp_gt (tgt := 17) X dX11_in_9 dX11_in_10 (by decide) (fun q => ?_) (fun q => ?_)
    · replace hf := it_inv q hf
      refine r_iconst X 0 dX11_in_17 ?_
      cases so_inv hf
      exact r_zret X hP hS (Or.inl rfl) dX11_in_18
    · replace hf := ie_inv q hf
      refine r_iconst X 1 dX11_in_13 ?_
      refine lv_goto (tgt := 18) X.1 X.2.1 dX11_in_14 (by decide) ?_
      cases so_inv hf
      exact r_zret X hP hS (Or.inr rfl) dX11_in_18
set_option maxHeartbeats 4000000 in
theorem c_X11_in {l : Launch} {G : GT} {σ : Mem} {res : Int} {l0 : Int} {l2 : Int} {l4 : Int} (hf : X11_in σ l0 l2 l4 = some res) : CT l yX11_in cX11_in 6 (some FieldType.boolean) 1 60 G [.long (i64 l0), .long (i64 l2), .long (i64 l4)] σ σ (some (.int (i32 res))) := by
  refine CT.mk (own := RX11) (by decide) rfl (Nat.le_of_ble_eq_true rfl) ?_
  intro p e s m below meth c ls X hP hS hl
  have hl : lv_has ls 6 [(0, .long (i64 l0)), (2, .long (i64 l2)), (4, .long (i64 l4))] := hl
  exact a_X11_in_0 X  s.heap [] ls l0 l2 l4 hP hS hf hl
theorem k_X11_in {p : Program} {l : Launch} {e : Env} {R : Room} {s : State} {m : MethodId} {args : Array Value} {below : List Frame} {meth : Method} {c : Code} {H : Heap} {locs : List Loc} {Q : State → Prop} {cc : ByteArray} {nL : Nat} {own : String} {ret : Option FieldType} {fF fL : Nat} {G : GT} {pc idx : Nat} {ls : Array Slot} {rest : List Value} {σ : Mem} {res : Int} {l0 : Int} {l2 : Int} {l4 : Int} (X : CX p R s m args meth c cc nL own ret fF fL G) (hP : PW G σ H) (hS : va_S (AA G) s.heap H locs) (hls : ls.size = nL) (hf : X11_in σ l0 l2 l4 = some res) (h1 : Cond.methodLink own idx yX11_in ∈ TB) (hR : 1 + 1 ≤ fF ∧ 8 + (6 + 11) + 60 ≤ fL) (hW : (rest.map fun v => v.category).sum ≤ 8) (hd : decode cc pc = .ok (.invokestatic idx, 3)) (kk : ∀ (H1 : Heap) (locs1 : List Loc), PW G σ H1 → va_S (AA G) s.heap H1 locs1 → W p l e R s m args below meth c H1 locs1 0 0 Q (F0 m (pc + 3) ls (.int (i32 res) :: rest))) : W p l e R s m args below meth c H locs 0 0 Q (F0 m pc ls (.long (i64 l4) :: .long (i64 l2) :: .long (i64 l0) :: rest)) := r_callS (n := 3) X hP hS hls (c_X11_in hf) h1 (tb t_1209 rfl) (tb t_87 rfl) (tb t_1210 rfl) (by decide +kernel) hR rfl rfl hW hd kk
theorem kn_X11_in {p : Program} {l : Launch} {e : Env} {R : Room} {s : State} {m : MethodId} {args : Array Value} {below : List Frame} {meth : Method} {c : Code} {H : Heap} {locs : List Loc} {Q : State → Prop} {cc : ByteArray} {nL : Nat} {own : String} {ret : Option FieldType} {fF fL : Nat} {G : GT} {pc idx : Nat} {ls : Array Slot} {rest : List Value} {σ : Mem} {res : Int} {l0 : Int} {l2 : Int} {l4 : Int} (X : CX p R s m args meth c cc nL own ret fF fL G) (hP : PW G σ H) (hS : va_S (AA G) s.heap H locs) (hls : ls.size = nL) (hf : X11_in σ l0 l2 l4 = some res) {host : String} (h1 : Cond.methodLinkNest own idx yX11_in host ∈ NWl) (hR : 1 + 1 ≤ fF ∧ 8 + (6 + 11) + 60 ≤ fL) (hW : (rest.map fun v => v.category).sum ≤ 8) (hd : decode cc pc = .ok (.invokestatic idx, 3)) (kk : ∀ (H1 : Heap) (locs1 : List Loc), PW G σ H1 → va_S (AA G) s.heap H1 locs1 → W p l e R s m args below meth c H1 locs1 0 0 Q (F0 m (pc + 3) ls (.int (i32 res) :: rest))) : W p l e R s m args below meth c H locs 0 0 Q (F0 m pc ls (.long (i64 l4) :: .long (i64 l2) :: .long (i64 l0) :: rest)) := r_callSN (n := 3) X hP hS hls (c_X11_in hf) h1 (tb t_1209 rfl) (tb t_87 rfl) (tb t_1210 rfl) (by decide +kernel) hR rfl rfl hW hd kk
/-! X11_finds -/
theorem dX11_finds_0 : decode cX11_finds 0 = .ok (.aload_n 0, 1) := by decide +kernel
theorem dX11_finds_1 : decode cX11_finds 1 = .ok (.getfield 16, 3) := by decide +kernel
theorem dX11_finds_4 : decode cX11_finds 4 = .ok (.iload_n 1, 1) := by decide +kernel
theorem dX11_finds_5 : decode cX11_finds 5 = .ok (.dup2, 1) := by decide +kernel
theorem dX11_finds_6 : decode cX11_finds 6 = .ok (.iaload, 1) := by decide +kernel
theorem dX11_finds_7 : decode cX11_finds 7 = .ok (.iconst 1, 1) := by decide +kernel
theorem dX11_finds_8 : decode cX11_finds 8 = .ok (.iadd, 1) := by decide +kernel
theorem dX11_finds_9 : decode cX11_finds 9 = .ok (.iastore, 1) := by decide +kernel
theorem dX11_finds_10 : decode cX11_finds 10 = .ok (.ldc 90, 2) := by decide +kernel
theorem dX11_finds_12 : decode cX11_finds 12 = .ok (.iload_n 1, 1) := by decide +kernel
theorem dX11_finds_13 : decode cX11_finds 13 = .ok (.isub, 1) := by decide +kernel
theorem dX11_finds_14 : decode cX11_finds 14 = .ok (.ireturn, 1) := by decide +kernel
def X11_finds (σ : Mem) (l1 : Int) : Option (Int × Mem) :=
  ag 7 l1 fun j1 =>
  ag 7 l1 fun j2 =>
  lt (st σ 114 j2 ((σ 114 j1) + 1)) fun s3 =>
  some ((-1000001) - l1, s3)
def S_X11_finds_0 (fn : Mem → Int → Option (Int × Mem)) (p : Program) (l : Launch) (e : Env) (R : Room) (s : State) (m : MethodId) (args : Array Value) (below : List Frame) (meth : Method) (c : Code) (G : GT) (τ : Mem) (res : Int) : Prop := ∀ (σ : Mem) (H : Heap) (locs : List Loc) (ls : Array Slot) (l1 : Int), PW G σ H → va_S (AA G) s.heap H locs → fn σ l1 = some (res, τ) → lv_has ls 2 [(0, .ref (gh G + 111)), (1, .int (i32 l1))] → W p l e R s m args below meth c H locs 0 0 (MQ below (QM G (some (.int (i32 res))) τ) args s 0 0 (AA G)) (F0 m 0 ls [])
set_option maxHeartbeats 4000000 in
theorem a_X11_finds_0 {p : Program} {l : Launch} {e : Env} {R : Room} {s : State} {m : MethodId} {args : Array Value} {below : List Frame} {meth : Method} {c : Code} {G : GT} {τ : Mem} {res : Int} (X : CX p R s m args meth c cX11_finds 2 RX11 (some FieldType.int) 1 60 G) : S_X11_finds_0 (X11_finds) p l e R s m args below meth c G τ res := by
  intro σ H locs ls l1 hP hS hf hl
  unfold X11_finds at hf
  refine lv_aload_n X.1 X.2.1 dX11_finds_0 rfl (lv_at hl 0 rfl) ?_
  refine g_11_3 (r := 114) X hP ks_11 rfl (tb t_1090 rfl) dX11_finds_1 ?_
  refine lv_iload_n X.1 X.2.1 dX11_finds_4 rfl (lv_at hl 1 rfl) ?_
  refine lv_dup2_11 X.1 X.2.1 dX11_finds_5 rfl rfl ?_
  obtain ⟨j1, hij1, hjj1, hlj1, hf⟩ := ag_inv hf
  refine r_iald X hP (ch_11_3 ks_11).1 (ch_11_3 ks_11).2 hij1 hjj1 dX11_finds_6 ?_
  refine r_iconst X 1 dX11_finds_7 ?_
  refine r_iadd X dX11_finds_8 ?_
  obtain ⟨j2, hij2, hjj2, hlj2, hf⟩ := ag_inv hf
  refine r_iast X hP hS (ch_11_3 ks_11).1 (ch_11_3 ks_11).2 hij2 hjj2 dX11_finds_9 (fun H locs hP hS => ?_)
  obtain ⟨s3, es3, hf⟩ := lt_inv hf
  rw [es3] at hP
  refine r_ldc X (-1000001) (tb t_1223 rfl) (by decide) dX11_finds_10 ?_
  refine lv_iload_n X.1 X.2.1 dX11_finds_12 rfl (lv_at hl 1 rfl) ?_
  refine r_isub X dX11_finds_13 ?_
  obtain ⟨rfl, rfl⟩ := so2_inv hf
  exact r_iret X hP hS dX11_finds_14
set_option maxHeartbeats 4000000 in
theorem c_X11_finds {l : Launch} {G : GT} {σ τ : Mem} {res : Int} {l1 : Int} (hf : X11_finds σ l1 = some (res, τ)) : CT l yX11_finds cX11_finds 2 (some FieldType.int) 1 60 G [.ref (gh G + 111), .int (i32 l1)] σ τ (some (.int (i32 res))) := by
  refine CT.mk (own := RX11) (by decide) rfl (Nat.le_of_ble_eq_true rfl) ?_
  intro p e s m below meth c ls X hP hS hl
  have hl : lv_has ls 2 [(0, .ref (gh G + 111)), (1, .int (i32 l1))] := hl
  exact a_X11_finds_0 X σ s.heap [] ls l1 hP hS hf hl
theorem k_X11_finds {p : Program} {l : Launch} {e : Env} {R : Room} {s : State} {m : MethodId} {args : Array Value} {below : List Frame} {meth : Method} {c : Code} {H : Heap} {locs : List Loc} {Q : State → Prop} {cc : ByteArray} {nL : Nat} {own : String} {ret : Option FieldType} {fF fL : Nat} {G : GT} {pc idx : Nat} {ls : Array Slot} {rest : List Value} {σ τ : Mem} {res : Int} {l1 : Int} (X : CX p R s m args meth c cc nL own ret fF fL G) (hP : PW G σ H) (hS : va_S (AA G) s.heap H locs) (hls : ls.size = nL) (hf : X11_finds σ l1 = some (res, τ)) (h1 : Cond.methodLink own idx yX11_finds ∈ TB) (hR : 1 + 1 ≤ fF ∧ 8 + (2 + 11) + 60 ≤ fL) (hW : (rest.map fun v => v.category).sum ≤ 8) (hd : decode cc pc = .ok (.invokevirtual idx, 3)) (kk : ∀ (H1 : Heap) (locs1 : List Loc), PW G τ H1 → va_S (AA G) s.heap H1 locs1 → W p l e R s m args below meth c H1 locs1 0 0 Q (F0 m (pc + 3) ls (.int (i32 res) :: rest))) : W p l e R s m args below meth c H locs 0 0 Q (F0 m pc ls (.int (i32 l1) :: .ref (gh G + 111) :: rest)) := r_callV (n := 1) X hP hS hls (c_X11_finds hf) h1 (tb t_1221 rfl) (tb t_32 rfl) (tb t_87 rfl) (tb t_1222 rfl) (by decide +kernel) hR (r_recv X hP (kd_lt ks_11 (by decide)) (cE_11 ks_11) rfl) rfl rfl hW hd kk
/-! X11_noTurns -/
theorem dX11_noTurns_0 : decode cX11_noTurns 0 = .ok (.iconst 0, 1) := by decide +kernel
theorem dX11_noTurns_1 : decode cX11_noTurns 1 = .ok (.istore_n 1, 1) := by decide +kernel
theorem dX11_noTurns_2 : decode cX11_noTurns 2 = .ok (.iload_n 1, 1) := by decide +kernel
theorem dX11_noTurns_3 : decode cX11_noTurns 3 = .ok (.bipush 40, 2) := by decide +kernel
theorem dX11_noTurns_5 : decode cX11_noTurns 5 = .ok (.if_icmp .ge 16, 3) := by decide +kernel
theorem dX11_noTurns_8 : decode cX11_noTurns 8 = .ok (.aload_n 0, 1) := by decide +kernel
theorem dX11_noTurns_9 : decode cX11_noTurns 9 = .ok (.getfield 74, 3) := by decide +kernel
theorem dX11_noTurns_12 : decode cX11_noTurns 12 = .ok (.iload_n 1, 1) := by decide +kernel
theorem dX11_noTurns_13 : decode cX11_noTurns 13 = .ok (.iconst 0, 1) := by decide +kernel
theorem dX11_noTurns_14 : decode cX11_noTurns 14 = .ok (.iastore, 1) := by decide +kernel
theorem dX11_noTurns_15 : decode cX11_noTurns 15 = .ok (.iinc 1 1, 3) := by decide +kernel
theorem dX11_noTurns_18 : decode cX11_noTurns 18 = .ok (.goto (-16), 3) := by decide +kernel
theorem dX11_noTurns_21 : decode cX11_noTurns 21 = .ok (.return_, 1) := by decide +kernel
def S_X11_noTurns_2 (fn : Mem → Int → Option (Mem)) (p : Program) (l : Launch) (e : Env) (R : Room) (s : State) (m : MethodId) (args : Array Value) (below : List Frame) (meth : Method) (c : Code) (G : GT) (τ : Mem) : Prop := ∀ (σ : Mem) (H : Heap) (locs : List Loc) (ls : Array Slot) (l1 : Int), PW G σ H → va_S (AA G) s.heap H locs → fn σ l1 = some τ → lv_has ls 2 [(0, .ref (gh G + 111)), (1, .int (i32 l1))] → W p l e R s m args below meth c H locs 0 0 (MQ below (QM G none τ) args s 0 0 (AA G)) (F0 m 2 ls [])
def X11_noTurns_B2 (rec2 : Mem → Int → Option (Mem)) (σ : Mem) (l1 : Int) : Option (Mem) :=
  if w32 40 ≤ w32 l1 then
    some σ
  else
  ag 40 l1 fun j1 =>
  lt (st σ 133 j1 0) fun s2 =>
  lt (l1 + 1) fun l1_3 =>
  rec2 s2 l1_3
def X11_noTurns_L2 : Nat → Mem → Int → Option (Mem)
  | 0 => fun _ _ => none
  | n + 1 => X11_noTurns_B2 (X11_noTurns_L2 n)
def X11_noTurns (σ : Mem) : Option (Mem) :=
  X11_noTurns_L2 5000 σ 0
def S_X11_noTurns_0 (fn : Mem → Option (Mem)) (p : Program) (l : Launch) (e : Env) (R : Room) (s : State) (m : MethodId) (args : Array Value) (below : List Frame) (meth : Method) (c : Code) (G : GT) (τ : Mem) : Prop := ∀ (σ : Mem) (H : Heap) (locs : List Loc) (ls : Array Slot), PW G σ H → va_S (AA G) s.heap H locs → fn σ = some τ → lv_has ls 2 [(0, .ref (gh G + 111))] → W p l e R s m args below meth c H locs 0 0 (MQ below (QM G none τ) args s 0 0 (AA G)) (F0 m 0 ls [])
set_option maxHeartbeats 4000000 in
theorem a_X11_noTurns_2 {p : Program} {l : Launch} {e : Env} {R : Room} {s : State} {m : MethodId} {args : Array Value} {below : List Frame} {meth : Method} {c : Code} {G : GT} {τ : Mem} {rec2 : Mem → Int → Option (Mem)} (X : CX p R s m args meth c cX11_noTurns 2 RX11 none 1 60 G) (h2 : S_X11_noTurns_2 rec2 p l e R s m args below meth c G τ) : S_X11_noTurns_2 (X11_noTurns_B2 rec2) p l e R s m args below meth c G τ := by
  intro σ H locs ls l1 hP hS hf hl
  unfold X11_noTurns_B2 at hf
  refine lv_iload_n X.1 X.2.1 dX11_noTurns_2 rfl (lv_at hl 1 rfl) ?_
  refine r_bipush X 40 (by decide) dX11_noTurns_3 ?_
  refine r_icmp_ge (tgt := 21) X dX11_noTurns_5 (by decide) (fun q => ?_) (fun q => ?_)
  · replace hf := it_inv q hf
    cases so_inv hf
    exact r_vret X hP hS dX11_noTurns_21
  · replace hf := ie_inv q hf
    refine lv_aload_n X.1 X.2.1 dX11_noTurns_8 rfl (lv_at hl 0 rfl) ?_
    refine g_11_33 (r := 133) X hP ks_11 rfl (tb t_1120 rfl) dX11_noTurns_9 ?_
    refine lv_iload_n X.1 X.2.1 dX11_noTurns_12 rfl (lv_at hl 1 rfl) ?_
    refine r_iconst X 0 dX11_noTurns_13 ?_
    obtain ⟨j1, hij1, hjj1, hlj1, hf⟩ := ag_inv hf
    refine r_iast X hP hS (ch_11_33 ks_11).1 (ch_11_33 ks_11).2 hij1 hjj1 dX11_noTurns_14 (fun H locs hP hS => ?_)
    obtain ⟨s2, es2, hf⟩ := lt_inv hf
    rw [es2] at hP
    obtain ⟨l1_3, el1_3, hf⟩ := lt_inv hf
    refine lv_iinc (v := i32 l1_3) (lv' := [(1, .int (i32 l1_3)), (0, .ref (gh G + 111))]) X.1 X.2.1 dX11_noTurns_15 hl (k := 1) rfl (by rw [← el1_3]; exact i32_add _ _) (by decide) rfl (fun ls hl => ?_)
    refine lv_goto (tgt := 2) X.1 X.2.1 dX11_noTurns_18 (by decide) ?_
    exact h2 s2 H locs ls l1_3 hP hS hf (lv_sub hl [1, 0] rfl)
theorem al_X11_noTurns_2 {p : Program} {l : Launch} {e : Env} {R : Room} {s : State} {m : MethodId} {args : Array Value} {below : List Frame} {meth : Method} {c : Code} {G : GT} {τ : Mem} (X : CX p R s m args meth c cX11_noTurns 2 RX11 none 1 60 G) : ∀ n, S_X11_noTurns_2 (X11_noTurns_L2 n) p l e R s m args below meth c G τ := by
  intro n
  induction n with
  | zero =>
    intro σ H locs ls l1 hP hS hf hl
    cases hf
  | succ n ih => exact a_X11_noTurns_2 X ih
set_option maxHeartbeats 4000000 in
theorem a_X11_noTurns_0 {p : Program} {l : Launch} {e : Env} {R : Room} {s : State} {m : MethodId} {args : Array Value} {below : List Frame} {meth : Method} {c : Code} {G : GT} {τ : Mem} (X : CX p R s m args meth c cX11_noTurns 2 RX11 none 1 60 G) : S_X11_noTurns_0 (X11_noTurns) p l e R s m args below meth c G τ := by
  intro σ H locs ls hP hS hf hl
  unfold X11_noTurns at hf
  refine r_iconst X 0 dX11_noTurns_0 ?_
  refine lv_istore_n (lv' := [(1, .int (i32 0)), (0, .ref (gh G + 111))]) X.1 X.2.1 dX11_noTurns_1 rfl hl (by decide) rfl (fun ls hl => ?_)
  exact al_X11_noTurns_2 X 5000 σ H locs ls 0 hP hS hf (lv_sub hl [1, 0] rfl)
set_option maxHeartbeats 4000000 in
theorem c_X11_noTurns {l : Launch} {G : GT} {σ τ : Mem} (hf : X11_noTurns σ = some τ) : CT l yX11_noTurns cX11_noTurns 2 none 1 60 G [.ref (gh G + 111)] σ τ none := by
  refine CT.mk (own := RX11) (by decide) rfl (Nat.le_of_ble_eq_true rfl) ?_
  intro p e s m below meth c ls X hP hS hl
  have hl : lv_has ls 2 [(0, .ref (gh G + 111))] := hl
  exact a_X11_noTurns_0 X σ s.heap [] ls hP hS hf hl
theorem k_X11_noTurns {p : Program} {l : Launch} {e : Env} {R : Room} {s : State} {m : MethodId} {args : Array Value} {below : List Frame} {meth : Method} {c : Code} {H : Heap} {locs : List Loc} {Q : State → Prop} {cc : ByteArray} {nL : Nat} {own : String} {ret : Option FieldType} {fF fL : Nat} {G : GT} {pc idx : Nat} {ls : Array Slot} {rest : List Value} {σ τ : Mem} (X : CX p R s m args meth c cc nL own ret fF fL G) (hP : PW G σ H) (hS : va_S (AA G) s.heap H locs) (hls : ls.size = nL) (hf : X11_noTurns σ = some τ) (h1 : Cond.methodLink own idx yX11_noTurns ∈ TB) (hR : 1 + 1 ≤ fF ∧ 8 + (2 + 11) + 60 ≤ fL) (hW : (rest.map fun v => v.category).sum ≤ 8) (hd : decode cc pc = .ok (.invokevirtual idx, 3)) (kk : ∀ (H1 : Heap) (locs1 : List Loc), PW G τ H1 → va_S (AA G) s.heap H1 locs1 → W p l e R s m args below meth c H1 locs1 0 0 Q (F0 m (pc + 3) ls (rest))) : W p l e R s m args below meth c H locs 0 0 Q (F0 m pc ls (.ref (gh G + 111) :: rest)) := r_callV (n := 0) X hP hS hls (c_X11_noTurns hf) h1 (tb t_1463 rfl) (tb t_66 rfl) (tb t_87 rfl) (tb t_1464 rfl) (by decide +kernel) hR (r_recv X hP (kd_lt ks_11 (by decide)) (cE_11 ks_11) rfl) rfl rfl hW hd kk
/-! X11_part -/
theorem dX11_part_0 : decode cX11_part 0 = .ok (.iconst 5, 1) := by decide +kernel
theorem dX11_part_1 : decode cX11_part 1 = .ok (.sipush 165, 3) := by decide +kernel
theorem dX11_part_4 : decode cX11_part 4 = .ok (.iload_n 0, 1) := by decide +kernel
theorem dX11_part_5 : decode cX11_part 5 = .ok (.imul, 1) := by decide +kernel
theorem dX11_part_6 : decode cX11_part 6 = .ok (.iadd, 1) := by decide +kernel
theorem dX11_part_7 : decode cX11_part 7 = .ok (.ireturn, 1) := by decide +kernel
def X11_part (σ : Mem) (l0 : Int) : Option (Int) :=
  some (5 + (165 * l0))
def S_X11_part_0 (fn : Int → Option (Int)) (p : Program) (l : Launch) (e : Env) (R : Room) (s : State) (m : MethodId) (args : Array Value) (below : List Frame) (meth : Method) (c : Code) (G : GT) (σ : Mem) (res : Int) : Prop := ∀ (H : Heap) (locs : List Loc) (ls : Array Slot) (l0 : Int), PW G σ H → va_S (AA G) s.heap H locs → fn l0 = some res → lv_has ls 1 [(0, .int (i32 l0))] → W p l e R s m args below meth c H locs 0 0 (MQ below (QM G (some (.int (i32 res))) σ) args s 0 0 (AA G)) (F0 m 0 ls [])
set_option maxHeartbeats 4000000 in
theorem a_X11_part_0 {p : Program} {l : Launch} {e : Env} {R : Room} {s : State} {m : MethodId} {args : Array Value} {below : List Frame} {meth : Method} {c : Code} {G : GT} {σ : Mem} {res : Int} (X : CX p R s m args meth c cX11_part 1 RX11 (some FieldType.int) 1 60 G) : S_X11_part_0 (X11_part σ) p l e R s m args below meth c G σ res := by
  intro H locs ls l0 hP hS hf hl
  unfold X11_part at hf
  refine r_iconst X 5 dX11_part_0 ?_
  refine r_sipush X 165 (by decide) dX11_part_1 ?_
  refine lv_iload_n X.1 X.2.1 dX11_part_4 rfl (lv_at hl 0 rfl) ?_
  refine r_imul X dX11_part_5 ?_
  refine r_iadd X dX11_part_6 ?_
  cases so_inv hf
  exact r_iret X hP hS dX11_part_7
set_option maxHeartbeats 4000000 in
theorem c_X11_part {l : Launch} {G : GT} {σ : Mem} {res : Int} {l0 : Int} (hf : X11_part σ l0 = some res) : CT l yX11_part cX11_part 1 (some FieldType.int) 1 60 G [.int (i32 l0)] σ σ (some (.int (i32 res))) := by
  refine CT.mk (own := RX11) (by decide) rfl (Nat.le_of_ble_eq_true rfl) ?_
  intro p e s m below meth c ls X hP hS hl
  have hl : lv_has ls 1 [(0, .int (i32 l0))] := hl
  exact a_X11_part_0 X  s.heap [] ls l0 hP hS hf hl
theorem k_X11_part {p : Program} {l : Launch} {e : Env} {R : Room} {s : State} {m : MethodId} {args : Array Value} {below : List Frame} {meth : Method} {c : Code} {H : Heap} {locs : List Loc} {Q : State → Prop} {cc : ByteArray} {nL : Nat} {own : String} {ret : Option FieldType} {fF fL : Nat} {G : GT} {pc idx : Nat} {ls : Array Slot} {rest : List Value} {σ : Mem} {res : Int} {l0 : Int} (X : CX p R s m args meth c cc nL own ret fF fL G) (hP : PW G σ H) (hS : va_S (AA G) s.heap H locs) (hls : ls.size = nL) (hf : X11_part σ l0 = some res) (h1 : Cond.methodLink own idx yX11_part ∈ TB) (hR : 1 + 1 ≤ fF ∧ 8 + (1 + 11) + 60 ≤ fL) (hW : (rest.map fun v => v.category).sum ≤ 8) (hd : decode cc pc = .ok (.invokestatic idx, 3)) (kk : ∀ (H1 : Heap) (locs1 : List Loc), PW G σ H1 → va_S (AA G) s.heap H1 locs1 → W p l e R s m args below meth c H1 locs1 0 0 Q (F0 m (pc + 3) ls (.int (i32 res) :: rest))) : W p l e R s m args below meth c H locs 0 0 Q (F0 m pc ls (.int (i32 l0) :: rest)) := r_callS (n := 1) X hP hS hls (c_X11_part hf) h1 (tb t_1085 rfl) (tb t_87 rfl) (tb t_1086 rfl) (by decide +kernel) hR rfl rfl hW hd kk
theorem kn_X11_part {p : Program} {l : Launch} {e : Env} {R : Room} {s : State} {m : MethodId} {args : Array Value} {below : List Frame} {meth : Method} {c : Code} {H : Heap} {locs : List Loc} {Q : State → Prop} {cc : ByteArray} {nL : Nat} {own : String} {ret : Option FieldType} {fF fL : Nat} {G : GT} {pc idx : Nat} {ls : Array Slot} {rest : List Value} {σ : Mem} {res : Int} {l0 : Int} (X : CX p R s m args meth c cc nL own ret fF fL G) (hP : PW G σ H) (hS : va_S (AA G) s.heap H locs) (hls : ls.size = nL) (hf : X11_part σ l0 = some res) {host : String} (h1 : Cond.methodLinkNest own idx yX11_part host ∈ NWl) (hR : 1 + 1 ≤ fF ∧ 8 + (1 + 11) + 60 ≤ fL) (hW : (rest.map fun v => v.category).sum ≤ 8) (hd : decode cc pc = .ok (.invokestatic idx, 3)) (kk : ∀ (H1 : Heap) (locs1 : List Loc), PW G σ H1 → va_S (AA G) s.heap H1 locs1 → W p l e R s m args below meth c H1 locs1 0 0 Q (F0 m (pc + 3) ls (.int (i32 res) :: rest))) : W p l e R s m args below meth c H locs 0 0 Q (F0 m pc ls (.int (i32 l0) :: rest)) := r_callSN (n := 1) X hP hS hls (c_X11_part hf) h1 (tb t_1085 rfl) (tb t_87 rfl) (tb t_1086 rfl) (by decide +kernel) hR rfl rfl hW hd kk
/-! X11_bars -/
theorem dX11_bars_0 : decode cX11_bars 0 = .ok (.aload_n 0, 1) := by decide +kernel
theorem dX11_bars_1 : decode cX11_bars 1 = .ok (.getfield 9, 3) := by decide +kernel
theorem dX11_bars_4 : decode cX11_bars 4 = .ok (.iload_n 1, 1) := by decide +kernel
theorem dX11_bars_5 : decode cX11_bars 5 = .ok (.invokestatic 86, 3) := by decide +kernel
theorem dX11_bars_8 : decode cX11_bars 8 = .ok (.iconst 4, 1) := by decide +kernel
theorem dX11_bars_9 : decode cX11_bars 9 = .ok (.iadd, 1) := by decide +kernel
theorem dX11_bars_10 : decode cX11_bars 10 = .ok (.iaload, 1) := by decide +kernel
theorem dX11_bars_11 : decode cX11_bars 11 = .ok (.ireturn, 1) := by decide +kernel
def X11_bars (σ : Mem) (l1 : Int) : Option (Int) :=
  bd (X11_part σ l1) fun r1 =>
  ag 766 (r1 + 4) fun j2 =>
  some (σ 112 j2)
def S_X11_bars_0 (fn : Int → Option (Int)) (p : Program) (l : Launch) (e : Env) (R : Room) (s : State) (m : MethodId) (args : Array Value) (below : List Frame) (meth : Method) (c : Code) (G : GT) (σ : Mem) (res : Int) : Prop := ∀ (H : Heap) (locs : List Loc) (ls : Array Slot) (l1 : Int), PW G σ H → va_S (AA G) s.heap H locs → fn l1 = some res → lv_has ls 2 [(0, .ref (gh G + 111)), (1, .int (i32 l1))] → W p l e R s m args below meth c H locs 0 0 (MQ below (QM G (some (.int (i32 res))) σ) args s 0 0 (AA G)) (F0 m 0 ls [])
set_option maxHeartbeats 4000000 in
theorem a_X11_bars_0 {p : Program} {l : Launch} {e : Env} {R : Room} {s : State} {m : MethodId} {args : Array Value} {below : List Frame} {meth : Method} {c : Code} {G : GT} {σ : Mem} {res : Int} (X : CX p R s m args meth c cX11_bars 2 RX11 (some FieldType.int) 2 80 G) : S_X11_bars_0 (X11_bars σ) p l e R s m args below meth c G σ res := by
  intro H locs ls l1 hP hS hf hl
  unfold X11_bars at hf
  refine lv_aload_n X.1 X.2.1 dX11_bars_0 rfl (lv_at hl 0 rfl) ?_
  refine g_11_0 (r := 112) X hP ks_11 rfl (tb t_1087 rfl) dX11_bars_1 ?_
  refine lv_iload_n X.1 X.2.1 dX11_bars_4 rfl (lv_at hl 1 rfl) ?_
  obtain ⟨r1, hr1, hf⟩ := bd_inv hf
  refine k_X11_part X hP hS hl.1  hr1 (tb t_1084 rfl) (by decide) (Nat.le_of_ble_eq_true rfl) dX11_bars_5 (fun H locs hP hS => ?_)
  refine r_iconst X 4 dX11_bars_8 ?_
  refine r_iadd X dX11_bars_9 ?_
  obtain ⟨j2, hij2, hjj2, hlj2, hf⟩ := ag_inv hf
  refine r_iald X hP (ch_11_0 ks_11).1 (ch_11_0 ks_11).2 hij2 hjj2 dX11_bars_10 ?_
  cases so_inv hf
  exact r_iret X hP hS dX11_bars_11
set_option maxHeartbeats 4000000 in
theorem c_X11_bars {l : Launch} {G : GT} {σ : Mem} {res : Int} {l1 : Int} (hf : X11_bars σ l1 = some res) : CT l yX11_bars cX11_bars 2 (some FieldType.int) 2 80 G [.ref (gh G + 111), .int (i32 l1)] σ σ (some (.int (i32 res))) := by
  refine CT.mk (own := RX11) (by decide) rfl (Nat.le_of_ble_eq_true rfl) ?_
  intro p e s m below meth c ls X hP hS hl
  have hl : lv_has ls 2 [(0, .ref (gh G + 111)), (1, .int (i32 l1))] := hl
  exact a_X11_bars_0 X  s.heap [] ls l1 hP hS hf hl
theorem k_X11_bars {p : Program} {l : Launch} {e : Env} {R : Room} {s : State} {m : MethodId} {args : Array Value} {below : List Frame} {meth : Method} {c : Code} {H : Heap} {locs : List Loc} {Q : State → Prop} {cc : ByteArray} {nL : Nat} {own : String} {ret : Option FieldType} {fF fL : Nat} {G : GT} {pc idx : Nat} {ls : Array Slot} {rest : List Value} {σ : Mem} {res : Int} {l1 : Int} (X : CX p R s m args meth c cc nL own ret fF fL G) (hP : PW G σ H) (hS : va_S (AA G) s.heap H locs) (hls : ls.size = nL) (hf : X11_bars σ l1 = some res) (h1 : Cond.methodLink own idx yX11_bars ∈ TB) (hR : 2 + 1 ≤ fF ∧ 8 + (2 + 11) + 80 ≤ fL) (hW : (rest.map fun v => v.category).sum ≤ 8) (hd : decode cc pc = .ok (.invokevirtual idx, 3)) (kk : ∀ (H1 : Heap) (locs1 : List Loc), PW G σ H1 → va_S (AA G) s.heap H1 locs1 → W p l e R s m args below meth c H1 locs1 0 0 Q (F0 m (pc + 3) ls (.int (i32 res) :: rest))) : W p l e R s m args below meth c H locs 0 0 Q (F0 m pc ls (.int (i32 l1) :: .ref (gh G + 111) :: rest)) := r_callV (n := 1) X hP hS hls (c_X11_bars hf) h1 (tb t_1298 rfl) (tb t_43 rfl) (tb t_87 rfl) (tb t_1299 rfl) (by decide +kernel) hR (r_recv X hP (kd_lt ks_11 (by decide)) (cE_11 ks_11) rfl) rfl rfl hW hd kk
/-! X11_at -/
theorem dX11_at_0 : decode cX11_at 0 = .ok (.iload_n 0, 1) := by decide +kernel
theorem dX11_at_1 : decode cX11_at 1 = .ok (.invokestatic 86, 3) := by decide +kernel
theorem dX11_at_4 : decode cX11_at 4 = .ok (.iconst 5, 1) := by decide +kernel
theorem dX11_at_5 : decode cX11_at 5 = .ok (.iadd, 1) := by decide +kernel
theorem dX11_at_6 : decode cX11_at 6 = .ok (.iconst 4, 1) := by decide +kernel
theorem dX11_at_7 : decode cX11_at 7 = .ok (.iload_n 1, 1) := by decide +kernel
theorem dX11_at_8 : decode cX11_at 8 = .ok (.imul, 1) := by decide +kernel
theorem dX11_at_9 : decode cX11_at 9 = .ok (.iadd, 1) := by decide +kernel
theorem dX11_at_10 : decode cX11_at 10 = .ok (.iload_n 2, 1) := by decide +kernel
theorem dX11_at_11 : decode cX11_at 11 = .ok (.iadd, 1) := by decide +kernel
theorem dX11_at_12 : decode cX11_at 12 = .ok (.ireturn, 1) := by decide +kernel
def X11_at (σ : Mem) (l0 : Int) (l1 : Int) (l2 : Int) : Option (Int) :=
  bd (X11_part σ l0) fun r1 =>
  some (((r1 + 5) + (4 * l1)) + l2)
def S_X11_at_0 (fn : Int → Int → Int → Option (Int)) (p : Program) (l : Launch) (e : Env) (R : Room) (s : State) (m : MethodId) (args : Array Value) (below : List Frame) (meth : Method) (c : Code) (G : GT) (σ : Mem) (res : Int) : Prop := ∀ (H : Heap) (locs : List Loc) (ls : Array Slot) (l0 : Int) (l1 : Int) (l2 : Int), PW G σ H → va_S (AA G) s.heap H locs → fn l0 l1 l2 = some res → lv_has ls 3 [(0, .int (i32 l0)), (1, .int (i32 l1)), (2, .int (i32 l2))] → W p l e R s m args below meth c H locs 0 0 (MQ below (QM G (some (.int (i32 res))) σ) args s 0 0 (AA G)) (F0 m 0 ls [])
set_option maxHeartbeats 4000000 in
theorem a_X11_at_0 {p : Program} {l : Launch} {e : Env} {R : Room} {s : State} {m : MethodId} {args : Array Value} {below : List Frame} {meth : Method} {c : Code} {G : GT} {σ : Mem} {res : Int} (X : CX p R s m args meth c cX11_at 3 RX11 (some FieldType.int) 2 80 G) : S_X11_at_0 (X11_at σ) p l e R s m args below meth c G σ res := by
  intro H locs ls l0 l1 l2 hP hS hf hl
  unfold X11_at at hf
  refine lv_iload_n X.1 X.2.1 dX11_at_0 rfl (lv_at hl 0 rfl) ?_
  obtain ⟨r1, hr1, hf⟩ := bd_inv hf
  refine k_X11_part X hP hS hl.1  hr1 (tb t_1084 rfl) (by decide) (Nat.le_of_ble_eq_true rfl) dX11_at_1 (fun H locs hP hS => ?_)
  refine r_iconst X 5 dX11_at_4 ?_
  refine r_iadd X dX11_at_5 ?_
  refine r_iconst X 4 dX11_at_6 ?_
  refine lv_iload_n X.1 X.2.1 dX11_at_7 rfl (lv_at hl 1 rfl) ?_
  refine r_imul X dX11_at_8 ?_
  refine r_iadd X dX11_at_9 ?_
  refine lv_iload_n X.1 X.2.1 dX11_at_10 rfl (lv_at hl 2 rfl) ?_
  refine r_iadd X dX11_at_11 ?_
  cases so_inv hf
  exact r_iret X hP hS dX11_at_12
set_option maxHeartbeats 4000000 in
theorem c_X11_at {l : Launch} {G : GT} {σ : Mem} {res : Int} {l0 : Int} {l1 : Int} {l2 : Int} (hf : X11_at σ l0 l1 l2 = some res) : CT l yX11_at cX11_at 3 (some FieldType.int) 2 80 G [.int (i32 l0), .int (i32 l1), .int (i32 l2)] σ σ (some (.int (i32 res))) := by
  refine CT.mk (own := RX11) (by decide) rfl (Nat.le_of_ble_eq_true rfl) ?_
  intro p e s m below meth c ls X hP hS hl
  have hl : lv_has ls 3 [(0, .int (i32 l0)), (1, .int (i32 l1)), (2, .int (i32 l2))] := hl
  exact a_X11_at_0 X  s.heap [] ls l0 l1 l2 hP hS hf hl
theorem k_X11_at {p : Program} {l : Launch} {e : Env} {R : Room} {s : State} {m : MethodId} {args : Array Value} {below : List Frame} {meth : Method} {c : Code} {H : Heap} {locs : List Loc} {Q : State → Prop} {cc : ByteArray} {nL : Nat} {own : String} {ret : Option FieldType} {fF fL : Nat} {G : GT} {pc idx : Nat} {ls : Array Slot} {rest : List Value} {σ : Mem} {res : Int} {l0 : Int} {l1 : Int} {l2 : Int} (X : CX p R s m args meth c cc nL own ret fF fL G) (hP : PW G σ H) (hS : va_S (AA G) s.heap H locs) (hls : ls.size = nL) (hf : X11_at σ l0 l1 l2 = some res) (h1 : Cond.methodLink own idx yX11_at ∈ TB) (hR : 2 + 1 ≤ fF ∧ 8 + (3 + 11) + 80 ≤ fL) (hW : (rest.map fun v => v.category).sum ≤ 8) (hd : decode cc pc = .ok (.invokestatic idx, 3)) (kk : ∀ (H1 : Heap) (locs1 : List Loc), PW G σ H1 → va_S (AA G) s.heap H1 locs1 → W p l e R s m args below meth c H1 locs1 0 0 Q (F0 m (pc + 3) ls (.int (i32 res) :: rest))) : W p l e R s m args below meth c H locs 0 0 Q (F0 m pc ls (.int (i32 l2) :: .int (i32 l1) :: .int (i32 l0) :: rest)) := r_callS (n := 3) X hP hS hls (c_X11_at hf) h1 (tb t_1301 rfl) (tb t_87 rfl) (tb t_1302 rfl) (by decide +kernel) hR rfl rfl hW hd kk
theorem kn_X11_at {p : Program} {l : Launch} {e : Env} {R : Room} {s : State} {m : MethodId} {args : Array Value} {below : List Frame} {meth : Method} {c : Code} {H : Heap} {locs : List Loc} {Q : State → Prop} {cc : ByteArray} {nL : Nat} {own : String} {ret : Option FieldType} {fF fL : Nat} {G : GT} {pc idx : Nat} {ls : Array Slot} {rest : List Value} {σ : Mem} {res : Int} {l0 : Int} {l1 : Int} {l2 : Int} (X : CX p R s m args meth c cc nL own ret fF fL G) (hP : PW G σ H) (hS : va_S (AA G) s.heap H locs) (hls : ls.size = nL) (hf : X11_at σ l0 l1 l2 = some res) {host : String} (h1 : Cond.methodLinkNest own idx yX11_at host ∈ NWl) (hR : 2 + 1 ≤ fF ∧ 8 + (3 + 11) + 80 ≤ fL) (hW : (rest.map fun v => v.category).sum ≤ 8) (hd : decode cc pc = .ok (.invokestatic idx, 3)) (kk : ∀ (H1 : Heap) (locs1 : List Loc), PW G σ H1 → va_S (AA G) s.heap H1 locs1 → W p l e R s m args below meth c H1 locs1 0 0 Q (F0 m (pc + 3) ls (.int (i32 res) :: rest))) : W p l e R s m args below meth c H locs 0 0 Q (F0 m pc ls (.int (i32 l2) :: .int (i32 l1) :: .int (i32 l0) :: rest)) := r_callSN (n := 3) X hP hS hls (c_X11_at hf) h1 (tb t_1301 rfl) (tb t_87 rfl) (tb t_1302 rfl) (by decide +kernel) hR rfl rfl hW hd kk
/-! X11_room -/
theorem dX11_room_0 : decode cX11_room 0 = .ok (.aload_n 0, 1) := by decide +kernel
theorem dX11_room_1 : decode cX11_room 1 = .ok (.getfield 9, 3) := by decide +kernel
theorem dX11_room_4 : decode cX11_room 4 = .ok (.iload_n 1, 1) := by decide +kernel
theorem dX11_room_5 : decode cX11_room 5 = .ok (.iload_n 2, 1) := by decide +kernel
theorem dX11_room_6 : decode cX11_room 6 = .ok (.iconst 0, 1) := by decide +kernel
theorem dX11_room_7 : decode cX11_room 7 = .ok (.invokestatic 104, 3) := by decide +kernel
theorem dX11_room_10 : decode cX11_room 10 = .ok (.iaload, 1) := by decide +kernel
theorem dX11_room_11 : decode cX11_room 11 = .ok (.bipush 10, 2) := by decide +kernel
theorem dX11_room_13 : decode cX11_room 13 = .ok (.iconst 2, 1) := by decide +kernel
theorem dX11_room_14 : decode cX11_room 14 = .ok (.iload_n 3, 1) := by decide +kernel
theorem dX11_room_15 : decode cX11_room 15 = .ok (.imul, 1) := by decide +kernel
theorem dX11_room_16 : decode cX11_room 16 = .ok (.isub, 1) := by decide +kernel
theorem dX11_room_17 : decode cX11_room 17 = .ok (.imul, 1) := by decide +kernel
theorem dX11_room_18 : decode cX11_room 18 = .ok (.bipush 9, 2) := by decide +kernel
theorem dX11_room_20 : decode cX11_room 20 = .ok (.iadd, 1) := by decide +kernel
theorem dX11_room_21 : decode cX11_room 21 = .ok (.bipush 10, 2) := by decide +kernel
theorem dX11_room_23 : decode cX11_room 23 = .ok (.idiv, 1) := by decide +kernel
theorem dX11_room_24 : decode cX11_room 24 = .ok (.ireturn, 1) := by decide +kernel
def X11_room (σ : Mem) (l1 : Int) (l2 : Int) (l3 : Int) : Option (Int) :=
  bd (X11_at σ l1 l2 0) fun r1 =>
  ag 766 r1 fun j2 =>
  dg 10 <|
  some (idv (((σ 112 j2) * (10 - (2 * l3))) + 9) 10)
def S_X11_room_0 (fn : Int → Int → Int → Option (Int)) (p : Program) (l : Launch) (e : Env) (R : Room) (s : State) (m : MethodId) (args : Array Value) (below : List Frame) (meth : Method) (c : Code) (G : GT) (σ : Mem) (res : Int) : Prop := ∀ (H : Heap) (locs : List Loc) (ls : Array Slot) (l1 : Int) (l2 : Int) (l3 : Int), PW G σ H → va_S (AA G) s.heap H locs → fn l1 l2 l3 = some res → lv_has ls 5 [(0, .ref (gh G + 111)), (1, .int (i32 l1)), (2, .int (i32 l2)), (3, .int (i32 l3))] → W p l e R s m args below meth c H locs 0 0 (MQ below (QM G (some (.int (i32 res))) σ) args s 0 0 (AA G)) (F0 m 0 ls [])
set_option maxHeartbeats 4000000 in
theorem a_X11_room_0 {p : Program} {l : Launch} {e : Env} {R : Room} {s : State} {m : MethodId} {args : Array Value} {below : List Frame} {meth : Method} {c : Code} {G : GT} {σ : Mem} {res : Int} (X : CX p R s m args meth c cX11_room 5 RX11 (some FieldType.int) 3 102 G) : S_X11_room_0 (X11_room σ) p l e R s m args below meth c G σ res := by
  intro H locs ls l1 l2 l3 hP hS hf hl
  unfold X11_room at hf
  refine lv_aload_n X.1 X.2.1 dX11_room_0 rfl (lv_at hl 0 rfl) ?_
  refine g_11_0 (r := 112) X hP ks_11 rfl (tb t_1087 rfl) dX11_room_1 ?_
  refine lv_iload_n X.1 X.2.1 dX11_room_4 rfl (lv_at hl 1 rfl) ?_
  refine lv_iload_n X.1 X.2.1 dX11_room_5 rfl (lv_at hl 2 rfl) ?_
  refine r_iconst X 0 dX11_room_6 ?_
  obtain ⟨r1, hr1, hf⟩ := bd_inv hf
  refine k_X11_at X hP hS hl.1  hr1 (tb t_1300 rfl) (by decide) (Nat.le_of_ble_eq_true rfl) dX11_room_7 (fun H locs hP hS => ?_)
  obtain ⟨j2, hij2, hjj2, hlj2, hf⟩ := ag_inv hf
  refine r_iald X hP (ch_11_0 ks_11).1 (ch_11_0 ks_11).2 hij2 hjj2 dX11_room_10 ?_
  refine r_bipush X 10 (by decide) dX11_room_11 ?_
  refine r_iconst X 2 dX11_room_13 ?_
  refine lv_iload_n X.1 X.2.1 dX11_room_14 rfl (lv_at hl 3 rfl) ?_
  refine r_imul X dX11_room_15 ?_
  refine r_isub X dX11_room_16 ?_
  refine r_imul X dX11_room_17 ?_
  refine r_bipush X 9 (by decide) dX11_room_18 ?_
  refine r_iadd X dX11_room_20 ?_
  refine r_bipush X 10 (by decide) dX11_room_21 ?_
  obtain ⟨hz3, hf⟩ := dg_inv hf
  refine r_idiv X hz3 dX11_room_23 ?_
  cases so_inv hf
  exact r_iret X hP hS dX11_room_24
set_option maxHeartbeats 4000000 in
theorem c_X11_room {l : Launch} {G : GT} {σ : Mem} {res : Int} {l1 : Int} {l2 : Int} {l3 : Int} {l4 : Int} (hf : X11_room σ l1 l2 l3 = some res) : CT l yX11_room cX11_room 5 (some FieldType.int) 3 102 G [.ref (gh G + 111), .int (i32 l1), .int (i32 l2), .int (i32 l3), .int (i32 l4)] σ σ (some (.int (i32 res))) := by
  refine CT.mk (own := RX11) (by decide) rfl (Nat.le_of_ble_eq_true rfl) ?_
  intro p e s m below meth c ls X hP hS hl
  have hl : lv_has ls 5 [(0, .ref (gh G + 111)), (1, .int (i32 l1)), (2, .int (i32 l2)), (3, .int (i32 l3)), (4, .int (i32 l4))] := hl
  exact a_X11_room_0 X  s.heap [] ls l1 l2 l3 hP hS hf (lv_sub hl [0, 1, 2, 3] rfl)
theorem k_X11_room {p : Program} {l : Launch} {e : Env} {R : Room} {s : State} {m : MethodId} {args : Array Value} {below : List Frame} {meth : Method} {c : Code} {H : Heap} {locs : List Loc} {Q : State → Prop} {cc : ByteArray} {nL : Nat} {own : String} {ret : Option FieldType} {fF fL : Nat} {G : GT} {pc idx : Nat} {ls : Array Slot} {rest : List Value} {σ : Mem} {res : Int} {l1 : Int} {l2 : Int} {l3 : Int} {l4 : Int} (X : CX p R s m args meth c cc nL own ret fF fL G) (hP : PW G σ H) (hS : va_S (AA G) s.heap H locs) (hls : ls.size = nL) (hf : X11_room σ l1 l2 l3 = some res) (h1 : Cond.methodLink own idx yX11_room ∈ TB) (hR : 3 + 1 ≤ fF ∧ 8 + (5 + 11) + 102 ≤ fL) (hW : (rest.map fun v => v.category).sum ≤ 8) (hd : decode cc pc = .ok (.invokevirtual idx, 3)) (kk : ∀ (H1 : Heap) (locs1 : List Loc), PW G σ H1 → va_S (AA G) s.heap H1 locs1 → W p l e R s m args below meth c H1 locs1 0 0 Q (F0 m (pc + 3) ls (.int (i32 res) :: rest))) : W p l e R s m args below meth c H locs 0 0 Q (F0 m pc ls (.int (i32 l4) :: .int (i32 l3) :: .int (i32 l2) :: .int (i32 l1) :: .ref (gh G + 111) :: rest)) := r_callV (n := 4) X hP hS hls (c_X11_room hf) h1 (tb t_1347 rfl) (tb t_49 rfl) (tb t_87 rfl) (tb t_1348 rfl) (by decide +kernel) hR (r_recv X hP (kd_lt ks_11 (by decide)) (cE_11 ks_11) rfl) rfl rfl hW hd kk
/-! X11_cell -/
theorem dX11_cell_0 : decode cX11_cell 0 = .ok (.bipush 40, 2) := by decide +kernel
theorem dX11_cell_2 : decode cX11_cell 2 = .ok (.bipush 40, 2) := by decide +kernel
theorem dX11_cell_4 : decode cX11_cell 4 = .ok (.iload_n 0, 1) := by decide +kernel
theorem dX11_cell_5 : decode cX11_cell 5 = .ok (.imul, 1) := by decide +kernel
theorem dX11_cell_6 : decode cX11_cell 6 = .ok (.iload_n 1, 1) := by decide +kernel
theorem dX11_cell_7 : decode cX11_cell 7 = .ok (.iadd, 1) := by decide +kernel
theorem dX11_cell_8 : decode cX11_cell 8 = .ok (.imul, 1) := by decide +kernel
theorem dX11_cell_9 : decode cX11_cell 9 = .ok (.iload_n 2, 1) := by decide +kernel
theorem dX11_cell_10 : decode cX11_cell 10 = .ok (.iadd, 1) := by decide +kernel
theorem dX11_cell_11 : decode cX11_cell 11 = .ok (.ireturn, 1) := by decide +kernel
def X11_cell (σ : Mem) (l0 : Int) (l1 : Int) (l2 : Int) : Option (Int) :=
  some ((40 * ((40 * l0) + l1)) + l2)
def S_X11_cell_0 (fn : Int → Int → Int → Option (Int)) (p : Program) (l : Launch) (e : Env) (R : Room) (s : State) (m : MethodId) (args : Array Value) (below : List Frame) (meth : Method) (c : Code) (G : GT) (σ : Mem) (res : Int) : Prop := ∀ (H : Heap) (locs : List Loc) (ls : Array Slot) (l0 : Int) (l1 : Int) (l2 : Int), PW G σ H → va_S (AA G) s.heap H locs → fn l0 l1 l2 = some res → lv_has ls 3 [(0, .int (i32 l0)), (1, .int (i32 l1)), (2, .int (i32 l2))] → W p l e R s m args below meth c H locs 0 0 (MQ below (QM G (some (.int (i32 res))) σ) args s 0 0 (AA G)) (F0 m 0 ls [])
set_option maxHeartbeats 4000000 in
theorem a_X11_cell_0 {p : Program} {l : Launch} {e : Env} {R : Room} {s : State} {m : MethodId} {args : Array Value} {below : List Frame} {meth : Method} {c : Code} {G : GT} {σ : Mem} {res : Int} (X : CX p R s m args meth c cX11_cell 3 RX11 (some FieldType.int) 1 60 G) : S_X11_cell_0 (X11_cell σ) p l e R s m args below meth c G σ res := by
  intro H locs ls l0 l1 l2 hP hS hf hl
  unfold X11_cell at hf
  refine r_bipush X 40 (by decide) dX11_cell_0 ?_
  refine r_bipush X 40 (by decide) dX11_cell_2 ?_
  refine lv_iload_n X.1 X.2.1 dX11_cell_4 rfl (lv_at hl 0 rfl) ?_
  refine r_imul X dX11_cell_5 ?_
  refine lv_iload_n X.1 X.2.1 dX11_cell_6 rfl (lv_at hl 1 rfl) ?_
  refine r_iadd X dX11_cell_7 ?_
  refine r_imul X dX11_cell_8 ?_
  refine lv_iload_n X.1 X.2.1 dX11_cell_9 rfl (lv_at hl 2 rfl) ?_
  refine r_iadd X dX11_cell_10 ?_
  cases so_inv hf
  exact r_iret X hP hS dX11_cell_11
set_option maxHeartbeats 4000000 in
theorem c_X11_cell {l : Launch} {G : GT} {σ : Mem} {res : Int} {l0 : Int} {l1 : Int} {l2 : Int} (hf : X11_cell σ l0 l1 l2 = some res) : CT l yX11_cell cX11_cell 3 (some FieldType.int) 1 60 G [.int (i32 l0), .int (i32 l1), .int (i32 l2)] σ σ (some (.int (i32 res))) := by
  refine CT.mk (own := RX11) (by decide) rfl (Nat.le_of_ble_eq_true rfl) ?_
  intro p e s m below meth c ls X hP hS hl
  have hl : lv_has ls 3 [(0, .int (i32 l0)), (1, .int (i32 l1)), (2, .int (i32 l2))] := hl
  exact a_X11_cell_0 X  s.heap [] ls l0 l1 l2 hP hS hf hl
theorem k_X11_cell {p : Program} {l : Launch} {e : Env} {R : Room} {s : State} {m : MethodId} {args : Array Value} {below : List Frame} {meth : Method} {c : Code} {H : Heap} {locs : List Loc} {Q : State → Prop} {cc : ByteArray} {nL : Nat} {own : String} {ret : Option FieldType} {fF fL : Nat} {G : GT} {pc idx : Nat} {ls : Array Slot} {rest : List Value} {σ : Mem} {res : Int} {l0 : Int} {l1 : Int} {l2 : Int} (X : CX p R s m args meth c cc nL own ret fF fL G) (hP : PW G σ H) (hS : va_S (AA G) s.heap H locs) (hls : ls.size = nL) (hf : X11_cell σ l0 l1 l2 = some res) (h1 : Cond.methodLink own idx yX11_cell ∈ TB) (hR : 1 + 1 ≤ fF ∧ 8 + (3 + 11) + 60 ≤ fL) (hW : (rest.map fun v => v.category).sum ≤ 8) (hd : decode cc pc = .ok (.invokestatic idx, 3)) (kk : ∀ (H1 : Heap) (locs1 : List Loc), PW G σ H1 → va_S (AA G) s.heap H1 locs1 → W p l e R s m args below meth c H1 locs1 0 0 Q (F0 m (pc + 3) ls (.int (i32 res) :: rest))) : W p l e R s m args below meth c H locs 0 0 Q (F0 m pc ls (.int (i32 l2) :: .int (i32 l1) :: .int (i32 l0) :: rest)) := r_callS (n := 3) X hP hS hls (c_X11_cell hf) h1 (tb t_1382 rfl) (tb t_87 rfl) (tb t_1383 rfl) (by decide +kernel) hR rfl rfl hW hd kk
theorem kn_X11_cell {p : Program} {l : Launch} {e : Env} {R : Room} {s : State} {m : MethodId} {args : Array Value} {below : List Frame} {meth : Method} {c : Code} {H : Heap} {locs : List Loc} {Q : State → Prop} {cc : ByteArray} {nL : Nat} {own : String} {ret : Option FieldType} {fF fL : Nat} {G : GT} {pc idx : Nat} {ls : Array Slot} {rest : List Value} {σ : Mem} {res : Int} {l0 : Int} {l1 : Int} {l2 : Int} (X : CX p R s m args meth c cc nL own ret fF fL G) (hP : PW G σ H) (hS : va_S (AA G) s.heap H locs) (hls : ls.size = nL) (hf : X11_cell σ l0 l1 l2 = some res) {host : String} (h1 : Cond.methodLinkNest own idx yX11_cell host ∈ NWl) (hR : 1 + 1 ≤ fF ∧ 8 + (3 + 11) + 60 ≤ fL) (hW : (rest.map fun v => v.category).sum ≤ 8) (hd : decode cc pc = .ok (.invokestatic idx, 3)) (kk : ∀ (H1 : Heap) (locs1 : List Loc), PW G σ H1 → va_S (AA G) s.heap H1 locs1 → W p l e R s m args below meth c H1 locs1 0 0 Q (F0 m (pc + 3) ls (.int (i32 res) :: rest))) : W p l e R s m args below meth c H locs 0 0 Q (F0 m pc ls (.int (i32 l2) :: .int (i32 l1) :: .int (i32 l0) :: rest)) := r_callSN (n := 3) X hP hS hls (c_X11_cell hf) h1 (tb t_1382 rfl) (tb t_87 rfl) (tb t_1383 rfl) (by decide +kernel) hR rfl rfl hW hd kk
/-! X11_hasMark -/
theorem dX11_hasMark_0 : decode cX11_hasMark 0 = .ok (.aload_n 0, 1) := by decide +kernel
theorem dX11_hasMark_1 : decode cX11_hasMark 1 = .ok (.getfield 9, 3) := by decide +kernel
theorem dX11_hasMark_4 : decode cX11_hasMark 4 = .ok (.iload_n 1, 1) := by decide +kernel
theorem dX11_hasMark_5 : decode cX11_hasMark 5 = .ok (.iload_n 2, 1) := by decide +kernel
theorem dX11_hasMark_6 : decode cX11_hasMark 6 = .ok (.iconst 3, 1) := by decide +kernel
theorem dX11_hasMark_7 : decode cX11_hasMark 7 = .ok (.invokestatic 104, 3) := by decide +kernel
theorem dX11_hasMark_10 : decode cX11_hasMark 10 = .ok (.iaload, 1) := by decide +kernel
theorem dX11_hasMark_11 : decode cX11_hasMark 11 = .ok (.iload_n 3, 1) := by decide +kernel
theorem dX11_hasMark_12 : decode cX11_hasMark 12 = .ok (.iand, 1) := by decide +kernel
theorem dX11_hasMark_13 : decode cX11_hasMark 13 = .ok (.ifCond .eq 7, 3) := by decide +kernel
theorem dX11_hasMark_16 : decode cX11_hasMark 16 = .ok (.iconst 1, 1) := by decide +kernel
theorem dX11_hasMark_17 : decode cX11_hasMark 17 = .ok (.goto 4, 3) := by decide +kernel
theorem dX11_hasMark_20 : decode cX11_hasMark 20 = .ok (.iconst 0, 1) := by decide +kernel
theorem dX11_hasMark_21 : decode cX11_hasMark 21 = .ok (.ireturn, 1) := by decide +kernel
def X11_hasMark (σ : Mem) (l1 : Int) (l2 : Int) (l3 : Int) : Option (Int) :=
  bd (X11_at σ l1 l2 3) fun r1 =>
  ag 766 r1 fun j2 =>
  if w32 (ian (σ 112 j2) l3) = 0 then
    some 0
  else
  some 1
def S_X11_hasMark_0 (fn : Int → Int → Int → Option (Int)) (p : Program) (l : Launch) (e : Env) (R : Room) (s : State) (m : MethodId) (args : Array Value) (below : List Frame) (meth : Method) (c : Code) (G : GT) (σ : Mem) (res : Int) : Prop := ∀ (H : Heap) (locs : List Loc) (ls : Array Slot) (l1 : Int) (l2 : Int) (l3 : Int), PW G σ H → va_S (AA G) s.heap H locs → fn l1 l2 l3 = some res → lv_has ls 4 [(0, .ref (gh G + 111)), (1, .int (i32 l1)), (2, .int (i32 l2)), (3, .int (i32 l3))] → W p l e R s m args below meth c H locs 0 0 (MQ below (QM G (some (.int (i32 res))) σ) args s 0 0 (AA G)) (F0 m 0 ls [])
set_option maxHeartbeats 4000000 in
theorem a_X11_hasMark_0 {p : Program} {l : Launch} {e : Env} {R : Room} {s : State} {m : MethodId} {args : Array Value} {below : List Frame} {meth : Method} {c : Code} {G : GT} {σ : Mem} {res : Int} (X : CX p R s m args meth c cX11_hasMark 4 RX11 (some FieldType.boolean) 3 102 G) : S_X11_hasMark_0 (X11_hasMark σ) p l e R s m args below meth c G σ res := by
  intro H locs ls l1 l2 l3 hP hS hf hl
  unfold X11_hasMark at hf
  refine lv_aload_n X.1 X.2.1 dX11_hasMark_0 rfl (lv_at hl 0 rfl) ?_
  refine g_11_0 (r := 112) X hP ks_11 rfl (tb t_1087 rfl) dX11_hasMark_1 ?_
  refine lv_iload_n X.1 X.2.1 dX11_hasMark_4 rfl (lv_at hl 1 rfl) ?_
  refine lv_iload_n X.1 X.2.1 dX11_hasMark_5 rfl (lv_at hl 2 rfl) ?_
  refine r_iconst X 3 dX11_hasMark_6 ?_
  obtain ⟨r1, hr1, hf⟩ := bd_inv hf
  refine k_X11_at X hP hS hl.1  hr1 (tb t_1300 rfl) (by decide) (Nat.le_of_ble_eq_true rfl) dX11_hasMark_7 (fun H locs hP hS => ?_)
  obtain ⟨j2, hij2, hjj2, hlj2, hf⟩ := ag_inv hf
  refine r_iald X hP (ch_11_0 ks_11).1 (ch_11_0 ks_11).2 hij2 hjj2 dX11_hasMark_10 ?_
  refine lv_iload_n X.1 X.2.1 dX11_hasMark_11 rfl (lv_at hl 3 rfl) ?_
  refine r_iand X dX11_hasMark_12 ?_
  refine r_if_eq (tgt := 20) X dX11_hasMark_13 (by decide) (fun q => ?_) (fun q => ?_)
  · replace hf := it_inv q hf
    refine r_iconst X 0 dX11_hasMark_20 ?_
    cases so_inv hf
    exact r_zret X hP hS (Or.inl rfl) dX11_hasMark_21
  · replace hf := ie_inv q hf
    refine r_iconst X 1 dX11_hasMark_16 ?_
    refine lv_goto (tgt := 21) X.1 X.2.1 dX11_hasMark_17 (by decide) ?_
    cases so_inv hf
    exact r_zret X hP hS (Or.inr rfl) dX11_hasMark_21
set_option maxHeartbeats 4000000 in
theorem c_X11_hasMark {l : Launch} {G : GT} {σ : Mem} {res : Int} {l1 : Int} {l2 : Int} {l3 : Int} (hf : X11_hasMark σ l1 l2 l3 = some res) : CT l yX11_hasMark cX11_hasMark 4 (some FieldType.boolean) 3 102 G [.ref (gh G + 111), .int (i32 l1), .int (i32 l2), .int (i32 l3)] σ σ (some (.int (i32 res))) := by
  refine CT.mk (own := RX11) (by decide) rfl (Nat.le_of_ble_eq_true rfl) ?_
  intro p e s m below meth c ls X hP hS hl
  have hl : lv_has ls 4 [(0, .ref (gh G + 111)), (1, .int (i32 l1)), (2, .int (i32 l2)), (3, .int (i32 l3))] := hl
  exact a_X11_hasMark_0 X  s.heap [] ls l1 l2 l3 hP hS hf hl
theorem k_X11_hasMark {p : Program} {l : Launch} {e : Env} {R : Room} {s : State} {m : MethodId} {args : Array Value} {below : List Frame} {meth : Method} {c : Code} {H : Heap} {locs : List Loc} {Q : State → Prop} {cc : ByteArray} {nL : Nat} {own : String} {ret : Option FieldType} {fF fL : Nat} {G : GT} {pc idx : Nat} {ls : Array Slot} {rest : List Value} {σ : Mem} {res : Int} {l1 : Int} {l2 : Int} {l3 : Int} (X : CX p R s m args meth c cc nL own ret fF fL G) (hP : PW G σ H) (hS : va_S (AA G) s.heap H locs) (hls : ls.size = nL) (hf : X11_hasMark σ l1 l2 l3 = some res) (h1 : Cond.methodLink own idx yX11_hasMark ∈ TB) (hR : 3 + 1 ≤ fF ∧ 8 + (4 + 11) + 102 ≤ fL) (hW : (rest.map fun v => v.category).sum ≤ 8) (hd : decode cc pc = .ok (.invokevirtual idx, 3)) (kk : ∀ (H1 : Heap) (locs1 : List Loc), PW G σ H1 → va_S (AA G) s.heap H1 locs1 → W p l e R s m args below meth c H1 locs1 0 0 Q (F0 m (pc + 3) ls (.int (i32 res) :: rest))) : W p l e R s m args below meth c H locs 0 0 Q (F0 m pc ls (.int (i32 l3) :: .int (i32 l2) :: .int (i32 l1) :: .ref (gh G + 111) :: rest)) := r_callV (n := 3) X hP hS hls (c_X11_hasMark hf) h1 (tb t_1367 rfl) (tb t_53 rfl) (tb t_87 rfl) (tb t_1368 rfl) (by decide +kernel) hR (r_recv X hP (kd_lt ks_11 (by decide)) (cE_11 ks_11) rfl) rfl rfl hW hd kk
/-! X11_mayEnd -/
theorem dX11_mayEnd_0 : decode cX11_mayEnd 0 = .ok (.iload_n 2, 1) := by decide +kernel
theorem dX11_mayEnd_1 : decode cX11_mayEnd 1 = .ok (.aload_n 0, 1) := by decide +kernel
theorem dX11_mayEnd_2 : decode cX11_mayEnd 2 = .ok (.iload_n 1, 1) := by decide +kernel
theorem dX11_mayEnd_3 : decode cX11_mayEnd 3 = .ok (.invokevirtual 101, 3) := by decide +kernel
theorem dX11_mayEnd_6 : decode cX11_mayEnd 6 = .ok (.iconst 1, 1) := by decide +kernel
theorem dX11_mayEnd_7 : decode cX11_mayEnd 7 = .ok (.isub, 1) := by decide +kernel
theorem dX11_mayEnd_8 : decode cX11_mayEnd 8 = .ok (.if_icmp .eq 13, 3) := by decide +kernel
theorem dX11_mayEnd_11 : decode cX11_mayEnd 11 = .ok (.aload_n 0, 1) := by decide +kernel
theorem dX11_mayEnd_12 : decode cX11_mayEnd 12 = .ok (.iload_n 1, 1) := by decide +kernel
theorem dX11_mayEnd_13 : decode cX11_mayEnd 13 = .ok (.iload_n 2, 1) := by decide +kernel
theorem dX11_mayEnd_14 : decode cX11_mayEnd 14 = .ok (.iconst 1, 1) := by decide +kernel
theorem dX11_mayEnd_15 : decode cX11_mayEnd 15 = .ok (.invokevirtual 237, 3) := by decide +kernel
theorem dX11_mayEnd_18 : decode cX11_mayEnd 18 = .ok (.ifCond .ne 7, 3) := by decide +kernel
theorem dX11_mayEnd_21 : decode cX11_mayEnd 21 = .ok (.iconst 1, 1) := by decide +kernel
theorem dX11_mayEnd_22 : decode cX11_mayEnd 22 = .ok (.goto 4, 3) := by decide +kernel
theorem dX11_mayEnd_25 : decode cX11_mayEnd 25 = .ok (.iconst 0, 1) := by decide +kernel
theorem dX11_mayEnd_26 : decode cX11_mayEnd 26 = .ok (.ireturn, 1) := by decide +kernel
def X11_mayEnd (σ : Mem) (l1 : Int) (l2 : Int) : Option (Int) :=
  bd (X11_bars σ l1) fun r1 =>
  if w32 l2 = w32 (r1 - 1) then
    some 1
  else
  bd (X11_hasMark σ l1 l2 1) fun r2 =>
  if w32 r2 ≠ 0 then
    some 0
  else
  some 1
def S_X11_mayEnd_0 (fn : Int → Int → Option (Int)) (p : Program) (l : Launch) (e : Env) (R : Room) (s : State) (m : MethodId) (args : Array Value) (below : List Frame) (meth : Method) (c : Code) (G : GT) (σ : Mem) (res : Int) : Prop := ∀ (H : Heap) (locs : List Loc) (ls : Array Slot) (l1 : Int) (l2 : Int), PW G σ H → va_S (AA G) s.heap H locs → fn l1 l2 = some res → lv_has ls 3 [(0, .ref (gh G + 111)), (1, .int (i32 l1)), (2, .int (i32 l2))] → W p l e R s m args below meth c H locs 0 0 (MQ below (QM G (some (.int (i32 res))) σ) args s 0 0 (AA G)) (F0 m 0 ls [])
set_option maxHeartbeats 4000000 in
theorem a_X11_mayEnd_0 {p : Program} {l : Launch} {e : Env} {R : Room} {s : State} {m : MethodId} {args : Array Value} {below : List Frame} {meth : Method} {c : Code} {G : GT} {σ : Mem} {res : Int} (X : CX p R s m args meth c cX11_mayEnd 3 RX11 (some FieldType.boolean) 4 125 G) : S_X11_mayEnd_0 (X11_mayEnd σ) p l e R s m args below meth c G σ res := by
  intro H locs ls l1 l2 hP hS hf hl
  unfold X11_mayEnd at hf
  refine lv_iload_n X.1 X.2.1 dX11_mayEnd_0 rfl (lv_at hl 2 rfl) ?_
  refine lv_aload_n X.1 X.2.1 dX11_mayEnd_1 rfl (lv_at hl 0 rfl) ?_
  refine lv_iload_n X.1 X.2.1 dX11_mayEnd_2 rfl (lv_at hl 1 rfl) ?_
  obtain ⟨r1, hr1, hf⟩ := bd_inv hf
  refine k_X11_bars X hP hS hl.1  hr1 (tb t_1296 rfl) (by decide) (Nat.le_of_ble_eq_true rfl) dX11_mayEnd_3 (fun H locs hP hS => ?_)
  refine r_iconst X 1 dX11_mayEnd_6 ?_
  refine r_isub X dX11_mayEnd_7 ?_
  refine r_icmp_eq (tgt := 21) X dX11_mayEnd_8 (by decide) (fun q => ?_) (fun q => ?_)
  · replace hf := it_inv q hf
    refine r_iconst X 1 dX11_mayEnd_21 ?_
    refine lv_goto (tgt := 26) X.1 X.2.1 dX11_mayEnd_22 (by decide) ?_
    cases so_inv hf
    exact r_zret X hP hS (Or.inr rfl) dX11_mayEnd_26
  · replace hf := ie_inv q hf
    refine lv_aload_n X.1 X.2.1 dX11_mayEnd_11 rfl (lv_at hl 0 rfl) ?_
    refine lv_iload_n X.1 X.2.1 dX11_mayEnd_12 rfl (lv_at hl 1 rfl) ?_
    refine lv_iload_n X.1 X.2.1 dX11_mayEnd_13 rfl (lv_at hl 2 rfl) ?_
    refine r_iconst X 1 dX11_mayEnd_14 ?_
    obtain ⟨r2, hr2, hf⟩ := bd_inv hf
    refine k_X11_hasMark X hP hS hl.1  hr2 (tb t_1365 rfl) (by decide) (Nat.le_of_ble_eq_true rfl) dX11_mayEnd_15 (fun H locs hP hS => ?_)
    refine r_if_ne (tgt := 25) X dX11_mayEnd_18 (by decide) (fun q => ?_) (fun q => ?_)
    · replace hf := it_inv q hf
      refine r_iconst X 0 dX11_mayEnd_25 ?_
      cases so_inv hf
      exact r_zret X hP hS (Or.inl rfl) dX11_mayEnd_26
    · replace hf := ie_inv q hf
      refine r_iconst X 1 dX11_mayEnd_21 ?_
      refine lv_goto (tgt := 26) X.1 X.2.1 dX11_mayEnd_22 (by decide) ?_
      cases so_inv hf
      exact r_zret X hP hS (Or.inr rfl) dX11_mayEnd_26
set_option maxHeartbeats 4000000 in
theorem c_X11_mayEnd {l : Launch} {G : GT} {σ : Mem} {res : Int} {l1 : Int} {l2 : Int} (hf : X11_mayEnd σ l1 l2 = some res) : CT l yX11_mayEnd cX11_mayEnd 3 (some FieldType.boolean) 4 125 G [.ref (gh G + 111), .int (i32 l1), .int (i32 l2)] σ σ (some (.int (i32 res))) := by
  refine CT.mk (own := RX11) (by decide) rfl (Nat.le_of_ble_eq_true rfl) ?_
  intro p e s m below meth c ls X hP hS hl
  have hl : lv_has ls 3 [(0, .ref (gh G + 111)), (1, .int (i32 l1)), (2, .int (i32 l2))] := hl
  exact a_X11_mayEnd_0 X  s.heap [] ls l1 l2 hP hS hf hl
theorem k_X11_mayEnd {p : Program} {l : Launch} {e : Env} {R : Room} {s : State} {m : MethodId} {args : Array Value} {below : List Frame} {meth : Method} {c : Code} {H : Heap} {locs : List Loc} {Q : State → Prop} {cc : ByteArray} {nL : Nat} {own : String} {ret : Option FieldType} {fF fL : Nat} {G : GT} {pc idx : Nat} {ls : Array Slot} {rest : List Value} {σ : Mem} {res : Int} {l1 : Int} {l2 : Int} (X : CX p R s m args meth c cc nL own ret fF fL G) (hP : PW G σ H) (hS : va_S (AA G) s.heap H locs) (hls : ls.size = nL) (hf : X11_mayEnd σ l1 l2 = some res) (h1 : Cond.methodLink own idx yX11_mayEnd ∈ TB) (hR : 4 + 1 ≤ fF ∧ 8 + (3 + 11) + 125 ≤ fL) (hW : (rest.map fun v => v.category).sum ≤ 8) (hd : decode cc pc = .ok (.invokevirtual idx, 3)) (kk : ∀ (H1 : Heap) (locs1 : List Loc), PW G σ H1 → va_S (AA G) s.heap H1 locs1 → W p l e R s m args below meth c H1 locs1 0 0 Q (F0 m (pc + 3) ls (.int (i32 res) :: rest))) : W p l e R s m args below meth c H locs 0 0 Q (F0 m pc ls (.int (i32 l2) :: .int (i32 l1) :: .ref (gh G + 111) :: rest)) := r_callV (n := 2) X hP hS hls (c_X11_mayEnd hf) h1 (tb t_1363 rfl) (tb t_52 rfl) (tb t_87 rfl) (tb t_1364 rfl) (by decide +kernel) hR (r_recv X hP (kd_lt ks_11 (by decide)) (cE_11 ks_11) rfl) rfl rfl hW hd kk
/-! X11_lineCost -/
theorem dX11_lineCost_0 : decode cX11_lineCost 0 = .ok (.aload_n 0, 1) := by decide +kernel
theorem dX11_lineCost_1 : decode cX11_lineCost 1 = .ok (.getfield 9, 3) := by decide +kernel
theorem dX11_lineCost_4 : decode cX11_lineCost 4 = .ok (.iconst 0, 1) := by decide +kernel
theorem dX11_lineCost_5 : decode cX11_lineCost 5 = .ok (.iaload, 1) := by decide +kernel
theorem dX11_lineCost_6 : decode cX11_lineCost 6 = .ok (.iload 5, 2) := by decide +kernel
theorem dX11_lineCost_8 : decode cX11_lineCost 8 = .ok (.isub, 1) := by decide +kernel
theorem dX11_lineCost_9 : decode cX11_lineCost 9 = .ok (.istore 6, 2) := by decide +kernel
theorem dX11_lineCost_11 : decode cX11_lineCost 11 = .ok (.iload_n 3, 1) := by decide +kernel
theorem dX11_lineCost_12 : decode cX11_lineCost 12 = .ok (.aload_n 0, 1) := by decide +kernel
theorem dX11_lineCost_13 : decode cX11_lineCost 13 = .ok (.iload_n 1, 1) := by decide +kernel
theorem dX11_lineCost_14 : decode cX11_lineCost 14 = .ok (.invokevirtual 101, 3) := by decide +kernel
theorem dX11_lineCost_17 : decode cX11_lineCost 17 = .ok (.iconst 1, 1) := by decide +kernel
theorem dX11_lineCost_18 : decode cX11_lineCost 18 = .ok (.isub, 1) := by decide +kernel
theorem dX11_lineCost_19 : decode cX11_lineCost 19 = .ok (.if_icmp .ne 7, 3) := by decide +kernel
theorem dX11_lineCost_22 : decode cX11_lineCost 22 = .ok (.iconst 0, 1) := by decide +kernel
theorem dX11_lineCost_23 : decode cX11_lineCost 23 = .ok (.goto 11, 3) := by decide +kernel
theorem dX11_lineCost_26 : decode cX11_lineCost 26 = .ok (.iload 6, 2) := by decide +kernel
theorem dX11_lineCost_28 : decode cX11_lineCost 28 = .ok (.iload 6, 2) := by decide +kernel
theorem dX11_lineCost_30 : decode cX11_lineCost 30 = .ok (.imul, 1) := by decide +kernel
theorem dX11_lineCost_31 : decode cX11_lineCost 31 = .ok (.bipush 10, 2) := by decide +kernel
theorem dX11_lineCost_33 : decode cX11_lineCost 33 = .ok (.idiv, 1) := by decide +kernel
theorem dX11_lineCost_34 : decode cX11_lineCost 34 = .ok (.bipush 20, 2) := by decide +kernel
theorem dX11_lineCost_36 : decode cX11_lineCost 36 = .ok (.iload 4, 2) := by decide +kernel
theorem dX11_lineCost_38 : decode cX11_lineCost 38 = .ok (.imul, 1) := by decide +kernel
theorem dX11_lineCost_39 : decode cX11_lineCost 39 = .ok (.iload 4, 2) := by decide +kernel
theorem dX11_lineCost_41 : decode cX11_lineCost 41 = .ok (.imul, 1) := by decide +kernel
theorem dX11_lineCost_42 : decode cX11_lineCost 42 = .ok (.iadd, 1) := by decide +kernel
theorem dX11_lineCost_43 : decode cX11_lineCost 43 = .ok (.aload_n 0, 1) := by decide +kernel
theorem dX11_lineCost_44 : decode cX11_lineCost 44 = .ok (.iload_n 1, 1) := by decide +kernel
theorem dX11_lineCost_45 : decode cX11_lineCost 45 = .ok (.iload_n 3, 1) := by decide +kernel
theorem dX11_lineCost_46 : decode cX11_lineCost 46 = .ok (.iconst 4, 1) := by decide +kernel
theorem dX11_lineCost_47 : decode cX11_lineCost 47 = .ok (.invokevirtual 237, 3) := by decide +kernel
theorem dX11_lineCost_50 : decode cX11_lineCost 50 = .ok (.ifCond .eq 7, 3) := by decide +kernel
theorem dX11_lineCost_53 : decode cX11_lineCost 53 = .ok (.iconst 5, 1) := by decide +kernel
theorem dX11_lineCost_54 : decode cX11_lineCost 54 = .ok (.goto 4, 3) := by decide +kernel
theorem dX11_lineCost_57 : decode cX11_lineCost 57 = .ok (.iconst 0, 1) := by decide +kernel
theorem dX11_lineCost_58 : decode cX11_lineCost 58 = .ok (.isub, 1) := by decide +kernel
theorem dX11_lineCost_59 : decode cX11_lineCost 59 = .ok (.istore 7, 2) := by decide +kernel
theorem dX11_lineCost_61 : decode cX11_lineCost 61 = .ok (.iload_n 2, 1) := by decide +kernel
theorem dX11_lineCost_62 : decode cX11_lineCost 62 = .ok (.iconst 1, 1) := by decide +kernel
theorem dX11_lineCost_63 : decode cX11_lineCost 63 = .ok (.iadd, 1) := by decide +kernel
theorem dX11_lineCost_64 : decode cX11_lineCost 64 = .ok (.istore 8, 2) := by decide +kernel
theorem dX11_lineCost_66 : decode cX11_lineCost 66 = .ok (.iload 8, 2) := by decide +kernel
theorem dX11_lineCost_68 : decode cX11_lineCost 68 = .ok (.iload_n 3, 1) := by decide +kernel
theorem dX11_lineCost_69 : decode cX11_lineCost 69 = .ok (.if_icmp .gt 35, 3) := by decide +kernel
theorem dX11_lineCost_72 : decode cX11_lineCost 72 = .ok (.iload 7, 2) := by decide +kernel
theorem dX11_lineCost_74 : decode cX11_lineCost 74 = .ok (.aload_n 0, 1) := by decide +kernel
theorem dX11_lineCost_75 : decode cX11_lineCost 75 = .ok (.iload_n 1, 1) := by decide +kernel
theorem dX11_lineCost_76 : decode cX11_lineCost 76 = .ok (.iload 8, 2) := by decide +kernel
theorem dX11_lineCost_78 : decode cX11_lineCost 78 = .ok (.iconst 2, 1) := by decide +kernel
theorem dX11_lineCost_79 : decode cX11_lineCost 79 = .ok (.invokevirtual 237, 3) := by decide +kernel
theorem dX11_lineCost_82 : decode cX11_lineCost 82 = .ok (.ifCond .eq 12, 3) := by decide +kernel
theorem dX11_lineCost_85 : decode cX11_lineCost 85 = .ok (.aload_n 0, 1) := by decide +kernel
theorem dX11_lineCost_86 : decode cX11_lineCost 86 = .ok (.getfield 9, 3) := by decide +kernel
theorem dX11_lineCost_89 : decode cX11_lineCost 89 = .ok (.iconst 3, 1) := by decide +kernel
theorem dX11_lineCost_90 : decode cX11_lineCost 90 = .ok (.iaload, 1) := by decide +kernel
theorem dX11_lineCost_91 : decode cX11_lineCost 91 = .ok (.goto 4, 3) := by decide +kernel
theorem dX11_lineCost_94 : decode cX11_lineCost 94 = .ok (.iconst 0, 1) := by decide +kernel
theorem dX11_lineCost_95 : decode cX11_lineCost 95 = .ok (.iadd, 1) := by decide +kernel
theorem dX11_lineCost_96 : decode cX11_lineCost 96 = .ok (.istore 7, 2) := by decide +kernel
theorem dX11_lineCost_98 : decode cX11_lineCost 98 = .ok (.iinc 8 1, 3) := by decide +kernel
theorem dX11_lineCost_101 : decode cX11_lineCost 101 = .ok (.goto (-35), 3) := by decide +kernel
theorem dX11_lineCost_104 : decode cX11_lineCost 104 = .ok (.iload 7, 2) := by decide +kernel
theorem dX11_lineCost_106 : decode cX11_lineCost 106 = .ok (.ireturn, 1) := by decide +kernel
def S_X11_lineCost_66 (fn : Int → Int → Int → Int → Option (Int)) (p : Program) (l : Launch) (e : Env) (R : Room) (s : State) (m : MethodId) (args : Array Value) (below : List Frame) (meth : Method) (c : Code) (G : GT) (σ : Mem) (res : Int) : Prop := ∀ (H : Heap) (locs : List Loc) (ls : Array Slot) (l1 : Int) (l3 : Int) (l7 : Int) (l8 : Int), PW G σ H → va_S (AA G) s.heap H locs → fn l1 l3 l7 l8 = some res → lv_has ls 9 [(0, .ref (gh G + 111)), (1, .int (i32 l1)), (3, .int (i32 l3)), (7, .int (i32 l7)), (8, .int (i32 l8))] → W p l e R s m args below meth c H locs 0 0 (MQ below (QM G (some (.int (i32 res))) σ) args s 0 0 (AA G)) (F0 m 66 ls [])
def X11_lineCost_B95 (rec66 : Int → Int → Int → Int → Option (Int)) (σ : Mem) (l1 : Int) (l3 : Int) (l8 : Int) (k0 : Int) (k1 : Int) : Option (Int) :=
  lt (k0 + k1) fun l7_1 =>
  lt (l8 + 1) fun l8_2 =>
  rec66 l1 l3 l7_1 l8_2
def S_X11_lineCost_95 (fn : Int → Int → Int → Int → Int → Option (Int)) (p : Program) (l : Launch) (e : Env) (R : Room) (s : State) (m : MethodId) (args : Array Value) (below : List Frame) (meth : Method) (c : Code) (G : GT) (σ : Mem) (res : Int) : Prop := ∀ (H : Heap) (locs : List Loc) (ls : Array Slot) (l1 : Int) (l3 : Int) (l8 : Int) (k0 : Int) (k1 : Int), PW G σ H → va_S (AA G) s.heap H locs → fn l1 l3 l8 k0 k1 = some res → lv_has ls 9 [(0, .ref (gh G + 111)), (1, .int (i32 l1)), (3, .int (i32 l3)), (8, .int (i32 l8))] → W p l e R s m args below meth c H locs 0 0 (MQ below (QM G (some (.int (i32 res))) σ) args s 0 0 (AA G)) (F0 m 95 ls [.int (i32 k1), .int (i32 k0)])
def X11_lineCost_B66 (rec66 : Int → Int → Int → Int → Option (Int)) (σ : Mem) (l1 : Int) (l3 : Int) (l7 : Int) (l8 : Int) : Option (Int) :=
  if w32 l3 < w32 l8 then
    some l7
  else
  bd (X11_hasMark σ l1 l8 2) fun r1 =>
  if w32 r1 = 0 then
    X11_lineCost_B95 rec66 σ l1 l3 l8 l7 0
  else
  ag 766 3 fun j2 =>
  X11_lineCost_B95 rec66 σ l1 l3 l8 l7 (σ 112 j2)
def X11_lineCost_L66 (σ : Mem) : Nat → Int → Int → Int → Int → Option (Int)
  | 0 => fun _ _ _ _ => none
  | n + 1 => X11_lineCost_B66 (X11_lineCost_L66 σ n) σ
def X11_lineCost_B58 (σ : Mem) (l1 : Int) (l2 : Int) (l3 : Int) (k0 : Int) (k1 : Int) : Option (Int) :=
  lt (k0 - k1) fun l7_1 =>
  lt (l2 + 1) fun l8_2 =>
  X11_lineCost_L66 σ 5000 l1 l3 l7_1 l8_2
def S_X11_lineCost_58 (fn : Int → Int → Int → Int → Int → Option (Int)) (p : Program) (l : Launch) (e : Env) (R : Room) (s : State) (m : MethodId) (args : Array Value) (below : List Frame) (meth : Method) (c : Code) (G : GT) (σ : Mem) (res : Int) : Prop := ∀ (H : Heap) (locs : List Loc) (ls : Array Slot) (l1 : Int) (l2 : Int) (l3 : Int) (k0 : Int) (k1 : Int), PW G σ H → va_S (AA G) s.heap H locs → fn l1 l2 l3 k0 k1 = some res → lv_has ls 9 [(0, .ref (gh G + 111)), (1, .int (i32 l1)), (2, .int (i32 l2)), (3, .int (i32 l3))] → W p l e R s m args below meth c H locs 0 0 (MQ below (QM G (some (.int (i32 res))) σ) args s 0 0 (AA G)) (F0 m 58 ls [.int (i32 k1), .int (i32 k0)])
def X11_lineCost_B34 (σ : Mem) (l1 : Int) (l2 : Int) (l3 : Int) (l4 : Int) (k0 : Int) : Option (Int) :=
  bd (X11_hasMark σ l1 l3 4) fun r1 =>
  if w32 r1 = 0 then
    X11_lineCost_B58 σ l1 l2 l3 (k0 + ((20 * l4) * l4)) 0
  else
  X11_lineCost_B58 σ l1 l2 l3 (k0 + ((20 * l4) * l4)) 5
def S_X11_lineCost_34 (fn : Int → Int → Int → Int → Int → Option (Int)) (p : Program) (l : Launch) (e : Env) (R : Room) (s : State) (m : MethodId) (args : Array Value) (below : List Frame) (meth : Method) (c : Code) (G : GT) (σ : Mem) (res : Int) : Prop := ∀ (H : Heap) (locs : List Loc) (ls : Array Slot) (l1 : Int) (l2 : Int) (l3 : Int) (l4 : Int) (k0 : Int), PW G σ H → va_S (AA G) s.heap H locs → fn l1 l2 l3 l4 k0 = some res → lv_has ls 9 [(0, .ref (gh G + 111)), (1, .int (i32 l1)), (2, .int (i32 l2)), (3, .int (i32 l3)), (4, .int (i32 l4))] → W p l e R s m args below meth c H locs 0 0 (MQ below (QM G (some (.int (i32 res))) σ) args s 0 0 (AA G)) (F0 m 34 ls [.int (i32 k0)])
def X11_lineCost (σ : Mem) (l1 : Int) (l2 : Int) (l3 : Int) (l4 : Int) (l5 : Int) : Option (Int) :=
  ag 766 0 fun j1 =>
  lt ((σ 112 j1) - l5) fun l6_2 =>
  bd (X11_bars σ l1) fun r3 =>
  if w32 l3 ≠ w32 (r3 - 1) then
    dg 10 <|
    X11_lineCost_B34 σ l1 l2 l3 l4 (idv (l6_2 * l6_2) 10)
  else
  X11_lineCost_B34 σ l1 l2 l3 l4 0
def S_X11_lineCost_0 (fn : Int → Int → Int → Int → Int → Option (Int)) (p : Program) (l : Launch) (e : Env) (R : Room) (s : State) (m : MethodId) (args : Array Value) (below : List Frame) (meth : Method) (c : Code) (G : GT) (σ : Mem) (res : Int) : Prop := ∀ (H : Heap) (locs : List Loc) (ls : Array Slot) (l1 : Int) (l2 : Int) (l3 : Int) (l4 : Int) (l5 : Int), PW G σ H → va_S (AA G) s.heap H locs → fn l1 l2 l3 l4 l5 = some res → lv_has ls 9 [(0, .ref (gh G + 111)), (1, .int (i32 l1)), (2, .int (i32 l2)), (3, .int (i32 l3)), (4, .int (i32 l4)), (5, .int (i32 l5))] → W p l e R s m args below meth c H locs 0 0 (MQ below (QM G (some (.int (i32 res))) σ) args s 0 0 (AA G)) (F0 m 0 ls [])
set_option maxHeartbeats 4000000 in
theorem a_X11_lineCost_95 {p : Program} {l : Launch} {e : Env} {R : Room} {s : State} {m : MethodId} {args : Array Value} {below : List Frame} {meth : Method} {c : Code} {G : GT} {σ : Mem} {res : Int} {rec66 : Int → Int → Int → Int → Option (Int)} (X : CX p R s m args meth c cX11_lineCost 9 RX11 (some FieldType.int) 4 125 G) (h66 : S_X11_lineCost_66 rec66 p l e R s m args below meth c G σ res) : S_X11_lineCost_95 (X11_lineCost_B95 rec66 σ) p l e R s m args below meth c G σ res := by
  intro H locs ls l1 l3 l8 k0 k1 hP hS hf hl
  unfold X11_lineCost_B95 at hf
  refine r_iadd X dX11_lineCost_95 ?_
  obtain ⟨l7_1, el7_1, hf⟩ := lt_inv hf
  refine r_eqi el7_1 ?_
  refine lv_istore (lv' := [(7, .int (i32 l7_1)), (0, .ref (gh G + 111)), (1, .int (i32 l1)), (3, .int (i32 l3)), (8, .int (i32 l8))]) X.1 X.2.1 dX11_lineCost_96 hl (by decide) rfl (fun ls hl => ?_)
  obtain ⟨l8_2, el8_2, hf⟩ := lt_inv hf
  refine lv_iinc (v := i32 l8_2) (lv' := [(8, .int (i32 l8_2)), (7, .int (i32 l7_1)), (0, .ref (gh G + 111)), (1, .int (i32 l1)), (3, .int (i32 l3))]) X.1 X.2.1 dX11_lineCost_98 hl (k := 4) rfl (by rw [← el8_2]; exact i32_add _ _) (by decide) rfl (fun ls hl => ?_)
  refine lv_goto (tgt := 66) X.1 X.2.1 dX11_lineCost_101 (by decide) ?_
  exact h66  H locs ls l1 l3 l7_1 l8_2 hP hS hf (lv_sub hl [2, 3, 4, 1, 0] rfl)
set_option maxHeartbeats 4000000 in
theorem a_X11_lineCost_66 {p : Program} {l : Launch} {e : Env} {R : Room} {s : State} {m : MethodId} {args : Array Value} {below : List Frame} {meth : Method} {c : Code} {G : GT} {σ : Mem} {res : Int} {rec66 : Int → Int → Int → Int → Option (Int)} (X : CX p R s m args meth c cX11_lineCost 9 RX11 (some FieldType.int) 4 125 G) (h66 : S_X11_lineCost_66 rec66 p l e R s m args below meth c G σ res) : S_X11_lineCost_66 (X11_lineCost_B66 rec66 σ) p l e R s m args below meth c G σ res := by
  intro H locs ls l1 l3 l7 l8 hP hS hf hl
  unfold X11_lineCost_B66 at hf
  refine lv_iload X.1 X.2.1 dX11_lineCost_66 (lv_at hl 4 rfl) ?_
  refine lv_iload_n X.1 X.2.1 dX11_lineCost_68 rfl (lv_at hl 2 rfl) ?_
  refine r_icmp_gt (tgt := 104) X dX11_lineCost_69 (by decide) (fun q => ?_) (fun q => ?_)
  · replace hf := it_inv q hf
    refine lv_iload X.1 X.2.1 dX11_lineCost_104 (lv_at hl 3 rfl) ?_
    cases so_inv hf
    exact r_iret X hP hS dX11_lineCost_106
  · replace hf := ie_inv q hf
    refine lv_iload X.1 X.2.1 dX11_lineCost_72 (lv_at hl 3 rfl) ?_
    refine lv_aload_n X.1 X.2.1 dX11_lineCost_74 rfl (lv_at hl 0 rfl) ?_
    refine lv_iload_n X.1 X.2.1 dX11_lineCost_75 rfl (lv_at hl 1 rfl) ?_
    refine lv_iload X.1 X.2.1 dX11_lineCost_76 (lv_at hl 4 rfl) ?_
    refine r_iconst X 2 dX11_lineCost_78 ?_
    obtain ⟨r1, hr1, hf⟩ := bd_inv hf
    refine k_X11_hasMark X hP hS hl.1  hr1 (tb t_1365 rfl) (by decide) (Nat.le_of_ble_eq_true rfl) dX11_lineCost_79 (fun H locs hP hS => ?_)
    refine r_if_eq (tgt := 94) X dX11_lineCost_82 (by decide) (fun q => ?_) (fun q => ?_)
    · replace hf := it_inv q hf
      refine r_iconst X 0 dX11_lineCost_94 ?_
      exact a_X11_lineCost_95 X h66  H locs ls l1 l3 l8 l7 0 hP hS hf (lv_sub hl [0, 1, 2, 4] rfl)
    · replace hf := ie_inv q hf
      refine lv_aload_n X.1 X.2.1 dX11_lineCost_85 rfl (lv_at hl 0 rfl) ?_
      refine g_11_0 (r := 112) X hP ks_11 rfl (tb t_1087 rfl) dX11_lineCost_86 ?_
      refine r_iconst X 3 dX11_lineCost_89 ?_
      obtain ⟨j2, hij2, hjj2, hlj2, hf⟩ := ag_inv hf
      refine r_iald X hP (ch_11_0 ks_11).1 (ch_11_0 ks_11).2 hij2 hjj2 dX11_lineCost_90 ?_
      refine lv_goto (tgt := 95) X.1 X.2.1 dX11_lineCost_91 (by decide) ?_
      exact a_X11_lineCost_95 X h66  H locs ls l1 l3 l8 l7 (σ 112 j2) hP hS hf (lv_sub hl [0, 1, 2, 4] rfl)
theorem al_X11_lineCost_66 {p : Program} {l : Launch} {e : Env} {R : Room} {s : State} {m : MethodId} {args : Array Value} {below : List Frame} {meth : Method} {c : Code} {G : GT} {σ : Mem} {res : Int} (X : CX p R s m args meth c cX11_lineCost 9 RX11 (some FieldType.int) 4 125 G) : ∀ n, S_X11_lineCost_66 (X11_lineCost_L66 σ n) p l e R s m args below meth c G σ res := by
  intro n
  induction n with
  | zero =>
    intro H locs ls l1 l3 l7 l8 hP hS hf hl
    cases hf
  | succ n ih => exact a_X11_lineCost_66 X ih
set_option maxHeartbeats 4000000 in
theorem a_X11_lineCost_58 {p : Program} {l : Launch} {e : Env} {R : Room} {s : State} {m : MethodId} {args : Array Value} {below : List Frame} {meth : Method} {c : Code} {G : GT} {σ : Mem} {res : Int} (X : CX p R s m args meth c cX11_lineCost 9 RX11 (some FieldType.int) 4 125 G) : S_X11_lineCost_58 (X11_lineCost_B58 σ) p l e R s m args below meth c G σ res := by
  intro H locs ls l1 l2 l3 k0 k1 hP hS hf hl
  unfold X11_lineCost_B58 at hf
  refine r_isub X dX11_lineCost_58 ?_
  obtain ⟨l7_1, el7_1, hf⟩ := lt_inv hf
  refine r_eqi el7_1 ?_
  refine lv_istore (lv' := [(7, .int (i32 l7_1)), (0, .ref (gh G + 111)), (1, .int (i32 l1)), (2, .int (i32 l2)), (3, .int (i32 l3))]) X.1 X.2.1 dX11_lineCost_59 hl (by decide) rfl (fun ls hl => ?_)
  refine lv_iload_n X.1 X.2.1 dX11_lineCost_61 rfl (lv_at hl 3 rfl) ?_
  refine r_iconst X 1 dX11_lineCost_62 ?_
  refine r_iadd X dX11_lineCost_63 ?_
  obtain ⟨l8_2, el8_2, hf⟩ := lt_inv hf
  refine r_eqi el8_2 ?_
  refine lv_istore (lv' := [(8, .int (i32 l8_2)), (7, .int (i32 l7_1)), (0, .ref (gh G + 111)), (1, .int (i32 l1)), (2, .int (i32 l2)), (3, .int (i32 l3))]) X.1 X.2.1 dX11_lineCost_64 hl (by decide) rfl (fun ls hl => ?_)
  exact al_X11_lineCost_66 X 5000  H locs ls l1 l3 l7_1 l8_2 hP hS hf (lv_sub hl [2, 3, 5, 1, 0] rfl)
set_option maxHeartbeats 4000000 in
theorem a_X11_lineCost_34 {p : Program} {l : Launch} {e : Env} {R : Room} {s : State} {m : MethodId} {args : Array Value} {below : List Frame} {meth : Method} {c : Code} {G : GT} {σ : Mem} {res : Int} (X : CX p R s m args meth c cX11_lineCost 9 RX11 (some FieldType.int) 4 125 G) : S_X11_lineCost_34 (X11_lineCost_B34 σ) p l e R s m args below meth c G σ res := by
  intro H locs ls l1 l2 l3 l4 k0 hP hS hf hl
  unfold X11_lineCost_B34 at hf
  refine r_bipush X 20 (by decide) dX11_lineCost_34 ?_
  refine lv_iload X.1 X.2.1 dX11_lineCost_36 (lv_at hl 4 rfl) ?_
  refine r_imul X dX11_lineCost_38 ?_
  refine lv_iload X.1 X.2.1 dX11_lineCost_39 (lv_at hl 4 rfl) ?_
  refine r_imul X dX11_lineCost_41 ?_
  refine r_iadd X dX11_lineCost_42 ?_
  refine lv_aload_n X.1 X.2.1 dX11_lineCost_43 rfl (lv_at hl 0 rfl) ?_
  refine lv_iload_n X.1 X.2.1 dX11_lineCost_44 rfl (lv_at hl 1 rfl) ?_
  refine lv_iload_n X.1 X.2.1 dX11_lineCost_45 rfl (lv_at hl 3 rfl) ?_
  refine r_iconst X 4 dX11_lineCost_46 ?_
  obtain ⟨r1, hr1, hf⟩ := bd_inv hf
  refine k_X11_hasMark X hP hS hl.1  hr1 (tb t_1365 rfl) (by decide) (Nat.le_of_ble_eq_true rfl) dX11_lineCost_47 (fun H locs hP hS => ?_)
  refine r_if_eq (tgt := 57) X dX11_lineCost_50 (by decide) (fun q => ?_) (fun q => ?_)
  · replace hf := it_inv q hf
    refine r_iconst X 0 dX11_lineCost_57 ?_
    exact a_X11_lineCost_58 X  H locs ls l1 l2 l3 (k0 + ((20 * l4) * l4)) 0 hP hS hf (lv_sub hl [0, 1, 2, 3] rfl)
  · replace hf := ie_inv q hf
    refine r_iconst X 5 dX11_lineCost_53 ?_
    refine lv_goto (tgt := 58) X.1 X.2.1 dX11_lineCost_54 (by decide) ?_
    exact a_X11_lineCost_58 X  H locs ls l1 l2 l3 (k0 + ((20 * l4) * l4)) 5 hP hS hf (lv_sub hl [0, 1, 2, 3] rfl)
set_option maxHeartbeats 4000000 in
theorem a_X11_lineCost_0 {p : Program} {l : Launch} {e : Env} {R : Room} {s : State} {m : MethodId} {args : Array Value} {below : List Frame} {meth : Method} {c : Code} {G : GT} {σ : Mem} {res : Int} (X : CX p R s m args meth c cX11_lineCost 9 RX11 (some FieldType.int) 4 125 G) : S_X11_lineCost_0 (X11_lineCost σ) p l e R s m args below meth c G σ res := by
  intro H locs ls l1 l2 l3 l4 l5 hP hS hf hl
  unfold X11_lineCost at hf
  refine lv_aload_n X.1 X.2.1 dX11_lineCost_0 rfl (lv_at hl 0 rfl) ?_
  refine g_11_0 (r := 112) X hP ks_11 rfl (tb t_1087 rfl) dX11_lineCost_1 ?_
  refine r_iconst X 0 dX11_lineCost_4 ?_
  obtain ⟨j1, hij1, hjj1, hlj1, hf⟩ := ag_inv hf
  refine r_iald X hP (ch_11_0 ks_11).1 (ch_11_0 ks_11).2 hij1 hjj1 dX11_lineCost_5 ?_
  refine lv_iload X.1 X.2.1 dX11_lineCost_6 (lv_at hl 5 rfl) ?_
  refine r_isub X dX11_lineCost_8 ?_
  obtain ⟨l6_2, el6_2, hf⟩ := lt_inv hf
  refine r_eqi el6_2 ?_
  refine lv_istore (lv' := [(6, .int (i32 l6_2)), (0, .ref (gh G + 111)), (1, .int (i32 l1)), (2, .int (i32 l2)), (3, .int (i32 l3)), (4, .int (i32 l4)), (5, .int (i32 l5))]) X.1 X.2.1 dX11_lineCost_9 hl (by decide) rfl (fun ls hl => ?_)
  refine lv_iload_n X.1 X.2.1 dX11_lineCost_11 rfl (lv_at hl 4 rfl) ?_
  refine lv_aload_n X.1 X.2.1 dX11_lineCost_12 rfl (lv_at hl 1 rfl) ?_
  refine lv_iload_n X.1 X.2.1 dX11_lineCost_13 rfl (lv_at hl 2 rfl) ?_
  obtain ⟨r3, hr3, hf⟩ := bd_inv hf
  refine k_X11_bars X hP hS hl.1  hr3 (tb t_1296 rfl) (by decide) (Nat.le_of_ble_eq_true rfl) dX11_lineCost_14 (fun H locs hP hS => ?_)
  refine r_iconst X 1 dX11_lineCost_17 ?_
  refine r_isub X dX11_lineCost_18 ?_
  refine r_icmp_ne (tgt := 26) X dX11_lineCost_19 (by decide) (fun q => ?_) (fun q => ?_)
  · replace hf := it_inv q hf
    refine lv_iload X.1 X.2.1 dX11_lineCost_26 (lv_at hl 0 rfl) ?_
    refine lv_iload X.1 X.2.1 dX11_lineCost_28 (lv_at hl 0 rfl) ?_
    refine r_imul X dX11_lineCost_30 ?_
    refine r_bipush X 10 (by decide) dX11_lineCost_31 ?_
    obtain ⟨hz4, hf⟩ := dg_inv hf
    refine r_idiv X hz4 dX11_lineCost_33 ?_
    exact a_X11_lineCost_34 X  H locs ls l1 l2 l3 l4 (idv (l6_2 * l6_2) 10) hP hS hf (lv_sub hl [1, 2, 3, 4, 5] rfl)
  · replace hf := ie_inv q hf
    refine r_iconst X 0 dX11_lineCost_22 ?_
    refine lv_goto (tgt := 34) X.1 X.2.1 dX11_lineCost_23 (by decide) ?_
    exact a_X11_lineCost_34 X  H locs ls l1 l2 l3 l4 0 hP hS hf (lv_sub hl [1, 2, 3, 4, 5] rfl)
set_option maxHeartbeats 4000000 in
theorem c_X11_lineCost {l : Launch} {G : GT} {σ : Mem} {res : Int} {l1 : Int} {l2 : Int} {l3 : Int} {l4 : Int} {l5 : Int} (hf : X11_lineCost σ l1 l2 l3 l4 l5 = some res) : CT l yX11_lineCost cX11_lineCost 9 (some FieldType.int) 4 125 G [.ref (gh G + 111), .int (i32 l1), .int (i32 l2), .int (i32 l3), .int (i32 l4), .int (i32 l5)] σ σ (some (.int (i32 res))) := by
  refine CT.mk (own := RX11) (by decide) rfl (Nat.le_of_ble_eq_true rfl) ?_
  intro p e s m below meth c ls X hP hS hl
  have hl : lv_has ls 9 [(0, .ref (gh G + 111)), (1, .int (i32 l1)), (2, .int (i32 l2)), (3, .int (i32 l3)), (4, .int (i32 l4)), (5, .int (i32 l5))] := hl
  exact a_X11_lineCost_0 X  s.heap [] ls l1 l2 l3 l4 l5 hP hS hf hl
theorem k_X11_lineCost {p : Program} {l : Launch} {e : Env} {R : Room} {s : State} {m : MethodId} {args : Array Value} {below : List Frame} {meth : Method} {c : Code} {H : Heap} {locs : List Loc} {Q : State → Prop} {cc : ByteArray} {nL : Nat} {own : String} {ret : Option FieldType} {fF fL : Nat} {G : GT} {pc idx : Nat} {ls : Array Slot} {rest : List Value} {σ : Mem} {res : Int} {l1 : Int} {l2 : Int} {l3 : Int} {l4 : Int} {l5 : Int} (X : CX p R s m args meth c cc nL own ret fF fL G) (hP : PW G σ H) (hS : va_S (AA G) s.heap H locs) (hls : ls.size = nL) (hf : X11_lineCost σ l1 l2 l3 l4 l5 = some res) (h1 : Cond.methodLink own idx yX11_lineCost ∈ TB) (hR : 4 + 1 ≤ fF ∧ 8 + (9 + 11) + 125 ≤ fL) (hW : (rest.map fun v => v.category).sum ≤ 8) (hd : decode cc pc = .ok (.invokevirtual idx, 3)) (kk : ∀ (H1 : Heap) (locs1 : List Loc), PW G σ H1 → va_S (AA G) s.heap H1 locs1 → W p l e R s m args below meth c H1 locs1 0 0 Q (F0 m (pc + 3) ls (.int (i32 res) :: rest))) : W p l e R s m args below meth c H locs 0 0 Q (F0 m pc ls (.int (i32 l5) :: .int (i32 l4) :: .int (i32 l3) :: .int (i32 l2) :: .int (i32 l1) :: .ref (gh G + 111) :: rest)) := r_callV (n := 5) X hP hS hls (c_X11_lineCost hf) h1 (tb t_1371 rfl) (tb t_54 rfl) (tb t_87 rfl) (tb t_1372 rfl) (by decide +kernel) hR (r_recv X hP (kd_lt ks_11 (by decide)) (cE_11 ks_11) rfl) rfl rfl hW hd kk
/-! X11_findLines -/
theorem dX11_findLines_0 : decode cX11_findLines 0 = .ok (.aload_n 0, 1) := by decide +kernel
theorem dX11_findLines_1 : decode cX11_findLines 1 = .ok (.iload_n 1, 1) := by decide +kernel
theorem dX11_findLines_2 : decode cX11_findLines 2 = .ok (.invokevirtual 101, 3) := by decide +kernel
theorem dX11_findLines_5 : decode cX11_findLines 5 = .ok (.istore_n 3, 1) := by decide +kernel
theorem dX11_findLines_6 : decode cX11_findLines 6 = .ok (.iconst 0, 1) := by decide +kernel
theorem dX11_findLines_7 : decode cX11_findLines 7 = .ok (.istore 4, 2) := by decide +kernel
theorem dX11_findLines_9 : decode cX11_findLines 9 = .ok (.iload 4, 2) := by decide +kernel
theorem dX11_findLines_11 : decode cX11_findLines 11 = .ok (.iload_n 3, 1) := by decide +kernel
theorem dX11_findLines_12 : decode cX11_findLines 12 = .ok (.if_icmp .ge 94, 3) := by decide +kernel
theorem dX11_findLines_15 : decode cX11_findLines 15 = .ok (.iconst 0, 1) := by decide +kernel
theorem dX11_findLines_16 : decode cX11_findLines 16 = .ok (.istore 5, 2) := by decide +kernel
theorem dX11_findLines_18 : decode cX11_findLines 18 = .ok (.iload 4, 2) := by decide +kernel
theorem dX11_findLines_20 : decode cX11_findLines 20 = .ok (.istore 6, 2) := by decide +kernel
theorem dX11_findLines_22 : decode cX11_findLines 22 = .ok (.iload 6, 2) := by decide +kernel
theorem dX11_findLines_24 : decode cX11_findLines 24 = .ok (.iload_n 3, 1) := by decide +kernel
theorem dX11_findLines_25 : decode cX11_findLines 25 = .ok (.if_icmp .ge 75, 3) := by decide +kernel
theorem dX11_findLines_28 : decode cX11_findLines 28 = .ok (.iload 5, 2) := by decide +kernel
theorem dX11_findLines_30 : decode cX11_findLines 30 = .ok (.aload_n 0, 1) := by decide +kernel
theorem dX11_findLines_31 : decode cX11_findLines 31 = .ok (.iload_n 1, 1) := by decide +kernel
theorem dX11_findLines_32 : decode cX11_findLines 32 = .ok (.iload 6, 2) := by decide +kernel
theorem dX11_findLines_34 : decode cX11_findLines 34 = .ok (.iload_n 2, 1) := by decide +kernel
theorem dX11_findLines_35 : decode cX11_findLines 35 = .ok (.iconst 1, 1) := by decide +kernel
theorem dX11_findLines_36 : decode cX11_findLines 36 = .ok (.invokevirtual 233, 3) := by decide +kernel
theorem dX11_findLines_39 : decode cX11_findLines 39 = .ok (.iadd, 1) := by decide +kernel
theorem dX11_findLines_40 : decode cX11_findLines 40 = .ok (.istore 5, 2) := by decide +kernel
theorem dX11_findLines_42 : decode cX11_findLines 42 = .ok (.aload_n 0, 1) := by decide +kernel
theorem dX11_findLines_43 : decode cX11_findLines 43 = .ok (.getfield 25, 3) := by decide +kernel
theorem dX11_findLines_46 : decode cX11_findLines 46 = .ok (.iload_n 2, 1) := by decide +kernel
theorem dX11_findLines_47 : decode cX11_findLines 47 = .ok (.iload 4, 2) := by decide +kernel
theorem dX11_findLines_49 : decode cX11_findLines 49 = .ok (.iload 6, 2) := by decide +kernel
theorem dX11_findLines_51 : decode cX11_findLines 51 = .ok (.invokestatic 255, 3) := by decide +kernel
theorem dX11_findLines_54 : decode cX11_findLines 54 = .ok (.iload 5, 2) := by decide +kernel
theorem dX11_findLines_56 : decode cX11_findLines 56 = .ok (.aload_n 0, 1) := by decide +kernel
theorem dX11_findLines_57 : decode cX11_findLines 57 = .ok (.getfield 9, 3) := by decide +kernel
theorem dX11_findLines_60 : decode cX11_findLines 60 = .ok (.iconst 0, 1) := by decide +kernel
theorem dX11_findLines_61 : decode cX11_findLines 61 = .ok (.iaload, 1) := by decide +kernel
theorem dX11_findLines_62 : decode cX11_findLines 62 = .ok (.if_icmp .gt 28, 3) := by decide +kernel
theorem dX11_findLines_65 : decode cX11_findLines 65 = .ok (.aload_n 0, 1) := by decide +kernel
theorem dX11_findLines_66 : decode cX11_findLines 66 = .ok (.iload_n 1, 1) := by decide +kernel
theorem dX11_findLines_67 : decode cX11_findLines 67 = .ok (.iload 6, 2) := by decide +kernel
theorem dX11_findLines_69 : decode cX11_findLines 69 = .ok (.invokevirtual 248, 3) := by decide +kernel
theorem dX11_findLines_72 : decode cX11_findLines 72 = .ok (.ifCond .eq 18, 3) := by decide +kernel
theorem dX11_findLines_75 : decode cX11_findLines 75 = .ok (.aload_n 0, 1) := by decide +kernel
theorem dX11_findLines_76 : decode cX11_findLines 76 = .ok (.iload_n 1, 1) := by decide +kernel
theorem dX11_findLines_77 : decode cX11_findLines 77 = .ok (.iload 4, 2) := by decide +kernel
theorem dX11_findLines_79 : decode cX11_findLines 79 = .ok (.iload 6, 2) := by decide +kernel
theorem dX11_findLines_81 : decode cX11_findLines 81 = .ok (.iload_n 2, 1) := by decide +kernel
theorem dX11_findLines_82 : decode cX11_findLines 82 = .ok (.iload 5, 2) := by decide +kernel
theorem dX11_findLines_84 : decode cX11_findLines 84 = .ok (.invokevirtual 251, 3) := by decide +kernel
theorem dX11_findLines_87 : decode cX11_findLines 87 = .ok (.goto 6, 3) := by decide +kernel
theorem dX11_findLines_90 : decode cX11_findLines 90 = .ok (.ldc_w 258, 3) := by decide +kernel
theorem dX11_findLines_93 : decode cX11_findLines 93 = .ok (.iastore, 1) := by decide +kernel
theorem dX11_findLines_94 : decode cX11_findLines 94 = .ok (.iinc 6 1, 3) := by decide +kernel
theorem dX11_findLines_97 : decode cX11_findLines 97 = .ok (.goto (-75), 3) := by decide +kernel
theorem dX11_findLines_100 : decode cX11_findLines 100 = .ok (.iinc 4 1, 3) := by decide +kernel
theorem dX11_findLines_103 : decode cX11_findLines 103 = .ok (.goto (-94), 3) := by decide +kernel
theorem dX11_findLines_106 : decode cX11_findLines 106 = .ok (.return_, 1) := by decide +kernel
def S_X11_findLines_9 (fn : Mem → Int → Int → Int → Int → Option (Mem)) (p : Program) (l : Launch) (e : Env) (R : Room) (s : State) (m : MethodId) (args : Array Value) (below : List Frame) (meth : Method) (c : Code) (G : GT) (τ : Mem) : Prop := ∀ (σ : Mem) (H : Heap) (locs : List Loc) (ls : Array Slot) (l1 : Int) (l2 : Int) (l3 : Int) (l4 : Int), PW G σ H → va_S (AA G) s.heap H locs → fn σ l1 l2 l3 l4 = some τ → lv_has ls 7 [(0, .ref (gh G + 111)), (1, .int (i32 l1)), (2, .int (i32 l2)), (3, .int (i32 l3)), (4, .int (i32 l4))] → W p l e R s m args below meth c H locs 0 0 (MQ below (QM G none τ) args s 0 0 (AA G)) (F0 m 9 ls [])
def S_X11_findLines_22 (fn : Mem → Int → Int → Int → Int → Int → Int → Option (Mem)) (p : Program) (l : Launch) (e : Env) (R : Room) (s : State) (m : MethodId) (args : Array Value) (below : List Frame) (meth : Method) (c : Code) (G : GT) (τ : Mem) : Prop := ∀ (σ : Mem) (H : Heap) (locs : List Loc) (ls : Array Slot) (l1 : Int) (l2 : Int) (l3 : Int) (l4 : Int) (l5 : Int) (l6 : Int), PW G σ H → va_S (AA G) s.heap H locs → fn σ l1 l2 l3 l4 l5 l6 = some τ → lv_has ls 7 [(0, .ref (gh G + 111)), (1, .int (i32 l1)), (2, .int (i32 l2)), (3, .int (i32 l3)), (4, .int (i32 l4)), (5, .int (i32 l5)), (6, .int (i32 l6))] → W p l e R s m args below meth c H locs 0 0 (MQ below (QM G none τ) args s 0 0 (AA G)) (F0 m 22 ls [])
def X11_findLines_B93 (rec9 : Mem → Int → Int → Int → Int → Option (Mem)) (rec22 : Mem → Int → Int → Int → Int → Int → Int → Option (Mem)) (σ : Mem) (l1 : Int) (l2 : Int) (l3 : Int) (l4 : Int) (l5 : Int) (l6 : Int) (k0 : Nat) (k1 : Int) (k2 : Int) : Option (Mem) :=
  ag 4800 k1 fun j1 =>
  lt (st σ k0 j1 k2) fun s2 =>
  lt (l6 + 1) fun l6_3 =>
  rec22 s2 l1 l2 l3 l4 l5 l6_3
def S_X11_findLines_93 (fn : Mem → Int → Int → Int → Int → Int → Int → Nat → Int → Int → Option (Mem)) (p : Program) (l : Launch) (e : Env) (R : Room) (s : State) (m : MethodId) (args : Array Value) (below : List Frame) (meth : Method) (c : Code) (G : GT) (τ : Mem) : Prop := ∀ (σ : Mem) (H : Heap) (locs : List Loc) (ls : Array Slot) (l1 : Int) (l2 : Int) (l3 : Int) (l4 : Int) (l5 : Int) (l6 : Int) (k0 : Nat) (k1 : Int) (k2 : Int), kd k0 = 13 → ln k0 = 4800 → PW G σ H → va_S (AA G) s.heap H locs → fn σ l1 l2 l3 l4 l5 l6 k0 k1 k2 = some τ → lv_has ls 7 [(0, .ref (gh G + 111)), (1, .int (i32 l1)), (2, .int (i32 l2)), (3, .int (i32 l3)), (4, .int (i32 l4)), (5, .int (i32 l5)), (6, .int (i32 l6))] → W p l e R s m args below meth c H locs 0 0 (MQ below (QM G none τ) args s 0 0 (AA G)) (F0 m 93 ls [.int (i32 k2), .int (i32 k1), .ref (gh G + k0)])
def X11_findLines_B90 (rec9 : Mem → Int → Int → Int → Int → Option (Mem)) (rec22 : Mem → Int → Int → Int → Int → Int → Int → Option (Mem)) (σ : Mem) (l1 : Int) (l2 : Int) (l3 : Int) (l4 : Int) (l5 : Int) (l6 : Int) (k0 : Nat) (k1 : Int) : Option (Mem) :=
  X11_findLines_B93 rec9 rec22 σ l1 l2 l3 l4 l5 l6 k0 k1 1000000000
def S_X11_findLines_90 (fn : Mem → Int → Int → Int → Int → Int → Int → Nat → Int → Option (Mem)) (p : Program) (l : Launch) (e : Env) (R : Room) (s : State) (m : MethodId) (args : Array Value) (below : List Frame) (meth : Method) (c : Code) (G : GT) (τ : Mem) : Prop := ∀ (σ : Mem) (H : Heap) (locs : List Loc) (ls : Array Slot) (l1 : Int) (l2 : Int) (l3 : Int) (l4 : Int) (l5 : Int) (l6 : Int) (k0 : Nat) (k1 : Int), kd k0 = 13 → ln k0 = 4800 → PW G σ H → va_S (AA G) s.heap H locs → fn σ l1 l2 l3 l4 l5 l6 k0 k1 = some τ → lv_has ls 7 [(0, .ref (gh G + 111)), (1, .int (i32 l1)), (2, .int (i32 l2)), (3, .int (i32 l3)), (4, .int (i32 l4)), (5, .int (i32 l5)), (6, .int (i32 l6))] → W p l e R s m args below meth c H locs 0 0 (MQ below (QM G none τ) args s 0 0 (AA G)) (F0 m 90 ls [.int (i32 k1), .ref (gh G + k0)])
def X11_findLines_B22 (rec9 : Mem → Int → Int → Int → Int → Option (Mem)) (rec22 : Mem → Int → Int → Int → Int → Int → Int → Option (Mem)) (σ : Mem) (l1 : Int) (l2 : Int) (l3 : Int) (l4 : Int) (l5 : Int) (l6 : Int) : Option (Mem) :=
  if w32 l3 ≤ w32 l6 then
    lt (l4 + 1) fun l4_1 =>
    rec9 σ l1 l2 l3 l4_1
  else
  bd (X11_room σ l1 l6 l2) fun r2 =>
  lt (l5 + r2) fun l5_3 =>
  bd (X11_cell σ l2 l4 l6) fun r4 =>
  ag 766 0 fun j5 =>
  if w32 (σ 112 j5) < w32 l5_3 then
    X11_findLines_B90 rec9 rec22 σ l1 l2 l3 l4 l5_3 l6 117 r4
  else
  bd (X11_mayEnd σ l1 l6) fun r6 =>
  if w32 r6 = 0 then
    X11_findLines_B90 rec9 rec22 σ l1 l2 l3 l4 l5_3 l6 117 r4
  else
  bd (X11_lineCost σ l1 l4 l6 l2 l5_3) fun r7 =>
  X11_findLines_B93 rec9 rec22 σ l1 l2 l3 l4 l5_3 l6 117 r4 r7
def X11_findLines_L22 (rec9 : Mem → Int → Int → Int → Int → Option (Mem)) : Nat → Mem → Int → Int → Int → Int → Int → Int → Option (Mem)
  | 0 => fun _ _ _ _ _ _ _ => none
  | n + 1 => X11_findLines_B22 rec9 (X11_findLines_L22 rec9 n)
def X11_findLines_B9 (rec9 : Mem → Int → Int → Int → Int → Option (Mem)) (σ : Mem) (l1 : Int) (l2 : Int) (l3 : Int) (l4 : Int) : Option (Mem) :=
  if w32 l3 ≤ w32 l4 then
    some σ
  else
  X11_findLines_L22 rec9 5000 σ l1 l2 l3 l4 0 l4
def X11_findLines_L9 : Nat → Mem → Int → Int → Int → Int → Option (Mem)
  | 0 => fun _ _ _ _ _ => none
  | n + 1 => X11_findLines_B9 (X11_findLines_L9 n)
def X11_findLines (σ : Mem) (l1 : Int) (l2 : Int) : Option (Mem) :=
  bd (X11_bars σ l1) fun r1 =>
  X11_findLines_L9 5000 σ l1 l2 r1 0
def S_X11_findLines_0 (fn : Mem → Int → Int → Option (Mem)) (p : Program) (l : Launch) (e : Env) (R : Room) (s : State) (m : MethodId) (args : Array Value) (below : List Frame) (meth : Method) (c : Code) (G : GT) (τ : Mem) : Prop := ∀ (σ : Mem) (H : Heap) (locs : List Loc) (ls : Array Slot) (l1 : Int) (l2 : Int), PW G σ H → va_S (AA G) s.heap H locs → fn σ l1 l2 = some τ → lv_has ls 7 [(0, .ref (gh G + 111)), (1, .int (i32 l1)), (2, .int (i32 l2))] → W p l e R s m args below meth c H locs 0 0 (MQ below (QM G none τ) args s 0 0 (AA G)) (F0 m 0 ls [])
set_option maxHeartbeats 4000000 in
theorem a_X11_findLines_93 {p : Program} {l : Launch} {e : Env} {R : Room} {s : State} {m : MethodId} {args : Array Value} {below : List Frame} {meth : Method} {c : Code} {G : GT} {τ : Mem} {rec9 : Mem → Int → Int → Int → Int → Option (Mem)} {rec22 : Mem → Int → Int → Int → Int → Int → Int → Option (Mem)} (X : CX p R s m args meth c cX11_findLines 7 RX11 none 5 153 G) (h9 : S_X11_findLines_9 rec9 p l e R s m args below meth c G τ) (h22 : S_X11_findLines_22 rec22 p l e R s m args below meth c G τ) : S_X11_findLines_93 (X11_findLines_B93 rec9 rec22) p l e R s m args below meth c G τ := by
  intro σ H locs ls l1 l2 l3 l4 l5 l6 k0 k1 k2 hk_k0 hn_k0 hP hS hf hl
  unfold X11_findLines_B93 at hf
  obtain ⟨j1, hij1, hjj1, hlj1, hf⟩ := ag_inv hf
  refine r_iast X hP hS hk_k0 hn_k0 hij1 hjj1 dX11_findLines_93 (fun H locs hP hS => ?_)
  obtain ⟨s2, es2, hf⟩ := lt_inv hf
  rw [es2] at hP
  obtain ⟨l6_3, el6_3, hf⟩ := lt_inv hf
  refine lv_iinc (v := i32 l6_3) (lv' := [(6, .int (i32 l6_3)), (0, .ref (gh G + 111)), (1, .int (i32 l1)), (2, .int (i32 l2)), (3, .int (i32 l3)), (4, .int (i32 l4)), (5, .int (i32 l5))]) X.1 X.2.1 dX11_findLines_94 hl (k := 6) rfl (by rw [← el6_3]; exact i32_add _ _) (by decide) rfl (fun ls hl => ?_)
  refine lv_goto (tgt := 22) X.1 X.2.1 dX11_findLines_97 (by decide) ?_
  exact h22 s2 H locs ls l1 l2 l3 l4 l5 l6_3 hP hS hf (lv_sub hl [1, 2, 3, 4, 5, 6, 0] rfl)
set_option maxHeartbeats 4000000 in
theorem a_X11_findLines_90 {p : Program} {l : Launch} {e : Env} {R : Room} {s : State} {m : MethodId} {args : Array Value} {below : List Frame} {meth : Method} {c : Code} {G : GT} {τ : Mem} {rec9 : Mem → Int → Int → Int → Int → Option (Mem)} {rec22 : Mem → Int → Int → Int → Int → Int → Int → Option (Mem)} (X : CX p R s m args meth c cX11_findLines 7 RX11 none 5 153 G) (h9 : S_X11_findLines_9 rec9 p l e R s m args below meth c G τ) (h22 : S_X11_findLines_22 rec22 p l e R s m args below meth c G τ) : S_X11_findLines_90 (X11_findLines_B90 rec9 rec22) p l e R s m args below meth c G τ := by
  intro σ H locs ls l1 l2 l3 l4 l5 l6 k0 k1 hk_k0 hn_k0 hP hS hf hl
  unfold X11_findLines_B90 at hf
  refine r_ldcw X 1000000000 (tb t_1384 rfl) (by decide) dX11_findLines_90 ?_
  exact a_X11_findLines_93 X h9 h22 σ H locs ls l1 l2 l3 l4 l5 l6 k0 k1 1000000000 hk_k0 hn_k0 hP hS hf hl
set_option maxHeartbeats 4000000 in
theorem a_X11_findLines_22 {p : Program} {l : Launch} {e : Env} {R : Room} {s : State} {m : MethodId} {args : Array Value} {below : List Frame} {meth : Method} {c : Code} {G : GT} {τ : Mem} {rec9 : Mem → Int → Int → Int → Int → Option (Mem)} {rec22 : Mem → Int → Int → Int → Int → Int → Int → Option (Mem)} (X : CX p R s m args meth c cX11_findLines 7 RX11 none 5 153 G) (h9 : S_X11_findLines_9 rec9 p l e R s m args below meth c G τ) (h22 : S_X11_findLines_22 rec22 p l e R s m args below meth c G τ) : S_X11_findLines_22 (X11_findLines_B22 rec9 rec22) p l e R s m args below meth c G τ := by
  intro σ H locs ls l1 l2 l3 l4 l5 l6 hP hS hf hl
  unfold X11_findLines_B22 at hf
  refine lv_iload X.1 X.2.1 dX11_findLines_22 (lv_at hl 6 rfl) ?_
  refine lv_iload_n X.1 X.2.1 dX11_findLines_24 rfl (lv_at hl 3 rfl) ?_
  refine r_icmp_ge (tgt := 100) X dX11_findLines_25 (by decide) (fun q => ?_) (fun q => ?_)
  · replace hf := it_inv q hf
    obtain ⟨l4_1, el4_1, hf⟩ := lt_inv hf
    refine lv_iinc (v := i32 l4_1) (lv' := [(4, .int (i32 l4_1)), (0, .ref (gh G + 111)), (1, .int (i32 l1)), (2, .int (i32 l2)), (3, .int (i32 l3)), (5, .int (i32 l5)), (6, .int (i32 l6))]) X.1 X.2.1 dX11_findLines_100 hl (k := 4) rfl (by rw [← el4_1]; exact i32_add _ _) (by decide) rfl (fun ls hl => ?_)
    refine lv_goto (tgt := 9) X.1 X.2.1 dX11_findLines_103 (by decide) ?_
    exact h9 σ H locs ls l1 l2 l3 l4_1 hP hS hf (lv_sub hl [1, 2, 3, 4, 0] rfl)
  · replace hf := ie_inv q hf
    refine lv_iload X.1 X.2.1 dX11_findLines_28 (lv_at hl 5 rfl) ?_
    refine lv_aload_n X.1 X.2.1 dX11_findLines_30 rfl (lv_at hl 0 rfl) ?_
    refine lv_iload_n X.1 X.2.1 dX11_findLines_31 rfl (lv_at hl 1 rfl) ?_
    refine lv_iload X.1 X.2.1 dX11_findLines_32 (lv_at hl 6 rfl) ?_
    refine lv_iload_n X.1 X.2.1 dX11_findLines_34 rfl (lv_at hl 2 rfl) ?_
    refine r_iconst X 1 dX11_findLines_35 ?_
    obtain ⟨r2, hr2, hf⟩ := bd_inv hf
    refine k_X11_room X hP hS hl.1  hr2 (tb t_1345 rfl) (by decide) (Nat.le_of_ble_eq_true rfl) dX11_findLines_36 (fun H locs hP hS => ?_)
    refine r_iadd X dX11_findLines_39 ?_
    obtain ⟨l5_3, el5_3, hf⟩ := lt_inv hf
    refine r_eqi el5_3 ?_
    refine lv_istore (lv' := [(5, .int (i32 l5_3)), (0, .ref (gh G + 111)), (1, .int (i32 l1)), (2, .int (i32 l2)), (3, .int (i32 l3)), (4, .int (i32 l4)), (6, .int (i32 l6))]) X.1 X.2.1 dX11_findLines_40 hl (by decide) rfl (fun ls hl => ?_)
    refine lv_aload_n X.1 X.2.1 dX11_findLines_42 rfl (lv_at hl 1 rfl) ?_
    refine g_11_14 (r := 117) X hP ks_11 rfl (tb t_1101 rfl) dX11_findLines_43 ?_
    refine lv_iload_n X.1 X.2.1 dX11_findLines_46 rfl (lv_at hl 3 rfl) ?_
    refine lv_iload X.1 X.2.1 dX11_findLines_47 (lv_at hl 5 rfl) ?_
    refine lv_iload X.1 X.2.1 dX11_findLines_49 (lv_at hl 6 rfl) ?_
    obtain ⟨r4, hr4, hf⟩ := bd_inv hf
    refine k_X11_cell X hP hS hl.1  hr4 (tb t_1381 rfl) (by decide) (Nat.le_of_ble_eq_true rfl) dX11_findLines_51 (fun H locs hP hS => ?_)
    refine lv_iload X.1 X.2.1 dX11_findLines_54 (lv_at hl 0 rfl) ?_
    refine lv_aload_n X.1 X.2.1 dX11_findLines_56 rfl (lv_at hl 1 rfl) ?_
    refine g_11_0 (r := 112) X hP ks_11 rfl (tb t_1087 rfl) dX11_findLines_57 ?_
    refine r_iconst X 0 dX11_findLines_60 ?_
    obtain ⟨j5, hij5, hjj5, hlj5, hf⟩ := ag_inv hf
    refine r_iald X hP (ch_11_0 ks_11).1 (ch_11_0 ks_11).2 hij5 hjj5 dX11_findLines_61 ?_
    refine r_icmp_gt (tgt := 90) X dX11_findLines_62 (by decide) (fun q => ?_) (fun q => ?_)
    · replace hf := it_inv q hf
      exact a_X11_findLines_90 X h9 h22 σ H locs ls l1 l2 l3 l4 l5_3 l6 117 r4 (ch_11_14 ks_11).1 (ch_11_14 ks_11).2 hP hS hf (lv_sub hl [1, 2, 3, 4, 5, 0, 6] rfl)
    · replace hf := ie_inv q hf
      refine lv_aload_n X.1 X.2.1 dX11_findLines_65 rfl (lv_at hl 1 rfl) ?_
      refine lv_iload_n X.1 X.2.1 dX11_findLines_66 rfl (lv_at hl 2 rfl) ?_
      refine lv_iload X.1 X.2.1 dX11_findLines_67 (lv_at hl 6 rfl) ?_
      obtain ⟨r6, hr6, hf⟩ := bd_inv hf
      refine k_X11_mayEnd X hP hS hl.1  hr6 (tb t_1361 rfl) (by decide) (Nat.le_of_ble_eq_true rfl) dX11_findLines_69 (fun H locs hP hS => ?_)
      refine r_if_eq (tgt := 90) X dX11_findLines_72 (by decide) (fun q => ?_) (fun q => ?_)
      · replace hf := it_inv q hf
        exact a_X11_findLines_90 X h9 h22 σ H locs ls l1 l2 l3 l4 l5_3 l6 117 r4 (ch_11_14 ks_11).1 (ch_11_14 ks_11).2 hP hS hf (lv_sub hl [1, 2, 3, 4, 5, 0, 6] rfl)
      · replace hf := ie_inv q hf
        refine lv_aload_n X.1 X.2.1 dX11_findLines_75 rfl (lv_at hl 1 rfl) ?_
        refine lv_iload_n X.1 X.2.1 dX11_findLines_76 rfl (lv_at hl 2 rfl) ?_
        refine lv_iload X.1 X.2.1 dX11_findLines_77 (lv_at hl 5 rfl) ?_
        refine lv_iload X.1 X.2.1 dX11_findLines_79 (lv_at hl 6 rfl) ?_
        refine lv_iload_n X.1 X.2.1 dX11_findLines_81 rfl (lv_at hl 3 rfl) ?_
        refine lv_iload X.1 X.2.1 dX11_findLines_82 (lv_at hl 0 rfl) ?_
        obtain ⟨r7, hr7, hf⟩ := bd_inv hf
        refine k_X11_lineCost X hP hS hl.1  hr7 (tb t_1369 rfl) (by decide) (Nat.le_of_ble_eq_true rfl) dX11_findLines_84 (fun H locs hP hS => ?_)
        refine lv_goto (tgt := 93) X.1 X.2.1 dX11_findLines_87 (by decide) ?_
        exact a_X11_findLines_93 X h9 h22 σ H locs ls l1 l2 l3 l4 l5_3 l6 117 r4 r7 (ch_11_14 ks_11).1 (ch_11_14 ks_11).2 hP hS hf (lv_sub hl [1, 2, 3, 4, 5, 0, 6] rfl)
theorem al_X11_findLines_22 {p : Program} {l : Launch} {e : Env} {R : Room} {s : State} {m : MethodId} {args : Array Value} {below : List Frame} {meth : Method} {c : Code} {G : GT} {τ : Mem} {rec9 : Mem → Int → Int → Int → Int → Option (Mem)} (X : CX p R s m args meth c cX11_findLines 7 RX11 none 5 153 G) (h9 : S_X11_findLines_9 rec9 p l e R s m args below meth c G τ) : ∀ n, S_X11_findLines_22 (X11_findLines_L22 rec9 n) p l e R s m args below meth c G τ := by
  intro n
  induction n with
  | zero =>
    intro σ H locs ls l1 l2 l3 l4 l5 l6 hP hS hf hl
    cases hf
  | succ n ih => exact a_X11_findLines_22 X h9 ih
set_option maxHeartbeats 4000000 in
theorem a_X11_findLines_9 {p : Program} {l : Launch} {e : Env} {R : Room} {s : State} {m : MethodId} {args : Array Value} {below : List Frame} {meth : Method} {c : Code} {G : GT} {τ : Mem} {rec9 : Mem → Int → Int → Int → Int → Option (Mem)} (X : CX p R s m args meth c cX11_findLines 7 RX11 none 5 153 G) (h9 : S_X11_findLines_9 rec9 p l e R s m args below meth c G τ) : S_X11_findLines_9 (X11_findLines_B9 rec9) p l e R s m args below meth c G τ := by
  intro σ H locs ls l1 l2 l3 l4 hP hS hf hl
  unfold X11_findLines_B9 at hf
  refine lv_iload X.1 X.2.1 dX11_findLines_9 (lv_at hl 4 rfl) ?_
  refine lv_iload_n X.1 X.2.1 dX11_findLines_11 rfl (lv_at hl 3 rfl) ?_
  refine r_icmp_ge (tgt := 106) X dX11_findLines_12 (by decide) (fun q => ?_) (fun q => ?_)
  · replace hf := it_inv q hf
    cases so_inv hf
    exact r_vret X hP hS dX11_findLines_106
  · replace hf := ie_inv q hf
    refine r_iconst X 0 dX11_findLines_15 ?_
    refine lv_istore (lv' := [(5, .int (i32 0)), (0, .ref (gh G + 111)), (1, .int (i32 l1)), (2, .int (i32 l2)), (3, .int (i32 l3)), (4, .int (i32 l4))]) X.1 X.2.1 dX11_findLines_16 hl (by decide) rfl (fun ls hl => ?_)
    refine lv_iload X.1 X.2.1 dX11_findLines_18 (lv_at hl 5 rfl) ?_
    refine lv_istore (lv' := [(6, .int (i32 l4)), (5, .int (i32 0)), (0, .ref (gh G + 111)), (1, .int (i32 l1)), (2, .int (i32 l2)), (3, .int (i32 l3)), (4, .int (i32 l4))]) X.1 X.2.1 dX11_findLines_20 hl (by decide) rfl (fun ls hl => ?_)
    exact al_X11_findLines_22 X h9 5000 σ H locs ls l1 l2 l3 l4 0 l4 hP hS hf (lv_sub hl [2, 3, 4, 5, 6, 1, 0] rfl)
theorem al_X11_findLines_9 {p : Program} {l : Launch} {e : Env} {R : Room} {s : State} {m : MethodId} {args : Array Value} {below : List Frame} {meth : Method} {c : Code} {G : GT} {τ : Mem} (X : CX p R s m args meth c cX11_findLines 7 RX11 none 5 153 G) : ∀ n, S_X11_findLines_9 (X11_findLines_L9 n) p l e R s m args below meth c G τ := by
  intro n
  induction n with
  | zero =>
    intro σ H locs ls l1 l2 l3 l4 hP hS hf hl
    cases hf
  | succ n ih => exact a_X11_findLines_9 X ih
set_option maxHeartbeats 4000000 in
theorem a_X11_findLines_0 {p : Program} {l : Launch} {e : Env} {R : Room} {s : State} {m : MethodId} {args : Array Value} {below : List Frame} {meth : Method} {c : Code} {G : GT} {τ : Mem} (X : CX p R s m args meth c cX11_findLines 7 RX11 none 5 153 G) : S_X11_findLines_0 (X11_findLines) p l e R s m args below meth c G τ := by
  intro σ H locs ls l1 l2 hP hS hf hl
  unfold X11_findLines at hf
  refine lv_aload_n X.1 X.2.1 dX11_findLines_0 rfl (lv_at hl 0 rfl) ?_
  refine lv_iload_n X.1 X.2.1 dX11_findLines_1 rfl (lv_at hl 1 rfl) ?_
  obtain ⟨r1, hr1, hf⟩ := bd_inv hf
  refine k_X11_bars X hP hS hl.1  hr1 (tb t_1296 rfl) (by decide) (Nat.le_of_ble_eq_true rfl) dX11_findLines_2 (fun H locs hP hS => ?_)
  refine lv_istore_n (lv' := [(3, .int (i32 r1)), (0, .ref (gh G + 111)), (1, .int (i32 l1)), (2, .int (i32 l2))]) X.1 X.2.1 dX11_findLines_5 rfl hl (by decide) rfl (fun ls hl => ?_)
  refine r_iconst X 0 dX11_findLines_6 ?_
  refine lv_istore (lv' := [(4, .int (i32 0)), (3, .int (i32 r1)), (0, .ref (gh G + 111)), (1, .int (i32 l1)), (2, .int (i32 l2))]) X.1 X.2.1 dX11_findLines_7 hl (by decide) rfl (fun ls hl => ?_)
  exact al_X11_findLines_9 X 5000 σ H locs ls l1 l2 r1 0 hP hS hf (lv_sub hl [2, 3, 4, 1, 0] rfl)
set_option maxHeartbeats 4000000 in
theorem c_X11_findLines {l : Launch} {G : GT} {σ τ : Mem} {l1 : Int} {l2 : Int} (hf : X11_findLines σ l1 l2 = some τ) : CT l yX11_findLines cX11_findLines 7 none 5 153 G [.ref (gh G + 111), .int (i32 l1), .int (i32 l2)] σ τ none := by
  refine CT.mk (own := RX11) (by decide) rfl (Nat.le_of_ble_eq_true rfl) ?_
  intro p e s m below meth c ls X hP hS hl
  have hl : lv_has ls 7 [(0, .ref (gh G + 111)), (1, .int (i32 l1)), (2, .int (i32 l2))] := hl
  exact a_X11_findLines_0 X σ s.heap [] ls l1 l2 hP hS hf hl
theorem k_X11_findLines {p : Program} {l : Launch} {e : Env} {R : Room} {s : State} {m : MethodId} {args : Array Value} {below : List Frame} {meth : Method} {c : Code} {H : Heap} {locs : List Loc} {Q : State → Prop} {cc : ByteArray} {nL : Nat} {own : String} {ret : Option FieldType} {fF fL : Nat} {G : GT} {pc idx : Nat} {ls : Array Slot} {rest : List Value} {σ τ : Mem} {l1 : Int} {l2 : Int} (X : CX p R s m args meth c cc nL own ret fF fL G) (hP : PW G σ H) (hS : va_S (AA G) s.heap H locs) (hls : ls.size = nL) (hf : X11_findLines σ l1 l2 = some τ) (h1 : Cond.methodLink own idx yX11_findLines ∈ TB) (hR : 5 + 1 ≤ fF ∧ 8 + (7 + 11) + 153 ≤ fL) (hW : (rest.map fun v => v.category).sum ≤ 8) (hd : decode cc pc = .ok (.invokevirtual idx, 3)) (kk : ∀ (H1 : Heap) (locs1 : List Loc), PW G τ H1 → va_S (AA G) s.heap H1 locs1 → W p l e R s m args below meth c H1 locs1 0 0 Q (F0 m (pc + 3) ls (rest))) : W p l e R s m args below meth c H locs 0 0 Q (F0 m pc ls (.int (i32 l2) :: .int (i32 l1) :: .ref (gh G + 111) :: rest)) := r_callV (n := 2) X hP hS hls (c_X11_findLines hf) h1 (tb t_1379 rfl) (tb t_55 rfl) (tb t_87 rfl) (tb t_1380 rfl) (by decide +kernel) hR (r_recv X hP (kd_lt ks_11 (by decide)) (cE_11 ks_11) rfl) rfl rfl hW hd kk
/-! X11_findTails -/
theorem dX11_findTails_0 : decode cX11_findTails 0 = .ok (.iconst 0, 1) := by decide +kernel
theorem dX11_findTails_1 : decode cX11_findTails 1 = .ok (.istore_n 3, 1) := by decide +kernel
theorem dX11_findTails_2 : decode cX11_findTails 2 = .ok (.iload_n 3, 1) := by decide +kernel
theorem dX11_findTails_3 : decode cX11_findTails 3 = .ok (.aload_n 0, 1) := by decide +kernel
theorem dX11_findTails_4 : decode cX11_findTails 4 = .ok (.getfield 9, 3) := by decide +kernel
theorem dX11_findTails_7 : decode cX11_findTails 7 = .ok (.iconst 1, 1) := by decide +kernel
theorem dX11_findTails_8 : decode cX11_findTails 8 = .ok (.iaload, 1) := by decide +kernel
theorem dX11_findTails_9 : decode cX11_findTails 9 = .ok (.if_icmp .gt 148, 3) := by decide +kernel
theorem dX11_findTails_12 : decode cX11_findTails 12 = .ok (.iconst 0, 1) := by decide +kernel
theorem dX11_findTails_13 : decode cX11_findTails 13 = .ok (.istore 4, 2) := by decide +kernel
theorem dX11_findTails_15 : decode cX11_findTails 15 = .ok (.iload 4, 2) := by decide +kernel
theorem dX11_findTails_17 : decode cX11_findTails 17 = .ok (.iload_n 2, 1) := by decide +kernel
theorem dX11_findTails_18 : decode cX11_findTails 18 = .ok (.iconst 1, 1) := by decide +kernel
theorem dX11_findTails_19 : decode cX11_findTails 19 = .ok (.iadd, 1) := by decide +kernel
theorem dX11_findTails_20 : decode cX11_findTails 20 = .ok (.if_icmp .gt 131, 3) := by decide +kernel
theorem dX11_findTails_23 : decode cX11_findTails 23 = .ok (.iload 4, 2) := by decide +kernel
theorem dX11_findTails_25 : decode cX11_findTails 25 = .ok (.iload_n 2, 1) := by decide +kernel
theorem dX11_findTails_26 : decode cX11_findTails 26 = .ok (.iconst 1, 1) := by decide +kernel
theorem dX11_findTails_27 : decode cX11_findTails 27 = .ok (.iadd, 1) := by decide +kernel
theorem dX11_findTails_28 : decode cX11_findTails 28 = .ok (.if_icmp .ne 7, 3) := by decide +kernel
theorem dX11_findTails_31 : decode cX11_findTails 31 = .ok (.iconst 0, 1) := by decide +kernel
theorem dX11_findTails_32 : decode cX11_findTails 32 = .ok (.goto 6, 3) := by decide +kernel
theorem dX11_findTails_35 : decode cX11_findTails 35 = .ok (.ldc_w 258, 3) := by decide +kernel
theorem dX11_findTails_38 : decode cX11_findTails 38 = .ok (.istore 5, 2) := by decide +kernel
theorem dX11_findTails_40 : decode cX11_findTails 40 = .ok (.iload 4, 2) := by decide +kernel
theorem dX11_findTails_42 : decode cX11_findTails 42 = .ok (.istore 6, 2) := by decide +kernel
theorem dX11_findTails_44 : decode cX11_findTails 44 = .ok (.iload 6, 2) := by decide +kernel
theorem dX11_findTails_46 : decode cX11_findTails 46 = .ok (.iload_n 2, 1) := by decide +kernel
theorem dX11_findTails_47 : decode cX11_findTails 47 = .ok (.if_icmp .gt 84, 3) := by decide +kernel
theorem dX11_findTails_50 : decode cX11_findTails 50 = .ok (.iload_n 3, 1) := by decide +kernel
theorem dX11_findTails_51 : decode cX11_findTails 51 = .ok (.ifCond .le 80, 3) := by decide +kernel
theorem dX11_findTails_54 : decode cX11_findTails 54 = .ok (.aload_n 0, 1) := by decide +kernel
theorem dX11_findTails_55 : decode cX11_findTails 55 = .ok (.getfield 25, 3) := by decide +kernel
theorem dX11_findTails_58 : decode cX11_findTails 58 = .ok (.iload_n 1, 1) := by decide +kernel
theorem dX11_findTails_59 : decode cX11_findTails 59 = .ok (.iload 4, 2) := by decide +kernel
theorem dX11_findTails_61 : decode cX11_findTails 61 = .ok (.iload 6, 2) := by decide +kernel
theorem dX11_findTails_63 : decode cX11_findTails 63 = .ok (.invokestatic 255, 3) := by decide +kernel
theorem dX11_findTails_66 : decode cX11_findTails 66 = .ok (.iaload, 1) := by decide +kernel
theorem dX11_findTails_67 : decode cX11_findTails 67 = .ok (.istore 7, 2) := by decide +kernel
theorem dX11_findTails_69 : decode cX11_findTails 69 = .ok (.aload_n 0, 1) := by decide +kernel
theorem dX11_findTails_70 : decode cX11_findTails 70 = .ok (.getfield 31, 3) := by decide +kernel
theorem dX11_findTails_73 : decode cX11_findTails 73 = .ok (.bipush 41, 2) := by decide +kernel
theorem dX11_findTails_75 : decode cX11_findTails 75 = .ok (.iload_n 3, 1) := by decide +kernel
theorem dX11_findTails_76 : decode cX11_findTails 76 = .ok (.iconst 1, 1) := by decide +kernel
theorem dX11_findTails_77 : decode cX11_findTails 77 = .ok (.isub, 1) := by decide +kernel
theorem dX11_findTails_78 : decode cX11_findTails 78 = .ok (.imul, 1) := by decide +kernel
theorem dX11_findTails_79 : decode cX11_findTails 79 = .ok (.iload 6, 2) := by decide +kernel
theorem dX11_findTails_81 : decode cX11_findTails 81 = .ok (.iadd, 1) := by decide +kernel
theorem dX11_findTails_82 : decode cX11_findTails 82 = .ok (.iconst 1, 1) := by decide +kernel
theorem dX11_findTails_83 : decode cX11_findTails 83 = .ok (.iadd, 1) := by decide +kernel
theorem dX11_findTails_84 : decode cX11_findTails 84 = .ok (.iaload, 1) := by decide +kernel
theorem dX11_findTails_85 : decode cX11_findTails 85 = .ok (.istore 8, 2) := by decide +kernel
theorem dX11_findTails_87 : decode cX11_findTails 87 = .ok (.iload 7, 2) := by decide +kernel
theorem dX11_findTails_89 : decode cX11_findTails 89 = .ok (.ldc_w 258, 3) := by decide +kernel
theorem dX11_findTails_92 : decode cX11_findTails 92 = .ok (.if_icmp .ge 29, 3) := by decide +kernel
theorem dX11_findTails_95 : decode cX11_findTails 95 = .ok (.iload 8, 2) := by decide +kernel
theorem dX11_findTails_97 : decode cX11_findTails 97 = .ok (.ldc_w 258, 3) := by decide +kernel
theorem dX11_findTails_100 : decode cX11_findTails 100 = .ok (.if_icmp .ge 21, 3) := by decide +kernel
theorem dX11_findTails_103 : decode cX11_findTails 103 = .ok (.iload 7, 2) := by decide +kernel
theorem dX11_findTails_105 : decode cX11_findTails 105 = .ok (.iload 8, 2) := by decide +kernel
theorem dX11_findTails_107 : decode cX11_findTails 107 = .ok (.iadd, 1) := by decide +kernel
theorem dX11_findTails_108 : decode cX11_findTails 108 = .ok (.iload 5, 2) := by decide +kernel
theorem dX11_findTails_110 : decode cX11_findTails 110 = .ok (.if_icmp .ge 11, 3) := by decide +kernel
theorem dX11_findTails_113 : decode cX11_findTails 113 = .ok (.iload 7, 2) := by decide +kernel
theorem dX11_findTails_115 : decode cX11_findTails 115 = .ok (.iload 8, 2) := by decide +kernel
theorem dX11_findTails_117 : decode cX11_findTails 117 = .ok (.iadd, 1) := by decide +kernel
theorem dX11_findTails_118 : decode cX11_findTails 118 = .ok (.goto 5, 3) := by decide +kernel
theorem dX11_findTails_121 : decode cX11_findTails 121 = .ok (.iload 5, 2) := by decide +kernel
theorem dX11_findTails_123 : decode cX11_findTails 123 = .ok (.istore 5, 2) := by decide +kernel
theorem dX11_findTails_125 : decode cX11_findTails 125 = .ok (.iinc 6 1, 3) := by decide +kernel
theorem dX11_findTails_128 : decode cX11_findTails 128 = .ok (.goto (-84), 3) := by decide +kernel
theorem dX11_findTails_131 : decode cX11_findTails 131 = .ok (.aload_n 0, 1) := by decide +kernel
theorem dX11_findTails_132 : decode cX11_findTails 132 = .ok (.getfield 31, 3) := by decide +kernel
theorem dX11_findTails_135 : decode cX11_findTails 135 = .ok (.bipush 41, 2) := by decide +kernel
theorem dX11_findTails_137 : decode cX11_findTails 137 = .ok (.iload_n 3, 1) := by decide +kernel
theorem dX11_findTails_138 : decode cX11_findTails 138 = .ok (.imul, 1) := by decide +kernel
theorem dX11_findTails_139 : decode cX11_findTails 139 = .ok (.iload 4, 2) := by decide +kernel
theorem dX11_findTails_141 : decode cX11_findTails 141 = .ok (.iadd, 1) := by decide +kernel
theorem dX11_findTails_142 : decode cX11_findTails 142 = .ok (.iload 5, 2) := by decide +kernel
theorem dX11_findTails_144 : decode cX11_findTails 144 = .ok (.iastore, 1) := by decide +kernel
theorem dX11_findTails_145 : decode cX11_findTails 145 = .ok (.iinc 4 1, 3) := by decide +kernel
theorem dX11_findTails_148 : decode cX11_findTails 148 = .ok (.goto (-133), 3) := by decide +kernel
theorem dX11_findTails_151 : decode cX11_findTails 151 = .ok (.iinc 3 1, 3) := by decide +kernel
theorem dX11_findTails_154 : decode cX11_findTails 154 = .ok (.goto (-152), 3) := by decide +kernel
theorem dX11_findTails_157 : decode cX11_findTails 157 = .ok (.return_, 1) := by decide +kernel
def S_X11_findTails_2 (fn : Mem → Int → Int → Int → Option (Mem)) (p : Program) (l : Launch) (e : Env) (R : Room) (s : State) (m : MethodId) (args : Array Value) (below : List Frame) (meth : Method) (c : Code) (G : GT) (τ : Mem) : Prop := ∀ (σ : Mem) (H : Heap) (locs : List Loc) (ls : Array Slot) (l1 : Int) (l2 : Int) (l3 : Int), PW G σ H → va_S (AA G) s.heap H locs → fn σ l1 l2 l3 = some τ → lv_has ls 9 [(0, .ref (gh G + 111)), (1, .int (i32 l1)), (2, .int (i32 l2)), (3, .int (i32 l3))] → W p l e R s m args below meth c H locs 0 0 (MQ below (QM G none τ) args s 0 0 (AA G)) (F0 m 2 ls [])
def S_X11_findTails_15 (fn : Mem → Int → Int → Int → Int → Option (Mem)) (p : Program) (l : Launch) (e : Env) (R : Room) (s : State) (m : MethodId) (args : Array Value) (below : List Frame) (meth : Method) (c : Code) (G : GT) (τ : Mem) : Prop := ∀ (σ : Mem) (H : Heap) (locs : List Loc) (ls : Array Slot) (l1 : Int) (l2 : Int) (l3 : Int) (l4 : Int), PW G σ H → va_S (AA G) s.heap H locs → fn σ l1 l2 l3 l4 = some τ → lv_has ls 9 [(0, .ref (gh G + 111)), (1, .int (i32 l1)), (2, .int (i32 l2)), (3, .int (i32 l3)), (4, .int (i32 l4))] → W p l e R s m args below meth c H locs 0 0 (MQ below (QM G none τ) args s 0 0 (AA G)) (F0 m 15 ls [])
def S_X11_findTails_44 (fn : Mem → Int → Int → Int → Int → Int → Int → Option (Mem)) (p : Program) (l : Launch) (e : Env) (R : Room) (s : State) (m : MethodId) (args : Array Value) (below : List Frame) (meth : Method) (c : Code) (G : GT) (τ : Mem) : Prop := ∀ (σ : Mem) (H : Heap) (locs : List Loc) (ls : Array Slot) (l1 : Int) (l2 : Int) (l3 : Int) (l4 : Int) (l5 : Int) (l6 : Int), PW G σ H → va_S (AA G) s.heap H locs → fn σ l1 l2 l3 l4 l5 l6 = some τ → lv_has ls 9 [(0, .ref (gh G + 111)), (1, .int (i32 l1)), (2, .int (i32 l2)), (3, .int (i32 l3)), (4, .int (i32 l4)), (5, .int (i32 l5)), (6, .int (i32 l6))] → W p l e R s m args below meth c H locs 0 0 (MQ below (QM G none τ) args s 0 0 (AA G)) (F0 m 44 ls [])
def X11_findTails_B131 (rec2 : Mem → Int → Int → Int → Option (Mem)) (rec15 : Mem → Int → Int → Int → Int → Option (Mem)) (σ : Mem) (l1 : Int) (l2 : Int) (l3 : Int) (l4 : Int) (l5 : Int) : Option (Mem) :=
  ag 287 ((41 * l3) + l4) fun j1 =>
  lt (st σ 119 j1 l5) fun s2 =>
  lt (l4 + 1) fun l4_3 =>
  rec15 s2 l1 l2 l3 l4_3
def S_X11_findTails_131 (fn : Mem → Int → Int → Int → Int → Int → Option (Mem)) (p : Program) (l : Launch) (e : Env) (R : Room) (s : State) (m : MethodId) (args : Array Value) (below : List Frame) (meth : Method) (c : Code) (G : GT) (τ : Mem) : Prop := ∀ (σ : Mem) (H : Heap) (locs : List Loc) (ls : Array Slot) (l1 : Int) (l2 : Int) (l3 : Int) (l4 : Int) (l5 : Int), PW G σ H → va_S (AA G) s.heap H locs → fn σ l1 l2 l3 l4 l5 = some τ → lv_has ls 9 [(0, .ref (gh G + 111)), (1, .int (i32 l1)), (2, .int (i32 l2)), (3, .int (i32 l3)), (4, .int (i32 l4)), (5, .int (i32 l5))] → W p l e R s m args below meth c H locs 0 0 (MQ below (QM G none τ) args s 0 0 (AA G)) (F0 m 131 ls [])
def X11_findTails_B123 (rec2 : Mem → Int → Int → Int → Option (Mem)) (rec15 : Mem → Int → Int → Int → Int → Option (Mem)) (rec44 : Mem → Int → Int → Int → Int → Int → Int → Option (Mem)) (σ : Mem) (l1 : Int) (l2 : Int) (l3 : Int) (l4 : Int) (l6 : Int) (k0 : Int) : Option (Mem) :=
  lt (l6 + 1) fun l6_1 =>
  rec44 σ l1 l2 l3 l4 k0 l6_1
def S_X11_findTails_123 (fn : Mem → Int → Int → Int → Int → Int → Int → Option (Mem)) (p : Program) (l : Launch) (e : Env) (R : Room) (s : State) (m : MethodId) (args : Array Value) (below : List Frame) (meth : Method) (c : Code) (G : GT) (τ : Mem) : Prop := ∀ (σ : Mem) (H : Heap) (locs : List Loc) (ls : Array Slot) (l1 : Int) (l2 : Int) (l3 : Int) (l4 : Int) (l6 : Int) (k0 : Int), PW G σ H → va_S (AA G) s.heap H locs → fn σ l1 l2 l3 l4 l6 k0 = some τ → lv_has ls 9 [(0, .ref (gh G + 111)), (1, .int (i32 l1)), (2, .int (i32 l2)), (3, .int (i32 l3)), (4, .int (i32 l4)), (6, .int (i32 l6))] → W p l e R s m args below meth c H locs 0 0 (MQ below (QM G none τ) args s 0 0 (AA G)) (F0 m 123 ls [.int (i32 k0)])
def X11_findTails_B121 (rec2 : Mem → Int → Int → Int → Option (Mem)) (rec15 : Mem → Int → Int → Int → Int → Option (Mem)) (rec44 : Mem → Int → Int → Int → Int → Int → Int → Option (Mem)) (σ : Mem) (l1 : Int) (l2 : Int) (l3 : Int) (l4 : Int) (l5 : Int) (l6 : Int) : Option (Mem) :=
  X11_findTails_B123 rec2 rec15 rec44 σ l1 l2 l3 l4 l6 l5
def S_X11_findTails_121 (fn : Mem → Int → Int → Int → Int → Int → Int → Option (Mem)) (p : Program) (l : Launch) (e : Env) (R : Room) (s : State) (m : MethodId) (args : Array Value) (below : List Frame) (meth : Method) (c : Code) (G : GT) (τ : Mem) : Prop := ∀ (σ : Mem) (H : Heap) (locs : List Loc) (ls : Array Slot) (l1 : Int) (l2 : Int) (l3 : Int) (l4 : Int) (l5 : Int) (l6 : Int), PW G σ H → va_S (AA G) s.heap H locs → fn σ l1 l2 l3 l4 l5 l6 = some τ → lv_has ls 9 [(0, .ref (gh G + 111)), (1, .int (i32 l1)), (2, .int (i32 l2)), (3, .int (i32 l3)), (4, .int (i32 l4)), (5, .int (i32 l5)), (6, .int (i32 l6))] → W p l e R s m args below meth c H locs 0 0 (MQ below (QM G none τ) args s 0 0 (AA G)) (F0 m 121 ls [])
def X11_findTails_B44 (rec2 : Mem → Int → Int → Int → Option (Mem)) (rec15 : Mem → Int → Int → Int → Int → Option (Mem)) (rec44 : Mem → Int → Int → Int → Int → Int → Int → Option (Mem)) (σ : Mem) (l1 : Int) (l2 : Int) (l3 : Int) (l4 : Int) (l5 : Int) (l6 : Int) : Option (Mem) :=
  if w32 l2 < w32 l6 then
    X11_findTails_B131 rec2 rec15 σ l1 l2 l3 l4 l5
  else
  if w32 l3 ≤ 0 then
    X11_findTails_B131 rec2 rec15 σ l1 l2 l3 l4 l5
  else
  bd (X11_cell σ l1 l4 l6) fun r1 =>
  ag 4800 r1 fun j2 =>
  lt (σ 117 j2) fun l7_3 =>
  ag 287 (((41 * (l3 - 1)) + l6) + 1) fun j4 =>
  lt (σ 119 j4) fun l8_5 =>
  if w32 1000000000 ≤ w32 l7_3 then
    X11_findTails_B121 rec2 rec15 rec44 σ l1 l2 l3 l4 l5 l6
  else
  if w32 1000000000 ≤ w32 l8_5 then
    X11_findTails_B121 rec2 rec15 rec44 σ l1 l2 l3 l4 l5 l6
  else
  if w32 l5 ≤ w32 (l7_3 + l8_5) then
    X11_findTails_B121 rec2 rec15 rec44 σ l1 l2 l3 l4 l5 l6
  else
  X11_findTails_B123 rec2 rec15 rec44 σ l1 l2 l3 l4 l6 (l7_3 + l8_5)
def X11_findTails_L44 (rec2 : Mem → Int → Int → Int → Option (Mem)) (rec15 : Mem → Int → Int → Int → Int → Option (Mem)) : Nat → Mem → Int → Int → Int → Int → Int → Int → Option (Mem)
  | 0 => fun _ _ _ _ _ _ _ => none
  | n + 1 => X11_findTails_B44 rec2 rec15 (X11_findTails_L44 rec2 rec15 n)
def X11_findTails_B38 (rec2 : Mem → Int → Int → Int → Option (Mem)) (rec15 : Mem → Int → Int → Int → Int → Option (Mem)) (σ : Mem) (l1 : Int) (l2 : Int) (l3 : Int) (l4 : Int) (k0 : Int) : Option (Mem) :=
  X11_findTails_L44 rec2 rec15 5000 σ l1 l2 l3 l4 k0 l4
def S_X11_findTails_38 (fn : Mem → Int → Int → Int → Int → Int → Option (Mem)) (p : Program) (l : Launch) (e : Env) (R : Room) (s : State) (m : MethodId) (args : Array Value) (below : List Frame) (meth : Method) (c : Code) (G : GT) (τ : Mem) : Prop := ∀ (σ : Mem) (H : Heap) (locs : List Loc) (ls : Array Slot) (l1 : Int) (l2 : Int) (l3 : Int) (l4 : Int) (k0 : Int), PW G σ H → va_S (AA G) s.heap H locs → fn σ l1 l2 l3 l4 k0 = some τ → lv_has ls 9 [(0, .ref (gh G + 111)), (1, .int (i32 l1)), (2, .int (i32 l2)), (3, .int (i32 l3)), (4, .int (i32 l4))] → W p l e R s m args below meth c H locs 0 0 (MQ below (QM G none τ) args s 0 0 (AA G)) (F0 m 38 ls [.int (i32 k0)])
def X11_findTails_B15 (rec2 : Mem → Int → Int → Int → Option (Mem)) (rec15 : Mem → Int → Int → Int → Int → Option (Mem)) (σ : Mem) (l1 : Int) (l2 : Int) (l3 : Int) (l4 : Int) : Option (Mem) :=
  if w32 (l2 + 1) < w32 l4 then
    lt (l3 + 1) fun l3_1 =>
    rec2 σ l1 l2 l3_1
  else
  if w32 l4 ≠ w32 (l2 + 1) then
    X11_findTails_B38 rec2 rec15 σ l1 l2 l3 l4 1000000000
  else
  X11_findTails_B38 rec2 rec15 σ l1 l2 l3 l4 0
def X11_findTails_L15 (rec2 : Mem → Int → Int → Int → Option (Mem)) : Nat → Mem → Int → Int → Int → Int → Option (Mem)
  | 0 => fun _ _ _ _ _ => none
  | n + 1 => X11_findTails_B15 rec2 (X11_findTails_L15 rec2 n)
def X11_findTails_B2 (rec2 : Mem → Int → Int → Int → Option (Mem)) (σ : Mem) (l1 : Int) (l2 : Int) (l3 : Int) : Option (Mem) :=
  ag 766 1 fun j1 =>
  if w32 (σ 112 j1) < w32 l3 then
    some σ
  else
  X11_findTails_L15 rec2 5000 σ l1 l2 l3 0
def X11_findTails_L2 : Nat → Mem → Int → Int → Int → Option (Mem)
  | 0 => fun _ _ _ _ => none
  | n + 1 => X11_findTails_B2 (X11_findTails_L2 n)
def X11_findTails (σ : Mem) (l1 : Int) (l2 : Int) : Option (Mem) :=
  X11_findTails_L2 5000 σ l1 l2 0
def S_X11_findTails_0 (fn : Mem → Int → Int → Option (Mem)) (p : Program) (l : Launch) (e : Env) (R : Room) (s : State) (m : MethodId) (args : Array Value) (below : List Frame) (meth : Method) (c : Code) (G : GT) (τ : Mem) : Prop := ∀ (σ : Mem) (H : Heap) (locs : List Loc) (ls : Array Slot) (l1 : Int) (l2 : Int), PW G σ H → va_S (AA G) s.heap H locs → fn σ l1 l2 = some τ → lv_has ls 9 [(0, .ref (gh G + 111)), (1, .int (i32 l1)), (2, .int (i32 l2))] → W p l e R s m args below meth c H locs 0 0 (MQ below (QM G none τ) args s 0 0 (AA G)) (F0 m 0 ls [])
set_option maxHeartbeats 4000000 in
theorem a_X11_findTails_131 {p : Program} {l : Launch} {e : Env} {R : Room} {s : State} {m : MethodId} {args : Array Value} {below : List Frame} {meth : Method} {c : Code} {G : GT} {τ : Mem} {rec2 : Mem → Int → Int → Int → Option (Mem)} {rec15 : Mem → Int → Int → Int → Int → Option (Mem)} (X : CX p R s m args meth c cX11_findTails 9 RX11 none 2 82 G) (h2 : S_X11_findTails_2 rec2 p l e R s m args below meth c G τ) (h15 : S_X11_findTails_15 rec15 p l e R s m args below meth c G τ) : S_X11_findTails_131 (X11_findTails_B131 rec2 rec15) p l e R s m args below meth c G τ := by
  intro σ H locs ls l1 l2 l3 l4 l5 hP hS hf hl
  unfold X11_findTails_B131 at hf
  refine lv_aload_n X.1 X.2.1 dX11_findTails_131 rfl (lv_at hl 0 rfl) ?_
  refine g_11_16 (r := 119) X hP ks_11 rfl (tb t_1103 rfl) dX11_findTails_132 ?_
  refine r_bipush X 41 (by decide) dX11_findTails_135 ?_
  refine lv_iload_n X.1 X.2.1 dX11_findTails_137 rfl (lv_at hl 3 rfl) ?_
  refine r_imul X dX11_findTails_138 ?_
  refine lv_iload X.1 X.2.1 dX11_findTails_139 (lv_at hl 4 rfl) ?_
  refine r_iadd X dX11_findTails_141 ?_
  refine lv_iload X.1 X.2.1 dX11_findTails_142 (lv_at hl 5 rfl) ?_
  obtain ⟨j1, hij1, hjj1, hlj1, hf⟩ := ag_inv hf
  refine r_iast X hP hS (ch_11_16 ks_11).1 (ch_11_16 ks_11).2 hij1 hjj1 dX11_findTails_144 (fun H locs hP hS => ?_)
  obtain ⟨s2, es2, hf⟩ := lt_inv hf
  rw [es2] at hP
  obtain ⟨l4_3, el4_3, hf⟩ := lt_inv hf
  refine lv_iinc (v := i32 l4_3) (lv' := [(4, .int (i32 l4_3)), (0, .ref (gh G + 111)), (1, .int (i32 l1)), (2, .int (i32 l2)), (3, .int (i32 l3)), (5, .int (i32 l5))]) X.1 X.2.1 dX11_findTails_145 hl (k := 4) rfl (by rw [← el4_3]; exact i32_add _ _) (by decide) rfl (fun ls hl => ?_)
  refine lv_goto (tgt := 15) X.1 X.2.1 dX11_findTails_148 (by decide) ?_
  exact h15 s2 H locs ls l1 l2 l3 l4_3 hP hS hf (lv_sub hl [1, 2, 3, 4, 0] rfl)
set_option maxHeartbeats 4000000 in
theorem a_X11_findTails_123 {p : Program} {l : Launch} {e : Env} {R : Room} {s : State} {m : MethodId} {args : Array Value} {below : List Frame} {meth : Method} {c : Code} {G : GT} {τ : Mem} {rec2 : Mem → Int → Int → Int → Option (Mem)} {rec15 : Mem → Int → Int → Int → Int → Option (Mem)} {rec44 : Mem → Int → Int → Int → Int → Int → Int → Option (Mem)} (X : CX p R s m args meth c cX11_findTails 9 RX11 none 2 82 G) (h2 : S_X11_findTails_2 rec2 p l e R s m args below meth c G τ) (h15 : S_X11_findTails_15 rec15 p l e R s m args below meth c G τ) (h44 : S_X11_findTails_44 rec44 p l e R s m args below meth c G τ) : S_X11_findTails_123 (X11_findTails_B123 rec2 rec15 rec44) p l e R s m args below meth c G τ := by
  intro σ H locs ls l1 l2 l3 l4 l6 k0 hP hS hf hl
  unfold X11_findTails_B123 at hf
  refine lv_istore (lv' := [(5, .int (i32 k0)), (0, .ref (gh G + 111)), (1, .int (i32 l1)), (2, .int (i32 l2)), (3, .int (i32 l3)), (4, .int (i32 l4)), (6, .int (i32 l6))]) X.1 X.2.1 dX11_findTails_123 hl (by decide) rfl (fun ls hl => ?_)
  obtain ⟨l6_1, el6_1, hf⟩ := lt_inv hf
  refine lv_iinc (v := i32 l6_1) (lv' := [(6, .int (i32 l6_1)), (5, .int (i32 k0)), (0, .ref (gh G + 111)), (1, .int (i32 l1)), (2, .int (i32 l2)), (3, .int (i32 l3)), (4, .int (i32 l4))]) X.1 X.2.1 dX11_findTails_125 hl (k := 6) rfl (by rw [← el6_1]; exact i32_add _ _) (by decide) rfl (fun ls hl => ?_)
  refine lv_goto (tgt := 44) X.1 X.2.1 dX11_findTails_128 (by decide) ?_
  exact h44 σ H locs ls l1 l2 l3 l4 k0 l6_1 hP hS hf (lv_sub hl [2, 3, 4, 5, 6, 1, 0] rfl)
set_option maxHeartbeats 4000000 in
theorem a_X11_findTails_121 {p : Program} {l : Launch} {e : Env} {R : Room} {s : State} {m : MethodId} {args : Array Value} {below : List Frame} {meth : Method} {c : Code} {G : GT} {τ : Mem} {rec2 : Mem → Int → Int → Int → Option (Mem)} {rec15 : Mem → Int → Int → Int → Int → Option (Mem)} {rec44 : Mem → Int → Int → Int → Int → Int → Int → Option (Mem)} (X : CX p R s m args meth c cX11_findTails 9 RX11 none 2 82 G) (h2 : S_X11_findTails_2 rec2 p l e R s m args below meth c G τ) (h15 : S_X11_findTails_15 rec15 p l e R s m args below meth c G τ) (h44 : S_X11_findTails_44 rec44 p l e R s m args below meth c G τ) : S_X11_findTails_121 (X11_findTails_B121 rec2 rec15 rec44) p l e R s m args below meth c G τ := by
  intro σ H locs ls l1 l2 l3 l4 l5 l6 hP hS hf hl
  unfold X11_findTails_B121 at hf
  refine lv_iload X.1 X.2.1 dX11_findTails_121 (lv_at hl 5 rfl) ?_
  exact a_X11_findTails_123 X h2 h15 h44 σ H locs ls l1 l2 l3 l4 l6 l5 hP hS hf (lv_sub hl [0, 1, 2, 3, 4, 6] rfl)
set_option maxHeartbeats 4000000 in
theorem a_X11_findTails_44 {p : Program} {l : Launch} {e : Env} {R : Room} {s : State} {m : MethodId} {args : Array Value} {below : List Frame} {meth : Method} {c : Code} {G : GT} {τ : Mem} {rec2 : Mem → Int → Int → Int → Option (Mem)} {rec15 : Mem → Int → Int → Int → Int → Option (Mem)} {rec44 : Mem → Int → Int → Int → Int → Int → Int → Option (Mem)} (X : CX p R s m args meth c cX11_findTails 9 RX11 none 2 82 G) (h2 : S_X11_findTails_2 rec2 p l e R s m args below meth c G τ) (h15 : S_X11_findTails_15 rec15 p l e R s m args below meth c G τ) (h44 : S_X11_findTails_44 rec44 p l e R s m args below meth c G τ) : S_X11_findTails_44 (X11_findTails_B44 rec2 rec15 rec44) p l e R s m args below meth c G τ := by
  intro σ H locs ls l1 l2 l3 l4 l5 l6 hP hS hf hl
  unfold X11_findTails_B44 at hf
  refine lv_iload X.1 X.2.1 dX11_findTails_44 (lv_at hl 6 rfl) ?_
  refine lv_iload_n X.1 X.2.1 dX11_findTails_46 rfl (lv_at hl 2 rfl) ?_
  refine r_icmp_gt (tgt := 131) X dX11_findTails_47 (by decide) (fun q => ?_) (fun q => ?_)
  · replace hf := it_inv q hf
    exact a_X11_findTails_131 X h2 h15 σ H locs ls l1 l2 l3 l4 l5 hP hS hf (lv_sub hl [0, 1, 2, 3, 4, 5] rfl)
  · replace hf := ie_inv q hf
    refine lv_iload_n X.1 X.2.1 dX11_findTails_50 rfl (lv_at hl 3 rfl) ?_
    refine r_if_le (tgt := 131) X dX11_findTails_51 (by decide) (fun q => ?_) (fun q => ?_)
    · replace hf := it_inv q hf
      exact a_X11_findTails_131 X h2 h15 σ H locs ls l1 l2 l3 l4 l5 hP hS hf (lv_sub hl [0, 1, 2, 3, 4, 5] rfl)
    · replace hf := ie_inv q hf
      refine lv_aload_n X.1 X.2.1 dX11_findTails_54 rfl (lv_at hl 0 rfl) ?_
      refine g_11_14 (r := 117) X hP ks_11 rfl (tb t_1101 rfl) dX11_findTails_55 ?_
      refine lv_iload_n X.1 X.2.1 dX11_findTails_58 rfl (lv_at hl 1 rfl) ?_
      refine lv_iload X.1 X.2.1 dX11_findTails_59 (lv_at hl 4 rfl) ?_
      refine lv_iload X.1 X.2.1 dX11_findTails_61 (lv_at hl 6 rfl) ?_
      obtain ⟨r1, hr1, hf⟩ := bd_inv hf
      refine k_X11_cell X hP hS hl.1  hr1 (tb t_1381 rfl) (by decide) (Nat.le_of_ble_eq_true rfl) dX11_findTails_63 (fun H locs hP hS => ?_)
      obtain ⟨j2, hij2, hjj2, hlj2, hf⟩ := ag_inv hf
      refine r_iald X hP (ch_11_14 ks_11).1 (ch_11_14 ks_11).2 hij2 hjj2 dX11_findTails_66 ?_
      obtain ⟨l7_3, el7_3, hf⟩ := lt_inv hf
      refine r_eqi el7_3 ?_
      refine lv_istore (lv' := [(7, .int (i32 l7_3)), (0, .ref (gh G + 111)), (1, .int (i32 l1)), (2, .int (i32 l2)), (3, .int (i32 l3)), (4, .int (i32 l4)), (5, .int (i32 l5)), (6, .int (i32 l6))]) X.1 X.2.1 dX11_findTails_67 hl (by decide) rfl (fun ls hl => ?_)
      refine lv_aload_n X.1 X.2.1 dX11_findTails_69 rfl (lv_at hl 1 rfl) ?_
      refine g_11_16 (r := 119) X hP ks_11 rfl (tb t_1103 rfl) dX11_findTails_70 ?_
      refine r_bipush X 41 (by decide) dX11_findTails_73 ?_
      refine lv_iload_n X.1 X.2.1 dX11_findTails_75 rfl (lv_at hl 4 rfl) ?_
      refine r_iconst X 1 dX11_findTails_76 ?_
      refine r_isub X dX11_findTails_77 ?_
      refine r_imul X dX11_findTails_78 ?_
      refine lv_iload X.1 X.2.1 dX11_findTails_79 (lv_at hl 7 rfl) ?_
      refine r_iadd X dX11_findTails_81 ?_
      refine r_iconst X 1 dX11_findTails_82 ?_
      refine r_iadd X dX11_findTails_83 ?_
      obtain ⟨j4, hij4, hjj4, hlj4, hf⟩ := ag_inv hf
      refine r_iald X hP (ch_11_16 ks_11).1 (ch_11_16 ks_11).2 hij4 hjj4 dX11_findTails_84 ?_
      obtain ⟨l8_5, el8_5, hf⟩ := lt_inv hf
      refine r_eqi el8_5 ?_
      refine lv_istore (lv' := [(8, .int (i32 l8_5)), (7, .int (i32 l7_3)), (0, .ref (gh G + 111)), (1, .int (i32 l1)), (2, .int (i32 l2)), (3, .int (i32 l3)), (4, .int (i32 l4)), (5, .int (i32 l5)), (6, .int (i32 l6))]) X.1 X.2.1 dX11_findTails_85 hl (by decide) rfl (fun ls hl => ?_)
      refine lv_iload X.1 X.2.1 dX11_findTails_87 (lv_at hl 1 rfl) ?_
      refine r_ldcw X 1000000000 (tb t_1384 rfl) (by decide) dX11_findTails_89 ?_
      refine r_icmp_ge (tgt := 121) X dX11_findTails_92 (by decide) (fun q => ?_) (fun q => ?_)
      · replace hf := it_inv q hf
        exact a_X11_findTails_121 X h2 h15 h44 σ H locs ls l1 l2 l3 l4 l5 l6 hP hS hf (lv_sub hl [2, 3, 4, 5, 6, 7, 8] rfl)
      · replace hf := ie_inv q hf
        refine lv_iload X.1 X.2.1 dX11_findTails_95 (lv_at hl 0 rfl) ?_
        refine r_ldcw X 1000000000 (tb t_1384 rfl) (by decide) dX11_findTails_97 ?_
        refine r_icmp_ge (tgt := 121) X dX11_findTails_100 (by decide) (fun q => ?_) (fun q => ?_)
        · replace hf := it_inv q hf
          exact a_X11_findTails_121 X h2 h15 h44 σ H locs ls l1 l2 l3 l4 l5 l6 hP hS hf (lv_sub hl [2, 3, 4, 5, 6, 7, 8] rfl)
        · replace hf := ie_inv q hf
          refine lv_iload X.1 X.2.1 dX11_findTails_103 (lv_at hl 1 rfl) ?_
          refine lv_iload X.1 X.2.1 dX11_findTails_105 (lv_at hl 0 rfl) ?_
          refine r_iadd X dX11_findTails_107 ?_
          refine lv_iload X.1 X.2.1 dX11_findTails_108 (lv_at hl 7 rfl) ?_
          refine r_icmp_ge (tgt := 121) X dX11_findTails_110 (by decide) (fun q => ?_) (fun q => ?_)
          · replace hf := it_inv q hf
            exact a_X11_findTails_121 X h2 h15 h44 σ H locs ls l1 l2 l3 l4 l5 l6 hP hS hf (lv_sub hl [2, 3, 4, 5, 6, 7, 8] rfl)
          · replace hf := ie_inv q hf
            refine lv_iload X.1 X.2.1 dX11_findTails_113 (lv_at hl 1 rfl) ?_
            refine lv_iload X.1 X.2.1 dX11_findTails_115 (lv_at hl 0 rfl) ?_
            refine r_iadd X dX11_findTails_117 ?_
            refine lv_goto (tgt := 123) X.1 X.2.1 dX11_findTails_118 (by decide) ?_
            exact a_X11_findTails_123 X h2 h15 h44 σ H locs ls l1 l2 l3 l4 l6 (l7_3 + l8_5) hP hS hf (lv_sub hl [2, 3, 4, 5, 6, 8] rfl)
theorem al_X11_findTails_44 {p : Program} {l : Launch} {e : Env} {R : Room} {s : State} {m : MethodId} {args : Array Value} {below : List Frame} {meth : Method} {c : Code} {G : GT} {τ : Mem} {rec2 : Mem → Int → Int → Int → Option (Mem)} {rec15 : Mem → Int → Int → Int → Int → Option (Mem)} (X : CX p R s m args meth c cX11_findTails 9 RX11 none 2 82 G) (h2 : S_X11_findTails_2 rec2 p l e R s m args below meth c G τ) (h15 : S_X11_findTails_15 rec15 p l e R s m args below meth c G τ) : ∀ n, S_X11_findTails_44 (X11_findTails_L44 rec2 rec15 n) p l e R s m args below meth c G τ := by
  intro n
  induction n with
  | zero =>
    intro σ H locs ls l1 l2 l3 l4 l5 l6 hP hS hf hl
    cases hf
  | succ n ih => exact a_X11_findTails_44 X h2 h15 ih
set_option maxHeartbeats 4000000 in
theorem a_X11_findTails_38 {p : Program} {l : Launch} {e : Env} {R : Room} {s : State} {m : MethodId} {args : Array Value} {below : List Frame} {meth : Method} {c : Code} {G : GT} {τ : Mem} {rec2 : Mem → Int → Int → Int → Option (Mem)} {rec15 : Mem → Int → Int → Int → Int → Option (Mem)} (X : CX p R s m args meth c cX11_findTails 9 RX11 none 2 82 G) (h2 : S_X11_findTails_2 rec2 p l e R s m args below meth c G τ) (h15 : S_X11_findTails_15 rec15 p l e R s m args below meth c G τ) : S_X11_findTails_38 (X11_findTails_B38 rec2 rec15) p l e R s m args below meth c G τ := by
  intro σ H locs ls l1 l2 l3 l4 k0 hP hS hf hl
  unfold X11_findTails_B38 at hf
  refine lv_istore (lv' := [(5, .int (i32 k0)), (0, .ref (gh G + 111)), (1, .int (i32 l1)), (2, .int (i32 l2)), (3, .int (i32 l3)), (4, .int (i32 l4))]) X.1 X.2.1 dX11_findTails_38 hl (by decide) rfl (fun ls hl => ?_)
  refine lv_iload X.1 X.2.1 dX11_findTails_40 (lv_at hl 5 rfl) ?_
  refine lv_istore (lv' := [(6, .int (i32 l4)), (5, .int (i32 k0)), (0, .ref (gh G + 111)), (1, .int (i32 l1)), (2, .int (i32 l2)), (3, .int (i32 l3)), (4, .int (i32 l4))]) X.1 X.2.1 dX11_findTails_42 hl (by decide) rfl (fun ls hl => ?_)
  exact al_X11_findTails_44 X h2 h15 5000 σ H locs ls l1 l2 l3 l4 k0 l4 hP hS hf (lv_sub hl [2, 3, 4, 5, 6, 1, 0] rfl)
set_option maxHeartbeats 4000000 in
theorem a_X11_findTails_15 {p : Program} {l : Launch} {e : Env} {R : Room} {s : State} {m : MethodId} {args : Array Value} {below : List Frame} {meth : Method} {c : Code} {G : GT} {τ : Mem} {rec2 : Mem → Int → Int → Int → Option (Mem)} {rec15 : Mem → Int → Int → Int → Int → Option (Mem)} (X : CX p R s m args meth c cX11_findTails 9 RX11 none 2 82 G) (h2 : S_X11_findTails_2 rec2 p l e R s m args below meth c G τ) (h15 : S_X11_findTails_15 rec15 p l e R s m args below meth c G τ) : S_X11_findTails_15 (X11_findTails_B15 rec2 rec15) p l e R s m args below meth c G τ := by
  intro σ H locs ls l1 l2 l3 l4 hP hS hf hl
  unfold X11_findTails_B15 at hf
  refine lv_iload X.1 X.2.1 dX11_findTails_15 (lv_at hl 4 rfl) ?_
  refine lv_iload_n X.1 X.2.1 dX11_findTails_17 rfl (lv_at hl 2 rfl) ?_
  refine r_iconst X 1 dX11_findTails_18 ?_
  refine r_iadd X dX11_findTails_19 ?_
  refine r_icmp_gt (tgt := 151) X dX11_findTails_20 (by decide) (fun q => ?_) (fun q => ?_)
  · replace hf := it_inv q hf
    obtain ⟨l3_1, el3_1, hf⟩ := lt_inv hf
    refine lv_iinc (v := i32 l3_1) (lv' := [(3, .int (i32 l3_1)), (0, .ref (gh G + 111)), (1, .int (i32 l1)), (2, .int (i32 l2)), (4, .int (i32 l4))]) X.1 X.2.1 dX11_findTails_151 hl (k := 3) rfl (by rw [← el3_1]; exact i32_add _ _) (by decide) rfl (fun ls hl => ?_)
    refine lv_goto (tgt := 2) X.1 X.2.1 dX11_findTails_154 (by decide) ?_
    exact h2 σ H locs ls l1 l2 l3_1 hP hS hf (lv_sub hl [1, 2, 3, 0] rfl)
  · replace hf := ie_inv q hf
    refine lv_iload X.1 X.2.1 dX11_findTails_23 (lv_at hl 4 rfl) ?_
    refine lv_iload_n X.1 X.2.1 dX11_findTails_25 rfl (lv_at hl 2 rfl) ?_
    refine r_iconst X 1 dX11_findTails_26 ?_
    refine r_iadd X dX11_findTails_27 ?_
    refine r_icmp_ne (tgt := 35) X dX11_findTails_28 (by decide) (fun q => ?_) (fun q => ?_)
    · replace hf := it_inv q hf
      refine r_ldcw X 1000000000 (tb t_1384 rfl) (by decide) dX11_findTails_35 ?_
      exact a_X11_findTails_38 X h2 h15 σ H locs ls l1 l2 l3 l4 1000000000 hP hS hf hl
    · replace hf := ie_inv q hf
      refine r_iconst X 0 dX11_findTails_31 ?_
      refine lv_goto (tgt := 38) X.1 X.2.1 dX11_findTails_32 (by decide) ?_
      exact a_X11_findTails_38 X h2 h15 σ H locs ls l1 l2 l3 l4 0 hP hS hf hl
theorem al_X11_findTails_15 {p : Program} {l : Launch} {e : Env} {R : Room} {s : State} {m : MethodId} {args : Array Value} {below : List Frame} {meth : Method} {c : Code} {G : GT} {τ : Mem} {rec2 : Mem → Int → Int → Int → Option (Mem)} (X : CX p R s m args meth c cX11_findTails 9 RX11 none 2 82 G) (h2 : S_X11_findTails_2 rec2 p l e R s m args below meth c G τ) : ∀ n, S_X11_findTails_15 (X11_findTails_L15 rec2 n) p l e R s m args below meth c G τ := by
  intro n
  induction n with
  | zero =>
    intro σ H locs ls l1 l2 l3 l4 hP hS hf hl
    cases hf
  | succ n ih => exact a_X11_findTails_15 X h2 ih
set_option maxHeartbeats 4000000 in
theorem a_X11_findTails_2 {p : Program} {l : Launch} {e : Env} {R : Room} {s : State} {m : MethodId} {args : Array Value} {below : List Frame} {meth : Method} {c : Code} {G : GT} {τ : Mem} {rec2 : Mem → Int → Int → Int → Option (Mem)} (X : CX p R s m args meth c cX11_findTails 9 RX11 none 2 82 G) (h2 : S_X11_findTails_2 rec2 p l e R s m args below meth c G τ) : S_X11_findTails_2 (X11_findTails_B2 rec2) p l e R s m args below meth c G τ := by
  intro σ H locs ls l1 l2 l3 hP hS hf hl
  unfold X11_findTails_B2 at hf
  refine lv_iload_n X.1 X.2.1 dX11_findTails_2 rfl (lv_at hl 3 rfl) ?_
  refine lv_aload_n X.1 X.2.1 dX11_findTails_3 rfl (lv_at hl 0 rfl) ?_
  refine g_11_0 (r := 112) X hP ks_11 rfl (tb t_1087 rfl) dX11_findTails_4 ?_
  refine r_iconst X 1 dX11_findTails_7 ?_
  obtain ⟨j1, hij1, hjj1, hlj1, hf⟩ := ag_inv hf
  refine r_iald X hP (ch_11_0 ks_11).1 (ch_11_0 ks_11).2 hij1 hjj1 dX11_findTails_8 ?_
  refine r_icmp_gt (tgt := 157) X dX11_findTails_9 (by decide) (fun q => ?_) (fun q => ?_)
  · replace hf := it_inv q hf
    cases so_inv hf
    exact r_vret X hP hS dX11_findTails_157
  · replace hf := ie_inv q hf
    refine r_iconst X 0 dX11_findTails_12 ?_
    refine lv_istore (lv' := [(4, .int (i32 0)), (0, .ref (gh G + 111)), (1, .int (i32 l1)), (2, .int (i32 l2)), (3, .int (i32 l3))]) X.1 X.2.1 dX11_findTails_13 hl (by decide) rfl (fun ls hl => ?_)
    exact al_X11_findTails_15 X h2 5000 σ H locs ls l1 l2 l3 0 hP hS hf (lv_sub hl [1, 2, 3, 4, 0] rfl)
theorem al_X11_findTails_2 {p : Program} {l : Launch} {e : Env} {R : Room} {s : State} {m : MethodId} {args : Array Value} {below : List Frame} {meth : Method} {c : Code} {G : GT} {τ : Mem} (X : CX p R s m args meth c cX11_findTails 9 RX11 none 2 82 G) : ∀ n, S_X11_findTails_2 (X11_findTails_L2 n) p l e R s m args below meth c G τ := by
  intro n
  induction n with
  | zero =>
    intro σ H locs ls l1 l2 l3 hP hS hf hl
    cases hf
  | succ n ih => exact a_X11_findTails_2 X ih
set_option maxHeartbeats 4000000 in
theorem a_X11_findTails_0 {p : Program} {l : Launch} {e : Env} {R : Room} {s : State} {m : MethodId} {args : Array Value} {below : List Frame} {meth : Method} {c : Code} {G : GT} {τ : Mem} (X : CX p R s m args meth c cX11_findTails 9 RX11 none 2 82 G) : S_X11_findTails_0 (X11_findTails) p l e R s m args below meth c G τ := by
  intro σ H locs ls l1 l2 hP hS hf hl
  unfold X11_findTails at hf
  refine r_iconst X 0 dX11_findTails_0 ?_
  refine lv_istore_n (lv' := [(3, .int (i32 0)), (0, .ref (gh G + 111)), (1, .int (i32 l1)), (2, .int (i32 l2))]) X.1 X.2.1 dX11_findTails_1 rfl hl (by decide) rfl (fun ls hl => ?_)
  exact al_X11_findTails_2 X 5000 σ H locs ls l1 l2 0 hP hS hf (lv_sub hl [1, 2, 3, 0] rfl)
set_option maxHeartbeats 4000000 in
theorem c_X11_findTails {l : Launch} {G : GT} {σ τ : Mem} {l1 : Int} {l2 : Int} (hf : X11_findTails σ l1 l2 = some τ) : CT l yX11_findTails cX11_findTails 9 none 2 82 G [.ref (gh G + 111), .int (i32 l1), .int (i32 l2)] σ τ none := by
  refine CT.mk (own := RX11) (by decide) rfl (Nat.le_of_ble_eq_true rfl) ?_
  intro p e s m below meth c ls X hP hS hl
  have hl : lv_has ls 9 [(0, .ref (gh G + 111)), (1, .int (i32 l1)), (2, .int (i32 l2))] := hl
  exact a_X11_findTails_0 X σ s.heap [] ls l1 l2 hP hS hf hl
theorem k_X11_findTails {p : Program} {l : Launch} {e : Env} {R : Room} {s : State} {m : MethodId} {args : Array Value} {below : List Frame} {meth : Method} {c : Code} {H : Heap} {locs : List Loc} {Q : State → Prop} {cc : ByteArray} {nL : Nat} {own : String} {ret : Option FieldType} {fF fL : Nat} {G : GT} {pc idx : Nat} {ls : Array Slot} {rest : List Value} {σ τ : Mem} {l1 : Int} {l2 : Int} (X : CX p R s m args meth c cc nL own ret fF fL G) (hP : PW G σ H) (hS : va_S (AA G) s.heap H locs) (hls : ls.size = nL) (hf : X11_findTails σ l1 l2 = some τ) (h1 : Cond.methodLink own idx yX11_findTails ∈ TB) (hR : 2 + 1 ≤ fF ∧ 8 + (9 + 11) + 82 ≤ fL) (hW : (rest.map fun v => v.category).sum ≤ 8) (hd : decode cc pc = .ok (.invokevirtual idx, 3)) (kk : ∀ (H1 : Heap) (locs1 : List Loc), PW G τ H1 → va_S (AA G) s.heap H1 locs1 → W p l e R s m args below meth c H1 locs1 0 0 Q (F0 m (pc + 3) ls (rest))) : W p l e R s m args below meth c H locs 0 0 Q (F0 m pc ls (.int (i32 l2) :: .int (i32 l1) :: .ref (gh G + 111) :: rest)) := r_callV (n := 2) X hP hS hls (c_X11_findTails hf) h1 (tb t_1387 rfl) (tb t_56 rfl) (tb t_87 rfl) (tb t_1388 rfl) (by decide +kernel) hR (r_recv X hP (kd_lt ks_11 (by decide)) (cE_11 ks_11) rfl) rfl rfl hW hd kk
/-! X11_findPages -/
theorem dX11_findPages_0 : decode cX11_findPages 0 = .ok (.aload_n 0, 1) := by decide +kernel
theorem dX11_findPages_1 : decode cX11_findPages 1 = .ok (.iload_n 1, 1) := by decide +kernel
theorem dX11_findPages_2 : decode cX11_findPages 2 = .ok (.invokevirtual 101, 3) := by decide +kernel
theorem dX11_findPages_5 : decode cX11_findPages 5 = .ok (.istore_n 2, 1) := by decide +kernel
theorem dX11_findPages_6 : decode cX11_findPages 6 = .ok (.iconst 0, 1) := by decide +kernel
theorem dX11_findPages_7 : decode cX11_findPages 7 = .ok (.istore_n 3, 1) := by decide +kernel
theorem dX11_findPages_8 : decode cX11_findPages 8 = .ok (.iload_n 3, 1) := by decide +kernel
theorem dX11_findPages_9 : decode cX11_findPages 9 = .ok (.iconst 3, 1) := by decide +kernel
theorem dX11_findPages_10 : decode cX11_findPages 10 = .ok (.if_icmp .ge 83, 3) := by decide +kernel
theorem dX11_findPages_13 : decode cX11_findPages 13 = .ok (.aload_n 0, 1) := by decide +kernel
theorem dX11_findPages_14 : decode cX11_findPages 14 = .ok (.iload_n 1, 1) := by decide +kernel
theorem dX11_findPages_15 : decode cX11_findPages 15 = .ok (.iload_n 3, 1) := by decide +kernel
theorem dX11_findPages_16 : decode cX11_findPages 16 = .ok (.invokevirtual 259, 3) := by decide +kernel
theorem dX11_findPages_19 : decode cX11_findPages 19 = .ok (.iconst 0, 1) := by decide +kernel
theorem dX11_findPages_20 : decode cX11_findPages 20 = .ok (.istore 4, 2) := by decide +kernel
theorem dX11_findPages_22 : decode cX11_findPages 22 = .ok (.iload 4, 2) := by decide +kernel
theorem dX11_findPages_24 : decode cX11_findPages 24 = .ok (.iload_n 2, 1) := by decide +kernel
theorem dX11_findPages_25 : decode cX11_findPages 25 = .ok (.if_icmp .ge 62, 3) := by decide +kernel
theorem dX11_findPages_28 : decode cX11_findPages 28 = .ok (.aload_n 0, 1) := by decide +kernel
theorem dX11_findPages_29 : decode cX11_findPages 29 = .ok (.iload_n 3, 1) := by decide +kernel
theorem dX11_findPages_30 : decode cX11_findPages 30 = .ok (.iload 4, 2) := by decide +kernel
theorem dX11_findPages_32 : decode cX11_findPages 32 = .ok (.invokevirtual 263, 3) := by decide +kernel
theorem dX11_findPages_35 : decode cX11_findPages 35 = .ok (.iconst 0, 1) := by decide +kernel
theorem dX11_findPages_36 : decode cX11_findPages 36 = .ok (.istore 5, 2) := by decide +kernel
theorem dX11_findPages_38 : decode cX11_findPages 38 = .ok (.iload 5, 2) := by decide +kernel
theorem dX11_findPages_40 : decode cX11_findPages 40 = .ok (.iload 4, 2) := by decide +kernel
theorem dX11_findPages_42 : decode cX11_findPages 42 = .ok (.if_icmp .gt 39, 3) := by decide +kernel
theorem dX11_findPages_45 : decode cX11_findPages 45 = .ok (.aload_n 0, 1) := by decide +kernel
theorem dX11_findPages_46 : decode cX11_findPages 46 = .ok (.getfield 28, 3) := by decide +kernel
theorem dX11_findPages_49 : decode cX11_findPages 49 = .ok (.iload_n 3, 1) := by decide +kernel
theorem dX11_findPages_50 : decode cX11_findPages 50 = .ok (.iload 5, 2) := by decide +kernel
theorem dX11_findPages_52 : decode cX11_findPages 52 = .ok (.iload 4, 2) := by decide +kernel
theorem dX11_findPages_54 : decode cX11_findPages 54 = .ok (.invokestatic 255, 3) := by decide +kernel
theorem dX11_findPages_57 : decode cX11_findPages 57 = .ok (.aload_n 0, 1) := by decide +kernel
theorem dX11_findPages_58 : decode cX11_findPages 58 = .ok (.getfield 31, 3) := by decide +kernel
theorem dX11_findPages_61 : decode cX11_findPages 61 = .ok (.bipush 41, 2) := by decide +kernel
theorem dX11_findPages_63 : decode cX11_findPages 63 = .ok (.aload_n 0, 1) := by decide +kernel
theorem dX11_findPages_64 : decode cX11_findPages 64 = .ok (.getfield 9, 3) := by decide +kernel
theorem dX11_findPages_67 : decode cX11_findPages 67 = .ok (.iconst 1, 1) := by decide +kernel
theorem dX11_findPages_68 : decode cX11_findPages 68 = .ok (.iaload, 1) := by decide +kernel
theorem dX11_findPages_69 : decode cX11_findPages 69 = .ok (.imul, 1) := by decide +kernel
theorem dX11_findPages_70 : decode cX11_findPages 70 = .ok (.iload 5, 2) := by decide +kernel
theorem dX11_findPages_72 : decode cX11_findPages 72 = .ok (.iadd, 1) := by decide +kernel
theorem dX11_findPages_73 : decode cX11_findPages 73 = .ok (.iaload, 1) := by decide +kernel
theorem dX11_findPages_74 : decode cX11_findPages 74 = .ok (.iastore, 1) := by decide +kernel
theorem dX11_findPages_75 : decode cX11_findPages 75 = .ok (.iinc 5 1, 3) := by decide +kernel
theorem dX11_findPages_78 : decode cX11_findPages 78 = .ok (.goto (-40), 3) := by decide +kernel
theorem dX11_findPages_81 : decode cX11_findPages 81 = .ok (.iinc 4 1, 3) := by decide +kernel
theorem dX11_findPages_84 : decode cX11_findPages 84 = .ok (.goto (-62), 3) := by decide +kernel
theorem dX11_findPages_87 : decode cX11_findPages 87 = .ok (.iinc 3 1, 3) := by decide +kernel
theorem dX11_findPages_90 : decode cX11_findPages 90 = .ok (.goto (-82), 3) := by decide +kernel
theorem dX11_findPages_93 : decode cX11_findPages 93 = .ok (.return_, 1) := by decide +kernel
def S_X11_findPages_8 (fn : Mem → Int → Int → Int → Option (Mem)) (p : Program) (l : Launch) (e : Env) (R : Room) (s : State) (m : MethodId) (args : Array Value) (below : List Frame) (meth : Method) (c : Code) (G : GT) (τ : Mem) : Prop := ∀ (σ : Mem) (H : Heap) (locs : List Loc) (ls : Array Slot) (l1 : Int) (l2 : Int) (l3 : Int), PW G σ H → va_S (AA G) s.heap H locs → fn σ l1 l2 l3 = some τ → lv_has ls 6 [(0, .ref (gh G + 111)), (1, .int (i32 l1)), (2, .int (i32 l2)), (3, .int (i32 l3))] → W p l e R s m args below meth c H locs 0 0 (MQ below (QM G none τ) args s 0 0 (AA G)) (F0 m 8 ls [])
def S_X11_findPages_22 (fn : Mem → Int → Int → Int → Int → Option (Mem)) (p : Program) (l : Launch) (e : Env) (R : Room) (s : State) (m : MethodId) (args : Array Value) (below : List Frame) (meth : Method) (c : Code) (G : GT) (τ : Mem) : Prop := ∀ (σ : Mem) (H : Heap) (locs : List Loc) (ls : Array Slot) (l1 : Int) (l2 : Int) (l3 : Int) (l4 : Int), PW G σ H → va_S (AA G) s.heap H locs → fn σ l1 l2 l3 l4 = some τ → lv_has ls 6 [(0, .ref (gh G + 111)), (1, .int (i32 l1)), (2, .int (i32 l2)), (3, .int (i32 l3)), (4, .int (i32 l4))] → W p l e R s m args below meth c H locs 0 0 (MQ below (QM G none τ) args s 0 0 (AA G)) (F0 m 22 ls [])
def S_X11_findPages_38 (fn : Mem → Int → Int → Int → Int → Int → Option (Mem)) (p : Program) (l : Launch) (e : Env) (R : Room) (s : State) (m : MethodId) (args : Array Value) (below : List Frame) (meth : Method) (c : Code) (G : GT) (τ : Mem) : Prop := ∀ (σ : Mem) (H : Heap) (locs : List Loc) (ls : Array Slot) (l1 : Int) (l2 : Int) (l3 : Int) (l4 : Int) (l5 : Int), PW G σ H → va_S (AA G) s.heap H locs → fn σ l1 l2 l3 l4 l5 = some τ → lv_has ls 6 [(0, .ref (gh G + 111)), (1, .int (i32 l1)), (2, .int (i32 l2)), (3, .int (i32 l3)), (4, .int (i32 l4)), (5, .int (i32 l5))] → W p l e R s m args below meth c H locs 0 0 (MQ below (QM G none τ) args s 0 0 (AA G)) (F0 m 38 ls [])
def X11_findPages_B38 (rec8 : Mem → Int → Int → Int → Option (Mem)) (rec22 : Mem → Int → Int → Int → Int → Option (Mem)) (rec38 : Mem → Int → Int → Int → Int → Int → Option (Mem)) (σ : Mem) (l1 : Int) (l2 : Int) (l3 : Int) (l4 : Int) (l5 : Int) : Option (Mem) :=
  if w32 l4 < w32 l5 then
    lt (l4 + 1) fun l4_1 =>
    rec22 σ l1 l2 l3 l4_1
  else
  bd (X11_cell σ l3 l5 l4) fun r2 =>
  ag 766 1 fun j3 =>
  ag 287 ((41 * (σ 112 j3)) + l5) fun j4 =>
  ag 4800 r2 fun j5 =>
  lt (st σ 118 j5 (σ 119 j4)) fun s6 =>
  lt (l5 + 1) fun l5_7 =>
  rec38 s6 l1 l2 l3 l4 l5_7
def X11_findPages_L38 (rec8 : Mem → Int → Int → Int → Option (Mem)) (rec22 : Mem → Int → Int → Int → Int → Option (Mem)) : Nat → Mem → Int → Int → Int → Int → Int → Option (Mem)
  | 0 => fun _ _ _ _ _ _ => none
  | n + 1 => X11_findPages_B38 rec8 rec22 (X11_findPages_L38 rec8 rec22 n)
def X11_findPages_B22 (rec8 : Mem → Int → Int → Int → Option (Mem)) (rec22 : Mem → Int → Int → Int → Int → Option (Mem)) (σ : Mem) (l1 : Int) (l2 : Int) (l3 : Int) (l4 : Int) : Option (Mem) :=
  if w32 l2 ≤ w32 l4 then
    lt (l3 + 1) fun l3_1 =>
    rec8 σ l1 l2 l3_1
  else
  bd (X11_findTails σ l3 l4) fun s3 =>
  X11_findPages_L38 rec8 rec22 5000 s3 l1 l2 l3 l4 0
def X11_findPages_L22 (rec8 : Mem → Int → Int → Int → Option (Mem)) : Nat → Mem → Int → Int → Int → Int → Option (Mem)
  | 0 => fun _ _ _ _ _ => none
  | n + 1 => X11_findPages_B22 rec8 (X11_findPages_L22 rec8 n)
def X11_findPages_B8 (rec8 : Mem → Int → Int → Int → Option (Mem)) (σ : Mem) (l1 : Int) (l2 : Int) (l3 : Int) : Option (Mem) :=
  if w32 3 ≤ w32 l3 then
    some σ
  else
  bd (X11_findLines σ l1 l3) fun s2 =>
  X11_findPages_L22 rec8 5000 s2 l1 l2 l3 0
def X11_findPages_L8 : Nat → Mem → Int → Int → Int → Option (Mem)
  | 0 => fun _ _ _ _ => none
  | n + 1 => X11_findPages_B8 (X11_findPages_L8 n)
def X11_findPages (σ : Mem) (l1 : Int) : Option (Mem) :=
  bd (X11_bars σ l1) fun r1 =>
  X11_findPages_L8 5000 σ l1 r1 0
def S_X11_findPages_0 (fn : Mem → Int → Option (Mem)) (p : Program) (l : Launch) (e : Env) (R : Room) (s : State) (m : MethodId) (args : Array Value) (below : List Frame) (meth : Method) (c : Code) (G : GT) (τ : Mem) : Prop := ∀ (σ : Mem) (H : Heap) (locs : List Loc) (ls : Array Slot) (l1 : Int), PW G σ H → va_S (AA G) s.heap H locs → fn σ l1 = some τ → lv_has ls 6 [(0, .ref (gh G + 111)), (1, .int (i32 l1))] → W p l e R s m args below meth c H locs 0 0 (MQ below (QM G none τ) args s 0 0 (AA G)) (F0 m 0 ls [])
set_option maxHeartbeats 4000000 in
theorem a_X11_findPages_38 {p : Program} {l : Launch} {e : Env} {R : Room} {s : State} {m : MethodId} {args : Array Value} {below : List Frame} {meth : Method} {c : Code} {G : GT} {τ : Mem} {rec8 : Mem → Int → Int → Int → Option (Mem)} {rec22 : Mem → Int → Int → Int → Int → Option (Mem)} {rec38 : Mem → Int → Int → Int → Int → Int → Option (Mem)} (X : CX p R s m args meth c cX11_findPages 6 RX11 none 6 179 G) (h8 : S_X11_findPages_8 rec8 p l e R s m args below meth c G τ) (h22 : S_X11_findPages_22 rec22 p l e R s m args below meth c G τ) (h38 : S_X11_findPages_38 rec38 p l e R s m args below meth c G τ) : S_X11_findPages_38 (X11_findPages_B38 rec8 rec22 rec38) p l e R s m args below meth c G τ := by
  intro σ H locs ls l1 l2 l3 l4 l5 hP hS hf hl
  unfold X11_findPages_B38 at hf
  refine lv_iload X.1 X.2.1 dX11_findPages_38 (lv_at hl 5 rfl) ?_
  refine lv_iload X.1 X.2.1 dX11_findPages_40 (lv_at hl 4 rfl) ?_
  refine r_icmp_gt (tgt := 81) X dX11_findPages_42 (by decide) (fun q => ?_) (fun q => ?_)
  · replace hf := it_inv q hf
    obtain ⟨l4_1, el4_1, hf⟩ := lt_inv hf
    refine lv_iinc (v := i32 l4_1) (lv' := [(4, .int (i32 l4_1)), (0, .ref (gh G + 111)), (1, .int (i32 l1)), (2, .int (i32 l2)), (3, .int (i32 l3)), (5, .int (i32 l5))]) X.1 X.2.1 dX11_findPages_81 hl (k := 4) rfl (by rw [← el4_1]; exact i32_add _ _) (by decide) rfl (fun ls hl => ?_)
    refine lv_goto (tgt := 22) X.1 X.2.1 dX11_findPages_84 (by decide) ?_
    exact h22 σ H locs ls l1 l2 l3 l4_1 hP hS hf (lv_sub hl [1, 2, 3, 4, 0] rfl)
  · replace hf := ie_inv q hf
    refine lv_aload_n X.1 X.2.1 dX11_findPages_45 rfl (lv_at hl 0 rfl) ?_
    refine g_11_15 (r := 118) X hP ks_11 rfl (tb t_1102 rfl) dX11_findPages_46 ?_
    refine lv_iload_n X.1 X.2.1 dX11_findPages_49 rfl (lv_at hl 3 rfl) ?_
    refine lv_iload X.1 X.2.1 dX11_findPages_50 (lv_at hl 5 rfl) ?_
    refine lv_iload X.1 X.2.1 dX11_findPages_52 (lv_at hl 4 rfl) ?_
    obtain ⟨r2, hr2, hf⟩ := bd_inv hf
    refine k_X11_cell X hP hS hl.1  hr2 (tb t_1381 rfl) (by decide) (Nat.le_of_ble_eq_true rfl) dX11_findPages_54 (fun H locs hP hS => ?_)
    refine lv_aload_n X.1 X.2.1 dX11_findPages_57 rfl (lv_at hl 0 rfl) ?_
    refine g_11_16 (r := 119) X hP ks_11 rfl (tb t_1103 rfl) dX11_findPages_58 ?_
    refine r_bipush X 41 (by decide) dX11_findPages_61 ?_
    refine lv_aload_n X.1 X.2.1 dX11_findPages_63 rfl (lv_at hl 0 rfl) ?_
    refine g_11_0 (r := 112) X hP ks_11 rfl (tb t_1087 rfl) dX11_findPages_64 ?_
    refine r_iconst X 1 dX11_findPages_67 ?_
    obtain ⟨j3, hij3, hjj3, hlj3, hf⟩ := ag_inv hf
    refine r_iald X hP (ch_11_0 ks_11).1 (ch_11_0 ks_11).2 hij3 hjj3 dX11_findPages_68 ?_
    refine r_imul X dX11_findPages_69 ?_
    refine lv_iload X.1 X.2.1 dX11_findPages_70 (lv_at hl 5 rfl) ?_
    refine r_iadd X dX11_findPages_72 ?_
    obtain ⟨j4, hij4, hjj4, hlj4, hf⟩ := ag_inv hf
    refine r_iald X hP (ch_11_16 ks_11).1 (ch_11_16 ks_11).2 hij4 hjj4 dX11_findPages_73 ?_
    obtain ⟨j5, hij5, hjj5, hlj5, hf⟩ := ag_inv hf
    refine r_iast X hP hS (ch_11_15 ks_11).1 (ch_11_15 ks_11).2 hij5 hjj5 dX11_findPages_74 (fun H locs hP hS => ?_)
    obtain ⟨s6, es6, hf⟩ := lt_inv hf
    rw [es6] at hP
    obtain ⟨l5_7, el5_7, hf⟩ := lt_inv hf
    refine lv_iinc (v := i32 l5_7) (lv' := [(5, .int (i32 l5_7)), (0, .ref (gh G + 111)), (1, .int (i32 l1)), (2, .int (i32 l2)), (3, .int (i32 l3)), (4, .int (i32 l4))]) X.1 X.2.1 dX11_findPages_75 hl (k := 5) rfl (by rw [← el5_7]; exact i32_add _ _) (by decide) rfl (fun ls hl => ?_)
    refine lv_goto (tgt := 38) X.1 X.2.1 dX11_findPages_78 (by decide) ?_
    exact h38 s6 H locs ls l1 l2 l3 l4 l5_7 hP hS hf (lv_sub hl [1, 2, 3, 4, 5, 0] rfl)
theorem al_X11_findPages_38 {p : Program} {l : Launch} {e : Env} {R : Room} {s : State} {m : MethodId} {args : Array Value} {below : List Frame} {meth : Method} {c : Code} {G : GT} {τ : Mem} {rec8 : Mem → Int → Int → Int → Option (Mem)} {rec22 : Mem → Int → Int → Int → Int → Option (Mem)} (X : CX p R s m args meth c cX11_findPages 6 RX11 none 6 179 G) (h8 : S_X11_findPages_8 rec8 p l e R s m args below meth c G τ) (h22 : S_X11_findPages_22 rec22 p l e R s m args below meth c G τ) : ∀ n, S_X11_findPages_38 (X11_findPages_L38 rec8 rec22 n) p l e R s m args below meth c G τ := by
  intro n
  induction n with
  | zero =>
    intro σ H locs ls l1 l2 l3 l4 l5 hP hS hf hl
    cases hf
  | succ n ih => exact a_X11_findPages_38 X h8 h22 ih
set_option maxHeartbeats 4000000 in
theorem a_X11_findPages_22 {p : Program} {l : Launch} {e : Env} {R : Room} {s : State} {m : MethodId} {args : Array Value} {below : List Frame} {meth : Method} {c : Code} {G : GT} {τ : Mem} {rec8 : Mem → Int → Int → Int → Option (Mem)} {rec22 : Mem → Int → Int → Int → Int → Option (Mem)} (X : CX p R s m args meth c cX11_findPages 6 RX11 none 6 179 G) (h8 : S_X11_findPages_8 rec8 p l e R s m args below meth c G τ) (h22 : S_X11_findPages_22 rec22 p l e R s m args below meth c G τ) : S_X11_findPages_22 (X11_findPages_B22 rec8 rec22) p l e R s m args below meth c G τ := by
  intro σ H locs ls l1 l2 l3 l4 hP hS hf hl
  unfold X11_findPages_B22 at hf
  refine lv_iload X.1 X.2.1 dX11_findPages_22 (lv_at hl 4 rfl) ?_
  refine lv_iload_n X.1 X.2.1 dX11_findPages_24 rfl (lv_at hl 2 rfl) ?_
  refine r_icmp_ge (tgt := 87) X dX11_findPages_25 (by decide) (fun q => ?_) (fun q => ?_)
  · replace hf := it_inv q hf
    obtain ⟨l3_1, el3_1, hf⟩ := lt_inv hf
    refine lv_iinc (v := i32 l3_1) (lv' := [(3, .int (i32 l3_1)), (0, .ref (gh G + 111)), (1, .int (i32 l1)), (2, .int (i32 l2)), (4, .int (i32 l4))]) X.1 X.2.1 dX11_findPages_87 hl (k := 3) rfl (by rw [← el3_1]; exact i32_add _ _) (by decide) rfl (fun ls hl => ?_)
    refine lv_goto (tgt := 8) X.1 X.2.1 dX11_findPages_90 (by decide) ?_
    exact h8 σ H locs ls l1 l2 l3_1 hP hS hf (lv_sub hl [1, 2, 3, 0] rfl)
  · replace hf := ie_inv q hf
    refine lv_aload_n X.1 X.2.1 dX11_findPages_28 rfl (lv_at hl 0 rfl) ?_
    refine lv_iload_n X.1 X.2.1 dX11_findPages_29 rfl (lv_at hl 3 rfl) ?_
    refine lv_iload X.1 X.2.1 dX11_findPages_30 (lv_at hl 4 rfl) ?_
    obtain ⟨s3, hr2, hf⟩ := bd_inv hf
    refine k_X11_findTails X hP hS hl.1  hr2 (tb t_1385 rfl) (by decide) (Nat.le_of_ble_eq_true rfl) dX11_findPages_32 (fun H locs hP hS => ?_)
    refine r_iconst X 0 dX11_findPages_35 ?_
    refine lv_istore (lv' := [(5, .int (i32 0)), (0, .ref (gh G + 111)), (1, .int (i32 l1)), (2, .int (i32 l2)), (3, .int (i32 l3)), (4, .int (i32 l4))]) X.1 X.2.1 dX11_findPages_36 hl (by decide) rfl (fun ls hl => ?_)
    exact al_X11_findPages_38 X h8 h22 5000 s3 H locs ls l1 l2 l3 l4 0 hP hS hf (lv_sub hl [1, 2, 3, 4, 5, 0] rfl)
theorem al_X11_findPages_22 {p : Program} {l : Launch} {e : Env} {R : Room} {s : State} {m : MethodId} {args : Array Value} {below : List Frame} {meth : Method} {c : Code} {G : GT} {τ : Mem} {rec8 : Mem → Int → Int → Int → Option (Mem)} (X : CX p R s m args meth c cX11_findPages 6 RX11 none 6 179 G) (h8 : S_X11_findPages_8 rec8 p l e R s m args below meth c G τ) : ∀ n, S_X11_findPages_22 (X11_findPages_L22 rec8 n) p l e R s m args below meth c G τ := by
  intro n
  induction n with
  | zero =>
    intro σ H locs ls l1 l2 l3 l4 hP hS hf hl
    cases hf
  | succ n ih => exact a_X11_findPages_22 X h8 ih
set_option maxHeartbeats 4000000 in
theorem a_X11_findPages_8 {p : Program} {l : Launch} {e : Env} {R : Room} {s : State} {m : MethodId} {args : Array Value} {below : List Frame} {meth : Method} {c : Code} {G : GT} {τ : Mem} {rec8 : Mem → Int → Int → Int → Option (Mem)} (X : CX p R s m args meth c cX11_findPages 6 RX11 none 6 179 G) (h8 : S_X11_findPages_8 rec8 p l e R s m args below meth c G τ) : S_X11_findPages_8 (X11_findPages_B8 rec8) p l e R s m args below meth c G τ := by
  intro σ H locs ls l1 l2 l3 hP hS hf hl
  unfold X11_findPages_B8 at hf
  refine lv_iload_n X.1 X.2.1 dX11_findPages_8 rfl (lv_at hl 3 rfl) ?_
  refine r_iconst X 3 dX11_findPages_9 ?_
  refine r_icmp_ge (tgt := 93) X dX11_findPages_10 (by decide) (fun q => ?_) (fun q => ?_)
  · replace hf := it_inv q hf
    cases so_inv hf
    exact r_vret X hP hS dX11_findPages_93
  · replace hf := ie_inv q hf
    refine lv_aload_n X.1 X.2.1 dX11_findPages_13 rfl (lv_at hl 0 rfl) ?_
    refine lv_iload_n X.1 X.2.1 dX11_findPages_14 rfl (lv_at hl 1 rfl) ?_
    refine lv_iload_n X.1 X.2.1 dX11_findPages_15 rfl (lv_at hl 3 rfl) ?_
    obtain ⟨s2, hr1, hf⟩ := bd_inv hf
    refine k_X11_findLines X hP hS hl.1  hr1 (tb t_1377 rfl) (by decide) (Nat.le_of_ble_eq_true rfl) dX11_findPages_16 (fun H locs hP hS => ?_)
    refine r_iconst X 0 dX11_findPages_19 ?_
    refine lv_istore (lv' := [(4, .int (i32 0)), (0, .ref (gh G + 111)), (1, .int (i32 l1)), (2, .int (i32 l2)), (3, .int (i32 l3))]) X.1 X.2.1 dX11_findPages_20 hl (by decide) rfl (fun ls hl => ?_)
    exact al_X11_findPages_22 X h8 5000 s2 H locs ls l1 l2 l3 0 hP hS hf (lv_sub hl [1, 2, 3, 4, 0] rfl)
theorem al_X11_findPages_8 {p : Program} {l : Launch} {e : Env} {R : Room} {s : State} {m : MethodId} {args : Array Value} {below : List Frame} {meth : Method} {c : Code} {G : GT} {τ : Mem} (X : CX p R s m args meth c cX11_findPages 6 RX11 none 6 179 G) : ∀ n, S_X11_findPages_8 (X11_findPages_L8 n) p l e R s m args below meth c G τ := by
  intro n
  induction n with
  | zero =>
    intro σ H locs ls l1 l2 l3 hP hS hf hl
    cases hf
  | succ n ih => exact a_X11_findPages_8 X ih
set_option maxHeartbeats 4000000 in
theorem a_X11_findPages_0 {p : Program} {l : Launch} {e : Env} {R : Room} {s : State} {m : MethodId} {args : Array Value} {below : List Frame} {meth : Method} {c : Code} {G : GT} {τ : Mem} (X : CX p R s m args meth c cX11_findPages 6 RX11 none 6 179 G) : S_X11_findPages_0 (X11_findPages) p l e R s m args below meth c G τ := by
  intro σ H locs ls l1 hP hS hf hl
  unfold X11_findPages at hf
  refine lv_aload_n X.1 X.2.1 dX11_findPages_0 rfl (lv_at hl 0 rfl) ?_
  refine lv_iload_n X.1 X.2.1 dX11_findPages_1 rfl (lv_at hl 1 rfl) ?_
  obtain ⟨r1, hr1, hf⟩ := bd_inv hf
  refine k_X11_bars X hP hS hl.1  hr1 (tb t_1296 rfl) (by decide) (Nat.le_of_ble_eq_true rfl) dX11_findPages_2 (fun H locs hP hS => ?_)
  refine lv_istore_n (lv' := [(2, .int (i32 r1)), (0, .ref (gh G + 111)), (1, .int (i32 l1))]) X.1 X.2.1 dX11_findPages_5 rfl hl (by decide) rfl (fun ls hl => ?_)
  refine r_iconst X 0 dX11_findPages_6 ?_
  refine lv_istore_n (lv' := [(3, .int (i32 0)), (2, .int (i32 r1)), (0, .ref (gh G + 111)), (1, .int (i32 l1))]) X.1 X.2.1 dX11_findPages_7 rfl hl (by decide) rfl (fun ls hl => ?_)
  exact al_X11_findPages_8 X 5000 σ H locs ls l1 r1 0 hP hS hf (lv_sub hl [2, 3, 1, 0] rfl)
set_option maxHeartbeats 4000000 in
theorem c_X11_findPages {l : Launch} {G : GT} {σ τ : Mem} {l1 : Int} (hf : X11_findPages σ l1 = some τ) : CT l yX11_findPages cX11_findPages 6 none 6 179 G [.ref (gh G + 111), .int (i32 l1)] σ τ none := by
  refine CT.mk (own := RX11) (by decide) rfl (Nat.le_of_ble_eq_true rfl) ?_
  intro p e s m below meth c ls X hP hS hl
  have hl : lv_has ls 6 [(0, .ref (gh G + 111)), (1, .int (i32 l1))] := hl
  exact a_X11_findPages_0 X σ s.heap [] ls l1 hP hS hf hl
theorem k_X11_findPages {p : Program} {l : Launch} {e : Env} {R : Room} {s : State} {m : MethodId} {args : Array Value} {below : List Frame} {meth : Method} {c : Code} {H : Heap} {locs : List Loc} {Q : State → Prop} {cc : ByteArray} {nL : Nat} {own : String} {ret : Option FieldType} {fF fL : Nat} {G : GT} {pc idx : Nat} {ls : Array Slot} {rest : List Value} {σ τ : Mem} {l1 : Int} (X : CX p R s m args meth c cc nL own ret fF fL G) (hP : PW G σ H) (hS : va_S (AA G) s.heap H locs) (hls : ls.size = nL) (hf : X11_findPages σ l1 = some τ) (h1 : Cond.methodLink own idx yX11_findPages ∈ TB) (hR : 6 + 1 ≤ fF ∧ 8 + (6 + 11) + 179 ≤ fL) (hW : (rest.map fun v => v.category).sum ≤ 8) (hd : decode cc pc = .ok (.invokevirtual idx, 3)) (kk : ∀ (H1 : Heap) (locs1 : List Loc), PW G τ H1 → va_S (AA G) s.heap H1 locs1 → W p l e R s m args below meth c H1 locs1 0 0 Q (F0 m (pc + 3) ls (rest))) : W p l e R s m args below meth c H locs 0 0 Q (F0 m pc ls (.int (i32 l1) :: .ref (gh G + 111) :: rest)) := r_callV (n := 1) X hP hS hls (c_X11_findPages hf) h1 (tb t_1399 rfl) (tb t_58 rfl) (tb t_87 rfl) (tb t_1400 rfl) (by decide +kernel) hR (r_recv X hP (kd_lt ks_11 (by decide)) (cE_11 ks_11) rfl) rfl rfl hW hd kk
/-! X11_hand -/
theorem dX11_hand_0 : decode cX11_hand 0 = .ok (.aload_n 0, 1) := by decide +kernel
theorem dX11_hand_1 : decode cX11_hand 1 = .ok (.getfield 9, 3) := by decide +kernel
theorem dX11_hand_4 : decode cX11_hand 4 = .ok (.iload_n 1, 1) := by decide +kernel
theorem dX11_hand_5 : decode cX11_hand 5 = .ok (.iload_n 2, 1) := by decide +kernel
theorem dX11_hand_6 : decode cX11_hand 6 = .ok (.iconst 1, 1) := by decide +kernel
theorem dX11_hand_7 : decode cX11_hand 7 = .ok (.invokestatic 104, 3) := by decide +kernel
theorem dX11_hand_10 : decode cX11_hand 10 = .ok (.iaload, 1) := by decide +kernel
theorem dX11_hand_11 : decode cX11_hand 11 = .ok (.ireturn, 1) := by decide +kernel
def X11_hand (σ : Mem) (l1 : Int) (l2 : Int) : Option (Int) :=
  bd (X11_at σ l1 l2 1) fun r1 =>
  ag 766 r1 fun j2 =>
  some (σ 112 j2)
def S_X11_hand_0 (fn : Int → Int → Option (Int)) (p : Program) (l : Launch) (e : Env) (R : Room) (s : State) (m : MethodId) (args : Array Value) (below : List Frame) (meth : Method) (c : Code) (G : GT) (σ : Mem) (res : Int) : Prop := ∀ (H : Heap) (locs : List Loc) (ls : Array Slot) (l1 : Int) (l2 : Int), PW G σ H → va_S (AA G) s.heap H locs → fn l1 l2 = some res → lv_has ls 3 [(0, .ref (gh G + 111)), (1, .int (i32 l1)), (2, .int (i32 l2))] → W p l e R s m args below meth c H locs 0 0 (MQ below (QM G (some (.int (i32 res))) σ) args s 0 0 (AA G)) (F0 m 0 ls [])
set_option maxHeartbeats 4000000 in
theorem a_X11_hand_0 {p : Program} {l : Launch} {e : Env} {R : Room} {s : State} {m : MethodId} {args : Array Value} {below : List Frame} {meth : Method} {c : Code} {G : GT} {σ : Mem} {res : Int} (X : CX p R s m args meth c cX11_hand 3 RX11 (some FieldType.int) 3 102 G) : S_X11_hand_0 (X11_hand σ) p l e R s m args below meth c G σ res := by
  intro H locs ls l1 l2 hP hS hf hl
  unfold X11_hand at hf
  refine lv_aload_n X.1 X.2.1 dX11_hand_0 rfl (lv_at hl 0 rfl) ?_
  refine g_11_0 (r := 112) X hP ks_11 rfl (tb t_1087 rfl) dX11_hand_1 ?_
  refine lv_iload_n X.1 X.2.1 dX11_hand_4 rfl (lv_at hl 1 rfl) ?_
  refine lv_iload_n X.1 X.2.1 dX11_hand_5 rfl (lv_at hl 2 rfl) ?_
  refine r_iconst X 1 dX11_hand_6 ?_
  obtain ⟨r1, hr1, hf⟩ := bd_inv hf
  refine k_X11_at X hP hS hl.1  hr1 (tb t_1300 rfl) (by decide) (Nat.le_of_ble_eq_true rfl) dX11_hand_7 (fun H locs hP hS => ?_)
  obtain ⟨j2, hij2, hjj2, hlj2, hf⟩ := ag_inv hf
  refine r_iald X hP (ch_11_0 ks_11).1 (ch_11_0 ks_11).2 hij2 hjj2 dX11_hand_10 ?_
  cases so_inv hf
  exact r_iret X hP hS dX11_hand_11
set_option maxHeartbeats 4000000 in
theorem c_X11_hand {l : Launch} {G : GT} {σ : Mem} {res : Int} {l1 : Int} {l2 : Int} (hf : X11_hand σ l1 l2 = some res) : CT l yX11_hand cX11_hand 3 (some FieldType.int) 3 102 G [.ref (gh G + 111), .int (i32 l1), .int (i32 l2)] σ σ (some (.int (i32 res))) := by
  refine CT.mk (own := RX11) (by decide) rfl (Nat.le_of_ble_eq_true rfl) ?_
  intro p e s m below meth c ls X hP hS hl
  have hl : lv_has ls 3 [(0, .ref (gh G + 111)), (1, .int (i32 l1)), (2, .int (i32 l2))] := hl
  exact a_X11_hand_0 X  s.heap [] ls l1 l2 hP hS hf hl
theorem k_X11_hand {p : Program} {l : Launch} {e : Env} {R : Room} {s : State} {m : MethodId} {args : Array Value} {below : List Frame} {meth : Method} {c : Code} {H : Heap} {locs : List Loc} {Q : State → Prop} {cc : ByteArray} {nL : Nat} {own : String} {ret : Option FieldType} {fF fL : Nat} {G : GT} {pc idx : Nat} {ls : Array Slot} {rest : List Value} {σ : Mem} {res : Int} {l1 : Int} {l2 : Int} (X : CX p R s m args meth c cc nL own ret fF fL G) (hP : PW G σ H) (hS : va_S (AA G) s.heap H locs) (hls : ls.size = nL) (hf : X11_hand σ l1 l2 = some res) (h1 : Cond.methodLink own idx yX11_hand ∈ TB) (hR : 3 + 1 ≤ fF ∧ 8 + (3 + 11) + 102 ≤ fL) (hW : (rest.map fun v => v.category).sum ≤ 8) (hd : decode cc pc = .ok (.invokevirtual idx, 3)) (kk : ∀ (H1 : Heap) (locs1 : List Loc), PW G σ H1 → va_S (AA G) s.heap H1 locs1 → W p l e R s m args below meth c H1 locs1 0 0 Q (F0 m (pc + 3) ls (.int (i32 res) :: rest))) : W p l e R s m args below meth c H locs 0 0 Q (F0 m pc ls (.int (i32 l2) :: .int (i32 l1) :: .ref (gh G + 111) :: rest)) := r_callV (n := 2) X hP hS hls (c_X11_hand hf) h1 (tb t_1335 rfl) (tb t_47 rfl) (tb t_87 rfl) (tb t_1336 rfl) (by decide +kernel) hR (r_recv X hP (kd_lt ks_11 (by decide)) (cE_11 ks_11) rfl) rfl rfl hW hd kk
/-! X11_beats -/
theorem dX11_beats_0 : decode cX11_beats 0 = .ok (.aload_n 0, 1) := by decide +kernel
theorem dX11_beats_1 : decode cX11_beats 1 = .ok (.getfield 9, 3) := by decide +kernel
theorem dX11_beats_4 : decode cX11_beats 4 = .ok (.iload_n 1, 1) := by decide +kernel
theorem dX11_beats_5 : decode cX11_beats 5 = .ok (.iload_n 2, 1) := by decide +kernel
theorem dX11_beats_6 : decode cX11_beats 6 = .ok (.iconst 2, 1) := by decide +kernel
theorem dX11_beats_7 : decode cX11_beats 7 = .ok (.invokestatic 104, 3) := by decide +kernel
theorem dX11_beats_10 : decode cX11_beats 10 = .ok (.iaload, 1) := by decide +kernel
theorem dX11_beats_11 : decode cX11_beats 11 = .ok (.ireturn, 1) := by decide +kernel
def X11_beats (σ : Mem) (l1 : Int) (l2 : Int) : Option (Int) :=
  bd (X11_at σ l1 l2 2) fun r1 =>
  ag 766 r1 fun j2 =>
  some (σ 112 j2)
def S_X11_beats_0 (fn : Int → Int → Option (Int)) (p : Program) (l : Launch) (e : Env) (R : Room) (s : State) (m : MethodId) (args : Array Value) (below : List Frame) (meth : Method) (c : Code) (G : GT) (σ : Mem) (res : Int) : Prop := ∀ (H : Heap) (locs : List Loc) (ls : Array Slot) (l1 : Int) (l2 : Int), PW G σ H → va_S (AA G) s.heap H locs → fn l1 l2 = some res → lv_has ls 3 [(0, .ref (gh G + 111)), (1, .int (i32 l1)), (2, .int (i32 l2))] → W p l e R s m args below meth c H locs 0 0 (MQ below (QM G (some (.int (i32 res))) σ) args s 0 0 (AA G)) (F0 m 0 ls [])
set_option maxHeartbeats 4000000 in
theorem a_X11_beats_0 {p : Program} {l : Launch} {e : Env} {R : Room} {s : State} {m : MethodId} {args : Array Value} {below : List Frame} {meth : Method} {c : Code} {G : GT} {σ : Mem} {res : Int} (X : CX p R s m args meth c cX11_beats 3 RX11 (some FieldType.int) 3 102 G) : S_X11_beats_0 (X11_beats σ) p l e R s m args below meth c G σ res := by
  intro H locs ls l1 l2 hP hS hf hl
  unfold X11_beats at hf
  refine lv_aload_n X.1 X.2.1 dX11_beats_0 rfl (lv_at hl 0 rfl) ?_
  refine g_11_0 (r := 112) X hP ks_11 rfl (tb t_1087 rfl) dX11_beats_1 ?_
  refine lv_iload_n X.1 X.2.1 dX11_beats_4 rfl (lv_at hl 1 rfl) ?_
  refine lv_iload_n X.1 X.2.1 dX11_beats_5 rfl (lv_at hl 2 rfl) ?_
  refine r_iconst X 2 dX11_beats_6 ?_
  obtain ⟨r1, hr1, hf⟩ := bd_inv hf
  refine k_X11_at X hP hS hl.1  hr1 (tb t_1300 rfl) (by decide) (Nat.le_of_ble_eq_true rfl) dX11_beats_7 (fun H locs hP hS => ?_)
  obtain ⟨j2, hij2, hjj2, hlj2, hf⟩ := ag_inv hf
  refine r_iald X hP (ch_11_0 ks_11).1 (ch_11_0 ks_11).2 hij2 hjj2 dX11_beats_10 ?_
  cases so_inv hf
  exact r_iret X hP hS dX11_beats_11
set_option maxHeartbeats 4000000 in
theorem c_X11_beats {l : Launch} {G : GT} {σ : Mem} {res : Int} {l1 : Int} {l2 : Int} (hf : X11_beats σ l1 l2 = some res) : CT l yX11_beats cX11_beats 3 (some FieldType.int) 3 102 G [.ref (gh G + 111), .int (i32 l1), .int (i32 l2)] σ σ (some (.int (i32 res))) := by
  refine CT.mk (own := RX11) (by decide) rfl (Nat.le_of_ble_eq_true rfl) ?_
  intro p e s m below meth c ls X hP hS hl
  have hl : lv_has ls 3 [(0, .ref (gh G + 111)), (1, .int (i32 l1)), (2, .int (i32 l2))] := hl
  exact a_X11_beats_0 X  s.heap [] ls l1 l2 hP hS hf hl
theorem k_X11_beats {p : Program} {l : Launch} {e : Env} {R : Room} {s : State} {m : MethodId} {args : Array Value} {below : List Frame} {meth : Method} {c : Code} {H : Heap} {locs : List Loc} {Q : State → Prop} {cc : ByteArray} {nL : Nat} {own : String} {ret : Option FieldType} {fF fL : Nat} {G : GT} {pc idx : Nat} {ls : Array Slot} {rest : List Value} {σ : Mem} {res : Int} {l1 : Int} {l2 : Int} (X : CX p R s m args meth c cc nL own ret fF fL G) (hP : PW G σ H) (hS : va_S (AA G) s.heap H locs) (hls : ls.size = nL) (hf : X11_beats σ l1 l2 = some res) (h1 : Cond.methodLink own idx yX11_beats ∈ TB) (hR : 3 + 1 ≤ fF ∧ 8 + (3 + 11) + 102 ≤ fL) (hW : (rest.map fun v => v.category).sum ≤ 8) (hd : decode cc pc = .ok (.invokevirtual idx, 3)) (kk : ∀ (H1 : Heap) (locs1 : List Loc), PW G σ H1 → va_S (AA G) s.heap H1 locs1 → W p l e R s m args below meth c H1 locs1 0 0 Q (F0 m (pc + 3) ls (.int (i32 res) :: rest))) : W p l e R s m args below meth c H locs 0 0 Q (F0 m pc ls (.int (i32 l2) :: .int (i32 l1) :: .ref (gh G + 111) :: rest)) := r_callV (n := 2) X hP hS hls (c_X11_beats hf) h1 (tb t_1339 rfl) (tb t_48 rfl) (tb t_87 rfl) (tb t_1340 rfl) (by decide +kernel) hR (r_recv X hP (kd_lt ks_11 (by decide)) (cE_11 ks_11) rfl) rfl rfl hW hd kk
/-! X11_beatsFree -/
theorem dX11_beatsFree_0 : decode cX11_beatsFree 0 = .ok (.iconst 0, 1) := by decide +kernel
theorem dX11_beatsFree_1 : decode cX11_beatsFree 1 = .ok (.istore 5, 2) := by decide +kernel
theorem dX11_beatsFree_3 : decode cX11_beatsFree 3 = .ok (.iload_n 2, 1) := by decide +kernel
theorem dX11_beatsFree_4 : decode cX11_beatsFree 4 = .ok (.istore 6, 2) := by decide +kernel
theorem dX11_beatsFree_6 : decode cX11_beatsFree 6 = .ok (.iload 4, 2) := by decide +kernel
theorem dX11_beatsFree_8 : decode cX11_beatsFree 8 = .ok (.istore 7, 2) := by decide +kernel
theorem dX11_beatsFree_10 : decode cX11_beatsFree 10 = .ok (.iload 6, 2) := by decide +kernel
theorem dX11_beatsFree_12 : decode cX11_beatsFree 12 = .ok (.ifCond .lt 53, 3) := by decide +kernel
theorem dX11_beatsFree_15 : decode cX11_beatsFree 15 = .ok (.iload 6, 2) := by decide +kernel
theorem dX11_beatsFree_17 : decode cX11_beatsFree 17 = .ok (.aload_n 0, 1) := by decide +kernel
theorem dX11_beatsFree_18 : decode cX11_beatsFree 18 = .ok (.iload_n 1, 1) := by decide +kernel
theorem dX11_beatsFree_19 : decode cX11_beatsFree 19 = .ok (.invokevirtual 101, 3) := by decide +kernel
theorem dX11_beatsFree_22 : decode cX11_beatsFree 22 = .ok (.if_icmp .ge 43, 3) := by decide +kernel
theorem dX11_beatsFree_25 : decode cX11_beatsFree 25 = .ok (.iload 7, 2) := by decide +kernel
theorem dX11_beatsFree_27 : decode cX11_beatsFree 27 = .ok (.ifCond .gt 14, 3) := by decide +kernel
theorem dX11_beatsFree_30 : decode cX11_beatsFree 30 = .ok (.aload_n 0, 1) := by decide +kernel
theorem dX11_beatsFree_31 : decode cX11_beatsFree 31 = .ok (.iload_n 1, 1) := by decide +kernel
theorem dX11_beatsFree_32 : decode cX11_beatsFree 32 = .ok (.iload 6, 2) := by decide +kernel
theorem dX11_beatsFree_34 : decode cX11_beatsFree 34 = .ok (.invokevirtual 218, 3) := by decide +kernel
theorem dX11_beatsFree_37 : decode cX11_beatsFree 37 = .ok (.iconst 2, 1) := by decide +kernel
theorem dX11_beatsFree_38 : decode cX11_beatsFree 38 = .ok (.if_icmp .ne 27, 3) := by decide +kernel
theorem dX11_beatsFree_41 : decode cX11_beatsFree 41 = .ok (.iload 5, 2) := by decide +kernel
theorem dX11_beatsFree_43 : decode cX11_beatsFree 43 = .ok (.aload_n 0, 1) := by decide +kernel
theorem dX11_beatsFree_44 : decode cX11_beatsFree 44 = .ok (.iload_n 1, 1) := by decide +kernel
theorem dX11_beatsFree_45 : decode cX11_beatsFree 45 = .ok (.iload 6, 2) := by decide +kernel
theorem dX11_beatsFree_47 : decode cX11_beatsFree 47 = .ok (.invokevirtual 222, 3) := by decide +kernel
theorem dX11_beatsFree_50 : decode cX11_beatsFree 50 = .ok (.iadd, 1) := by decide +kernel
theorem dX11_beatsFree_51 : decode cX11_beatsFree 51 = .ok (.istore 5, 2) := by decide +kernel
theorem dX11_beatsFree_53 : decode cX11_beatsFree 53 = .ok (.iload 6, 2) := by decide +kernel
theorem dX11_beatsFree_55 : decode cX11_beatsFree 55 = .ok (.iload_n 3, 1) := by decide +kernel
theorem dX11_beatsFree_56 : decode cX11_beatsFree 56 = .ok (.iadd, 1) := by decide +kernel
theorem dX11_beatsFree_57 : decode cX11_beatsFree 57 = .ok (.istore 6, 2) := by decide +kernel
theorem dX11_beatsFree_59 : decode cX11_beatsFree 59 = .ok (.iinc 7 (-1), 3) := by decide +kernel
theorem dX11_beatsFree_62 : decode cX11_beatsFree 62 = .ok (.goto (-52), 3) := by decide +kernel
theorem dX11_beatsFree_65 : decode cX11_beatsFree 65 = .ok (.iload 6, 2) := by decide +kernel
theorem dX11_beatsFree_67 : decode cX11_beatsFree 67 = .ok (.ifCond .lt 28, 3) := by decide +kernel
theorem dX11_beatsFree_70 : decode cX11_beatsFree 70 = .ok (.iload 6, 2) := by decide +kernel
theorem dX11_beatsFree_72 : decode cX11_beatsFree 72 = .ok (.aload_n 0, 1) := by decide +kernel
theorem dX11_beatsFree_73 : decode cX11_beatsFree 73 = .ok (.iload_n 1, 1) := by decide +kernel
theorem dX11_beatsFree_74 : decode cX11_beatsFree 74 = .ok (.invokevirtual 101, 3) := by decide +kernel
theorem dX11_beatsFree_77 : decode cX11_beatsFree 77 = .ok (.if_icmp .ge 18, 3) := by decide +kernel
theorem dX11_beatsFree_80 : decode cX11_beatsFree 80 = .ok (.aload_n 0, 1) := by decide +kernel
theorem dX11_beatsFree_81 : decode cX11_beatsFree 81 = .ok (.iload_n 1, 1) := by decide +kernel
theorem dX11_beatsFree_82 : decode cX11_beatsFree 82 = .ok (.iload 6, 2) := by decide +kernel
theorem dX11_beatsFree_84 : decode cX11_beatsFree 84 = .ok (.invokevirtual 218, 3) := by decide +kernel
theorem dX11_beatsFree_87 : decode cX11_beatsFree 87 = .ok (.iconst 1, 1) := by decide +kernel
theorem dX11_beatsFree_88 : decode cX11_beatsFree 88 = .ok (.if_icmp .ne 7, 3) := by decide +kernel
theorem dX11_beatsFree_91 : decode cX11_beatsFree 91 = .ok (.iconst 1, 1) := by decide +kernel
theorem dX11_beatsFree_92 : decode cX11_beatsFree 92 = .ok (.goto 4, 3) := by decide +kernel
theorem dX11_beatsFree_95 : decode cX11_beatsFree 95 = .ok (.iconst 0, 1) := by decide +kernel
theorem dX11_beatsFree_96 : decode cX11_beatsFree 96 = .ok (.istore 8, 2) := by decide +kernel
theorem dX11_beatsFree_98 : decode cX11_beatsFree 98 = .ok (.iload 8, 2) := by decide +kernel
theorem dX11_beatsFree_100 : decode cX11_beatsFree 100 = .ok (.ifCond .eq 18, 3) := by decide +kernel
theorem dX11_beatsFree_103 : decode cX11_beatsFree 103 = .ok (.iload 5, 2) := by decide +kernel
theorem dX11_beatsFree_105 : decode cX11_beatsFree 105 = .ok (.aload_n 0, 1) := by decide +kernel
theorem dX11_beatsFree_106 : decode cX11_beatsFree 106 = .ok (.iload_n 1, 1) := by decide +kernel
theorem dX11_beatsFree_107 : decode cX11_beatsFree 107 = .ok (.iload 6, 2) := by decide +kernel
theorem dX11_beatsFree_109 : decode cX11_beatsFree 109 = .ok (.invokevirtual 222, 3) := by decide +kernel
theorem dX11_beatsFree_112 : decode cX11_beatsFree 112 = .ok (.iconst 2, 1) := by decide +kernel
theorem dX11_beatsFree_113 : decode cX11_beatsFree 113 = .ok (.idiv, 1) := by decide +kernel
theorem dX11_beatsFree_114 : decode cX11_beatsFree 114 = .ok (.iadd, 1) := by decide +kernel
theorem dX11_beatsFree_115 : decode cX11_beatsFree 115 = .ok (.goto 5, 3) := by decide +kernel
theorem dX11_beatsFree_118 : decode cX11_beatsFree 118 = .ok (.iload 5, 2) := by decide +kernel
theorem dX11_beatsFree_120 : decode cX11_beatsFree 120 = .ok (.ireturn, 1) := by decide +kernel
def S_X11_beatsFree_10 (fn : Int → Int → Int → Int → Int → Option (Int)) (p : Program) (l : Launch) (e : Env) (R : Room) (s : State) (m : MethodId) (args : Array Value) (below : List Frame) (meth : Method) (c : Code) (G : GT) (σ : Mem) (res : Int) : Prop := ∀ (H : Heap) (locs : List Loc) (ls : Array Slot) (l1 : Int) (l3 : Int) (l5 : Int) (l6 : Int) (l7 : Int), PW G σ H → va_S (AA G) s.heap H locs → fn l1 l3 l5 l6 l7 = some res → lv_has ls 9 [(0, .ref (gh G + 111)), (1, .int (i32 l1)), (3, .int (i32 l3)), (5, .int (i32 l5)), (6, .int (i32 l6)), (7, .int (i32 l7))] → W p l e R s m args below meth c H locs 0 0 (MQ below (QM G (some (.int (i32 res))) σ) args s 0 0 (AA G)) (F0 m 10 ls [])
def X11_beatsFree_B96 (σ : Mem) (l1 : Int) (l5 : Int) (l6 : Int) (k0 : Int) : Option (Int) :=
  if w32 k0 = 0 then
    some l5
  else
  bd (X11_beats σ l1 l6) fun r1 =>
  dg 2 <|
  some (l5 + (idv r1 2))
def S_X11_beatsFree_96 (fn : Int → Int → Int → Int → Option (Int)) (p : Program) (l : Launch) (e : Env) (R : Room) (s : State) (m : MethodId) (args : Array Value) (below : List Frame) (meth : Method) (c : Code) (G : GT) (σ : Mem) (res : Int) : Prop := ∀ (H : Heap) (locs : List Loc) (ls : Array Slot) (l1 : Int) (l5 : Int) (l6 : Int) (k0 : Int), PW G σ H → va_S (AA G) s.heap H locs → fn l1 l5 l6 k0 = some res → lv_has ls 9 [(0, .ref (gh G + 111)), (1, .int (i32 l1)), (5, .int (i32 l5)), (6, .int (i32 l6))] → W p l e R s m args below meth c H locs 0 0 (MQ below (QM G (some (.int (i32 res))) σ) args s 0 0 (AA G)) (F0 m 96 ls [.int (i32 k0)])
def X11_beatsFree_B95 (σ : Mem) (l1 : Int) (l5 : Int) (l6 : Int) : Option (Int) :=
  X11_beatsFree_B96 σ l1 l5 l6 0
def S_X11_beatsFree_95 (fn : Int → Int → Int → Option (Int)) (p : Program) (l : Launch) (e : Env) (R : Room) (s : State) (m : MethodId) (args : Array Value) (below : List Frame) (meth : Method) (c : Code) (G : GT) (σ : Mem) (res : Int) : Prop := ∀ (H : Heap) (locs : List Loc) (ls : Array Slot) (l1 : Int) (l5 : Int) (l6 : Int), PW G σ H → va_S (AA G) s.heap H locs → fn l1 l5 l6 = some res → lv_has ls 9 [(0, .ref (gh G + 111)), (1, .int (i32 l1)), (5, .int (i32 l5)), (6, .int (i32 l6))] → W p l e R s m args below meth c H locs 0 0 (MQ below (QM G (some (.int (i32 res))) σ) args s 0 0 (AA G)) (F0 m 95 ls [])
def X11_beatsFree_B65 (σ : Mem) (l1 : Int) (l5 : Int) (l6 : Int) : Option (Int) :=
  if w32 l6 < 0 then
    X11_beatsFree_B95 σ l1 l5 l6
  else
  bd (X11_bars σ l1) fun r1 =>
  if w32 r1 ≤ w32 l6 then
    X11_beatsFree_B95 σ l1 l5 l6
  else
  bd (X11_hand σ l1 l6) fun r2 =>
  if w32 r2 ≠ w32 1 then
    X11_beatsFree_B95 σ l1 l5 l6
  else
  X11_beatsFree_B96 σ l1 l5 l6 1
def S_X11_beatsFree_65 (fn : Int → Int → Int → Option (Int)) (p : Program) (l : Launch) (e : Env) (R : Room) (s : State) (m : MethodId) (args : Array Value) (below : List Frame) (meth : Method) (c : Code) (G : GT) (σ : Mem) (res : Int) : Prop := ∀ (H : Heap) (locs : List Loc) (ls : Array Slot) (l1 : Int) (l5 : Int) (l6 : Int), PW G σ H → va_S (AA G) s.heap H locs → fn l1 l5 l6 = some res → lv_has ls 9 [(0, .ref (gh G + 111)), (1, .int (i32 l1)), (5, .int (i32 l5)), (6, .int (i32 l6))] → W p l e R s m args below meth c H locs 0 0 (MQ below (QM G (some (.int (i32 res))) σ) args s 0 0 (AA G)) (F0 m 65 ls [])
def X11_beatsFree_B41 (rec10 : Int → Int → Int → Int → Int → Option (Int)) (σ : Mem) (l1 : Int) (l3 : Int) (l5 : Int) (l6 : Int) (l7 : Int) : Option (Int) :=
  bd (X11_beats σ l1 l6) fun r1 =>
  lt (l5 + r1) fun l5_2 =>
  lt (l6 + l3) fun l6_3 =>
  lt (l7 + (-1)) fun l7_4 =>
  rec10 l1 l3 l5_2 l6_3 l7_4
def S_X11_beatsFree_41 (fn : Int → Int → Int → Int → Int → Option (Int)) (p : Program) (l : Launch) (e : Env) (R : Room) (s : State) (m : MethodId) (args : Array Value) (below : List Frame) (meth : Method) (c : Code) (G : GT) (σ : Mem) (res : Int) : Prop := ∀ (H : Heap) (locs : List Loc) (ls : Array Slot) (l1 : Int) (l3 : Int) (l5 : Int) (l6 : Int) (l7 : Int), PW G σ H → va_S (AA G) s.heap H locs → fn l1 l3 l5 l6 l7 = some res → lv_has ls 9 [(0, .ref (gh G + 111)), (1, .int (i32 l1)), (3, .int (i32 l3)), (5, .int (i32 l5)), (6, .int (i32 l6)), (7, .int (i32 l7))] → W p l e R s m args below meth c H locs 0 0 (MQ below (QM G (some (.int (i32 res))) σ) args s 0 0 (AA G)) (F0 m 41 ls [])
def X11_beatsFree_B10 (rec10 : Int → Int → Int → Int → Int → Option (Int)) (σ : Mem) (l1 : Int) (l3 : Int) (l5 : Int) (l6 : Int) (l7 : Int) : Option (Int) :=
  if w32 l6 < 0 then
    X11_beatsFree_B65 σ l1 l5 l6
  else
  bd (X11_bars σ l1) fun r1 =>
  if w32 r1 ≤ w32 l6 then
    X11_beatsFree_B65 σ l1 l5 l6
  else
  if 0 < w32 l7 then
    X11_beatsFree_B41 rec10 σ l1 l3 l5 l6 l7
  else
  bd (X11_hand σ l1 l6) fun r2 =>
  if w32 r2 ≠ w32 2 then
    X11_beatsFree_B65 σ l1 l5 l6
  else
  X11_beatsFree_B41 rec10 σ l1 l3 l5 l6 l7
def X11_beatsFree_L10 (σ : Mem) : Nat → Int → Int → Int → Int → Int → Option (Int)
  | 0 => fun _ _ _ _ _ => none
  | n + 1 => X11_beatsFree_B10 (X11_beatsFree_L10 σ n) σ
def X11_beatsFree (σ : Mem) (l1 : Int) (l2 : Int) (l3 : Int) (l4 : Int) : Option (Int) :=
  X11_beatsFree_L10 σ 5000 l1 l3 0 l2 l4
def S_X11_beatsFree_0 (fn : Int → Int → Int → Int → Option (Int)) (p : Program) (l : Launch) (e : Env) (R : Room) (s : State) (m : MethodId) (args : Array Value) (below : List Frame) (meth : Method) (c : Code) (G : GT) (σ : Mem) (res : Int) : Prop := ∀ (H : Heap) (locs : List Loc) (ls : Array Slot) (l1 : Int) (l2 : Int) (l3 : Int) (l4 : Int), PW G σ H → va_S (AA G) s.heap H locs → fn l1 l2 l3 l4 = some res → lv_has ls 9 [(0, .ref (gh G + 111)), (1, .int (i32 l1)), (2, .int (i32 l2)), (3, .int (i32 l3)), (4, .int (i32 l4))] → W p l e R s m args below meth c H locs 0 0 (MQ below (QM G (some (.int (i32 res))) σ) args s 0 0 (AA G)) (F0 m 0 ls [])
set_option maxHeartbeats 4000000 in
theorem a_X11_beatsFree_96 {p : Program} {l : Launch} {e : Env} {R : Room} {s : State} {m : MethodId} {args : Array Value} {below : List Frame} {meth : Method} {c : Code} {G : GT} {σ : Mem} {res : Int} (X : CX p R s m args meth c cX11_beatsFree 9 RX11 (some FieldType.int) 4 124 G) : S_X11_beatsFree_96 (X11_beatsFree_B96 σ) p l e R s m args below meth c G σ res := by
  intro H locs ls l1 l5 l6 k0 hP hS hf hl
  unfold X11_beatsFree_B96 at hf
  refine lv_istore (lv' := [(8, .int (i32 k0)), (0, .ref (gh G + 111)), (1, .int (i32 l1)), (5, .int (i32 l5)), (6, .int (i32 l6))]) X.1 X.2.1 dX11_beatsFree_96 hl (by decide) rfl (fun ls hl => ?_)
  refine lv_iload X.1 X.2.1 dX11_beatsFree_98 (lv_at hl 0 rfl) ?_
  refine r_if_eq (tgt := 118) X dX11_beatsFree_100 (by decide) (fun q => ?_) (fun q => ?_)
  · replace hf := it_inv q hf
    refine lv_iload X.1 X.2.1 dX11_beatsFree_118 (lv_at hl 3 rfl) ?_
    cases so_inv hf
    exact r_iret X hP hS dX11_beatsFree_120
  · replace hf := ie_inv q hf
    refine lv_iload X.1 X.2.1 dX11_beatsFree_103 (lv_at hl 3 rfl) ?_
    refine lv_aload_n X.1 X.2.1 dX11_beatsFree_105 rfl (lv_at hl 1 rfl) ?_
    refine lv_iload_n X.1 X.2.1 dX11_beatsFree_106 rfl (lv_at hl 2 rfl) ?_
    refine lv_iload X.1 X.2.1 dX11_beatsFree_107 (lv_at hl 4 rfl) ?_
    obtain ⟨r1, hr1, hf⟩ := bd_inv hf
    refine k_X11_beats X hP hS hl.1  hr1 (tb t_1337 rfl) (by decide) (Nat.le_of_ble_eq_true rfl) dX11_beatsFree_109 (fun H locs hP hS => ?_)
    refine r_iconst X 2 dX11_beatsFree_112 ?_
    obtain ⟨hz2, hf⟩ := dg_inv hf
    refine r_idiv X hz2 dX11_beatsFree_113 ?_
    refine r_iadd X dX11_beatsFree_114 ?_
    refine lv_goto (tgt := 120) X.1 X.2.1 dX11_beatsFree_115 (by decide) ?_
    cases so_inv hf
    exact r_iret X hP hS dX11_beatsFree_120
set_option maxHeartbeats 4000000 in
theorem a_X11_beatsFree_95 {p : Program} {l : Launch} {e : Env} {R : Room} {s : State} {m : MethodId} {args : Array Value} {below : List Frame} {meth : Method} {c : Code} {G : GT} {σ : Mem} {res : Int} (X : CX p R s m args meth c cX11_beatsFree 9 RX11 (some FieldType.int) 4 124 G) : S_X11_beatsFree_95 (X11_beatsFree_B95 σ) p l e R s m args below meth c G σ res := by
  intro H locs ls l1 l5 l6 hP hS hf hl
  unfold X11_beatsFree_B95 at hf
  refine r_iconst X 0 dX11_beatsFree_95 ?_
  exact a_X11_beatsFree_96 X  H locs ls l1 l5 l6 0 hP hS hf hl
set_option maxHeartbeats 4000000 in
theorem a_X11_beatsFree_65 {p : Program} {l : Launch} {e : Env} {R : Room} {s : State} {m : MethodId} {args : Array Value} {below : List Frame} {meth : Method} {c : Code} {G : GT} {σ : Mem} {res : Int} (X : CX p R s m args meth c cX11_beatsFree 9 RX11 (some FieldType.int) 4 124 G) : S_X11_beatsFree_65 (X11_beatsFree_B65 σ) p l e R s m args below meth c G σ res := by
  intro H locs ls l1 l5 l6 hP hS hf hl
  unfold X11_beatsFree_B65 at hf
  refine lv_iload X.1 X.2.1 dX11_beatsFree_65 (lv_at hl 3 rfl) ?_
  refine r_if_lt (tgt := 95) X dX11_beatsFree_67 (by decide) (fun q => ?_) (fun q => ?_)
  · replace hf := it_inv q hf
    exact a_X11_beatsFree_95 X  H locs ls l1 l5 l6 hP hS hf hl
  · replace hf := ie_inv q hf
    refine lv_iload X.1 X.2.1 dX11_beatsFree_70 (lv_at hl 3 rfl) ?_
    refine lv_aload_n X.1 X.2.1 dX11_beatsFree_72 rfl (lv_at hl 0 rfl) ?_
    refine lv_iload_n X.1 X.2.1 dX11_beatsFree_73 rfl (lv_at hl 1 rfl) ?_
    obtain ⟨r1, hr1, hf⟩ := bd_inv hf
    refine k_X11_bars X hP hS hl.1  hr1 (tb t_1296 rfl) (by decide) (Nat.le_of_ble_eq_true rfl) dX11_beatsFree_74 (fun H locs hP hS => ?_)
    refine r_icmp_ge (tgt := 95) X dX11_beatsFree_77 (by decide) (fun q => ?_) (fun q => ?_)
    · replace hf := it_inv q hf
      exact a_X11_beatsFree_95 X  H locs ls l1 l5 l6 hP hS hf hl
    · replace hf := ie_inv q hf
      refine lv_aload_n X.1 X.2.1 dX11_beatsFree_80 rfl (lv_at hl 0 rfl) ?_
      refine lv_iload_n X.1 X.2.1 dX11_beatsFree_81 rfl (lv_at hl 1 rfl) ?_
      refine lv_iload X.1 X.2.1 dX11_beatsFree_82 (lv_at hl 3 rfl) ?_
      obtain ⟨r2, hr2, hf⟩ := bd_inv hf
      refine k_X11_hand X hP hS hl.1  hr2 (tb t_1333 rfl) (by decide) (Nat.le_of_ble_eq_true rfl) dX11_beatsFree_84 (fun H locs hP hS => ?_)
      refine r_iconst X 1 dX11_beatsFree_87 ?_
      refine r_icmp_ne (tgt := 95) X dX11_beatsFree_88 (by decide) (fun q => ?_) (fun q => ?_)
      · replace hf := it_inv q hf
        exact a_X11_beatsFree_95 X  H locs ls l1 l5 l6 hP hS hf hl
      · replace hf := ie_inv q hf
        refine r_iconst X 1 dX11_beatsFree_91 ?_
        refine lv_goto (tgt := 96) X.1 X.2.1 dX11_beatsFree_92 (by decide) ?_
        exact a_X11_beatsFree_96 X  H locs ls l1 l5 l6 1 hP hS hf hl
set_option maxHeartbeats 4000000 in
theorem a_X11_beatsFree_41 {p : Program} {l : Launch} {e : Env} {R : Room} {s : State} {m : MethodId} {args : Array Value} {below : List Frame} {meth : Method} {c : Code} {G : GT} {σ : Mem} {res : Int} {rec10 : Int → Int → Int → Int → Int → Option (Int)} (X : CX p R s m args meth c cX11_beatsFree 9 RX11 (some FieldType.int) 4 124 G) (h10 : S_X11_beatsFree_10 rec10 p l e R s m args below meth c G σ res) : S_X11_beatsFree_41 (X11_beatsFree_B41 rec10 σ) p l e R s m args below meth c G σ res := by
  intro H locs ls l1 l3 l5 l6 l7 hP hS hf hl
  unfold X11_beatsFree_B41 at hf
  refine lv_iload X.1 X.2.1 dX11_beatsFree_41 (lv_at hl 3 rfl) ?_
  refine lv_aload_n X.1 X.2.1 dX11_beatsFree_43 rfl (lv_at hl 0 rfl) ?_
  refine lv_iload_n X.1 X.2.1 dX11_beatsFree_44 rfl (lv_at hl 1 rfl) ?_
  refine lv_iload X.1 X.2.1 dX11_beatsFree_45 (lv_at hl 4 rfl) ?_
  obtain ⟨r1, hr1, hf⟩ := bd_inv hf
  refine k_X11_beats X hP hS hl.1  hr1 (tb t_1337 rfl) (by decide) (Nat.le_of_ble_eq_true rfl) dX11_beatsFree_47 (fun H locs hP hS => ?_)
  refine r_iadd X dX11_beatsFree_50 ?_
  obtain ⟨l5_2, el5_2, hf⟩ := lt_inv hf
  refine r_eqi el5_2 ?_
  refine lv_istore (lv' := [(5, .int (i32 l5_2)), (0, .ref (gh G + 111)), (1, .int (i32 l1)), (3, .int (i32 l3)), (6, .int (i32 l6)), (7, .int (i32 l7))]) X.1 X.2.1 dX11_beatsFree_51 hl (by decide) rfl (fun ls hl => ?_)
  refine lv_iload X.1 X.2.1 dX11_beatsFree_53 (lv_at hl 4 rfl) ?_
  refine lv_iload_n X.1 X.2.1 dX11_beatsFree_55 rfl (lv_at hl 3 rfl) ?_
  refine r_iadd X dX11_beatsFree_56 ?_
  obtain ⟨l6_3, el6_3, hf⟩ := lt_inv hf
  refine r_eqi el6_3 ?_
  refine lv_istore (lv' := [(6, .int (i32 l6_3)), (5, .int (i32 l5_2)), (0, .ref (gh G + 111)), (1, .int (i32 l1)), (3, .int (i32 l3)), (7, .int (i32 l7))]) X.1 X.2.1 dX11_beatsFree_57 hl (by decide) rfl (fun ls hl => ?_)
  obtain ⟨l7_4, el7_4, hf⟩ := lt_inv hf
  refine lv_iinc (v := i32 l7_4) (lv' := [(7, .int (i32 l7_4)), (6, .int (i32 l6_3)), (5, .int (i32 l5_2)), (0, .ref (gh G + 111)), (1, .int (i32 l1)), (3, .int (i32 l3))]) X.1 X.2.1 dX11_beatsFree_59 hl (k := 5) rfl (by rw [← el7_4]; exact i32_add _ _) (by decide) rfl (fun ls hl => ?_)
  refine lv_goto (tgt := 10) X.1 X.2.1 dX11_beatsFree_62 (by decide) ?_
  exact h10  H locs ls l1 l3 l5_2 l6_3 l7_4 hP hS hf (lv_sub hl [3, 4, 5, 2, 1, 0] rfl)
set_option maxHeartbeats 4000000 in
theorem a_X11_beatsFree_10 {p : Program} {l : Launch} {e : Env} {R : Room} {s : State} {m : MethodId} {args : Array Value} {below : List Frame} {meth : Method} {c : Code} {G : GT} {σ : Mem} {res : Int} {rec10 : Int → Int → Int → Int → Int → Option (Int)} (X : CX p R s m args meth c cX11_beatsFree 9 RX11 (some FieldType.int) 4 124 G) (h10 : S_X11_beatsFree_10 rec10 p l e R s m args below meth c G σ res) : S_X11_beatsFree_10 (X11_beatsFree_B10 rec10 σ) p l e R s m args below meth c G σ res := by
  intro H locs ls l1 l3 l5 l6 l7 hP hS hf hl
  unfold X11_beatsFree_B10 at hf
  refine lv_iload X.1 X.2.1 dX11_beatsFree_10 (lv_at hl 4 rfl) ?_
  refine r_if_lt (tgt := 65) X dX11_beatsFree_12 (by decide) (fun q => ?_) (fun q => ?_)
  · replace hf := it_inv q hf
    exact a_X11_beatsFree_65 X  H locs ls l1 l5 l6 hP hS hf (lv_sub hl [0, 1, 3, 4] rfl)
  · replace hf := ie_inv q hf
    refine lv_iload X.1 X.2.1 dX11_beatsFree_15 (lv_at hl 4 rfl) ?_
    refine lv_aload_n X.1 X.2.1 dX11_beatsFree_17 rfl (lv_at hl 0 rfl) ?_
    refine lv_iload_n X.1 X.2.1 dX11_beatsFree_18 rfl (lv_at hl 1 rfl) ?_
    obtain ⟨r1, hr1, hf⟩ := bd_inv hf
    refine k_X11_bars X hP hS hl.1  hr1 (tb t_1296 rfl) (by decide) (Nat.le_of_ble_eq_true rfl) dX11_beatsFree_19 (fun H locs hP hS => ?_)
    refine r_icmp_ge (tgt := 65) X dX11_beatsFree_22 (by decide) (fun q => ?_) (fun q => ?_)
    · replace hf := it_inv q hf
      exact a_X11_beatsFree_65 X  H locs ls l1 l5 l6 hP hS hf (lv_sub hl [0, 1, 3, 4] rfl)
    · replace hf := ie_inv q hf
      refine lv_iload X.1 X.2.1 dX11_beatsFree_25 (lv_at hl 5 rfl) ?_
      refine r_if_gt (tgt := 41) X dX11_beatsFree_27 (by decide) (fun q => ?_) (fun q => ?_)
      · replace hf := it_inv q hf
        exact a_X11_beatsFree_41 X h10  H locs ls l1 l3 l5 l6 l7 hP hS hf hl
      · replace hf := ie_inv q hf
        refine lv_aload_n X.1 X.2.1 dX11_beatsFree_30 rfl (lv_at hl 0 rfl) ?_
        refine lv_iload_n X.1 X.2.1 dX11_beatsFree_31 rfl (lv_at hl 1 rfl) ?_
        refine lv_iload X.1 X.2.1 dX11_beatsFree_32 (lv_at hl 4 rfl) ?_
        obtain ⟨r2, hr2, hf⟩ := bd_inv hf
        refine k_X11_hand X hP hS hl.1  hr2 (tb t_1333 rfl) (by decide) (Nat.le_of_ble_eq_true rfl) dX11_beatsFree_34 (fun H locs hP hS => ?_)
        refine r_iconst X 2 dX11_beatsFree_37 ?_
        refine r_icmp_ne (tgt := 65) X dX11_beatsFree_38 (by decide) (fun q => ?_) (fun q => ?_)
        · replace hf := it_inv q hf
          exact a_X11_beatsFree_65 X  H locs ls l1 l5 l6 hP hS hf (lv_sub hl [0, 1, 3, 4] rfl)
        · replace hf := ie_inv q hf
          exact a_X11_beatsFree_41 X h10  H locs ls l1 l3 l5 l6 l7 hP hS hf hl
theorem al_X11_beatsFree_10 {p : Program} {l : Launch} {e : Env} {R : Room} {s : State} {m : MethodId} {args : Array Value} {below : List Frame} {meth : Method} {c : Code} {G : GT} {σ : Mem} {res : Int} (X : CX p R s m args meth c cX11_beatsFree 9 RX11 (some FieldType.int) 4 124 G) : ∀ n, S_X11_beatsFree_10 (X11_beatsFree_L10 σ n) p l e R s m args below meth c G σ res := by
  intro n
  induction n with
  | zero =>
    intro H locs ls l1 l3 l5 l6 l7 hP hS hf hl
    cases hf
  | succ n ih => exact a_X11_beatsFree_10 X ih
set_option maxHeartbeats 4000000 in
theorem a_X11_beatsFree_0 {p : Program} {l : Launch} {e : Env} {R : Room} {s : State} {m : MethodId} {args : Array Value} {below : List Frame} {meth : Method} {c : Code} {G : GT} {σ : Mem} {res : Int} (X : CX p R s m args meth c cX11_beatsFree 9 RX11 (some FieldType.int) 4 124 G) : S_X11_beatsFree_0 (X11_beatsFree σ) p l e R s m args below meth c G σ res := by
  intro H locs ls l1 l2 l3 l4 hP hS hf hl
  unfold X11_beatsFree at hf
  refine r_iconst X 0 dX11_beatsFree_0 ?_
  refine lv_istore (lv' := [(5, .int (i32 0)), (0, .ref (gh G + 111)), (1, .int (i32 l1)), (2, .int (i32 l2)), (3, .int (i32 l3)), (4, .int (i32 l4))]) X.1 X.2.1 dX11_beatsFree_1 hl (by decide) rfl (fun ls hl => ?_)
  refine lv_iload_n X.1 X.2.1 dX11_beatsFree_3 rfl (lv_at hl 3 rfl) ?_
  refine lv_istore (lv' := [(6, .int (i32 l2)), (5, .int (i32 0)), (0, .ref (gh G + 111)), (1, .int (i32 l1)), (2, .int (i32 l2)), (3, .int (i32 l3)), (4, .int (i32 l4))]) X.1 X.2.1 dX11_beatsFree_4 hl (by decide) rfl (fun ls hl => ?_)
  refine lv_iload X.1 X.2.1 dX11_beatsFree_6 (lv_at hl 6 rfl) ?_
  refine lv_istore (lv' := [(7, .int (i32 l4)), (6, .int (i32 l2)), (5, .int (i32 0)), (0, .ref (gh G + 111)), (1, .int (i32 l1)), (2, .int (i32 l2)), (3, .int (i32 l3)), (4, .int (i32 l4))]) X.1 X.2.1 dX11_beatsFree_8 hl (by decide) rfl (fun ls hl => ?_)
  exact al_X11_beatsFree_10 X 5000  H locs ls l1 l3 0 l2 l4 hP hS hf (lv_sub hl [3, 4, 6, 2, 1, 0] rfl)
set_option maxHeartbeats 4000000 in
theorem c_X11_beatsFree {l : Launch} {G : GT} {σ : Mem} {res : Int} {l1 : Int} {l2 : Int} {l3 : Int} {l4 : Int} (hf : X11_beatsFree σ l1 l2 l3 l4 = some res) : CT l yX11_beatsFree cX11_beatsFree 9 (some FieldType.int) 4 124 G [.ref (gh G + 111), .int (i32 l1), .int (i32 l2), .int (i32 l3), .int (i32 l4)] σ σ (some (.int (i32 res))) := by
  refine CT.mk (own := RX11) (by decide) rfl (Nat.le_of_ble_eq_true rfl) ?_
  intro p e s m below meth c ls X hP hS hl
  have hl : lv_has ls 9 [(0, .ref (gh G + 111)), (1, .int (i32 l1)), (2, .int (i32 l2)), (3, .int (i32 l3)), (4, .int (i32 l4))] := hl
  exact a_X11_beatsFree_0 X  s.heap [] ls l1 l2 l3 l4 hP hS hf hl
theorem k_X11_beatsFree {p : Program} {l : Launch} {e : Env} {R : Room} {s : State} {m : MethodId} {args : Array Value} {below : List Frame} {meth : Method} {c : Code} {H : Heap} {locs : List Loc} {Q : State → Prop} {cc : ByteArray} {nL : Nat} {own : String} {ret : Option FieldType} {fF fL : Nat} {G : GT} {pc idx : Nat} {ls : Array Slot} {rest : List Value} {σ : Mem} {res : Int} {l1 : Int} {l2 : Int} {l3 : Int} {l4 : Int} (X : CX p R s m args meth c cc nL own ret fF fL G) (hP : PW G σ H) (hS : va_S (AA G) s.heap H locs) (hls : ls.size = nL) (hf : X11_beatsFree σ l1 l2 l3 l4 = some res) (h1 : Cond.methodLink own idx yX11_beatsFree ∈ TB) (hR : 4 + 1 ≤ fF ∧ 8 + (9 + 11) + 124 ≤ fL) (hW : (rest.map fun v => v.category).sum ≤ 8) (hd : decode cc pc = .ok (.invokevirtual idx, 3)) (kk : ∀ (H1 : Heap) (locs1 : List Loc), PW G σ H1 → va_S (AA G) s.heap H1 locs1 → W p l e R s m args below meth c H1 locs1 0 0 Q (F0 m (pc + 3) ls (.int (i32 res) :: rest))) : W p l e R s m args below meth c H locs 0 0 Q (F0 m pc ls (.int (i32 l4) :: .int (i32 l3) :: .int (i32 l2) :: .int (i32 l1) :: .ref (gh G + 111) :: rest)) := r_callV (n := 4) X hP hS hls (c_X11_beatsFree hf) h1 (tb t_1331 rfl) (tb t_46 rfl) (tb t_87 rfl) (tb t_1332 rfl) (by decide +kernel) hR (r_recv X hP (kd_lt ks_11 (by decide)) (cE_11 ks_11) rfl) rfl rfl hW hd kk
