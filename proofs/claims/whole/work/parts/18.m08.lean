/-! X11_of -/
theorem dX11_of_0 : decode cX11_of 0 = .ok (.aload_n 0, 1) := by decide +kernel
theorem dX11_of_1 : decode cX11_of 1 = .ok (.getfield 9, 3) := by decide +kernel
theorem dX11_of_4 : decode cX11_of 4 = .ok (.sipush 666, 3) := by decide +kernel
theorem dX11_of_7 : decode cX11_of 7 = .ok (.iconst 3, 1) := by decide +kernel
theorem dX11_of_8 : decode cX11_of 8 = .ok (.iload_n 1, 1) := by decide +kernel
theorem dX11_of_9 : decode cX11_of 9 = .ok (.imul, 1) := by decide +kernel
theorem dX11_of_10 : decode cX11_of 10 = .ok (.iadd, 1) := by decide +kernel
theorem dX11_of_11 : decode cX11_of 11 = .ok (.iload_n 2, 1) := by decide +kernel
theorem dX11_of_12 : decode cX11_of 12 = .ok (.iadd, 1) := by decide +kernel
theorem dX11_of_13 : decode cX11_of 13 = .ok (.iaload, 1) := by decide +kernel
theorem dX11_of_14 : decode cX11_of 14 = .ok (.ireturn, 1) := by decide +kernel
def X11_of (σ : Mem) (l1 : Int) (l2 : Int) : Option (Int) :=
  ag 766 ((666 + (3 * l1)) + l2) fun j1 =>
  some (σ 112 j1)
def S_X11_of_0 (fn : Int → Int → Option (Int)) (p : Program) (l : Launch) (e : Env) (R : Room) (s : State) (m : MethodId) (args : Array Value) (below : List Frame) (meth : Method) (c : Code) (G : GT) (σ : Mem) (res : Int) : Prop := ∀ (H : Heap) (locs : List Loc) (ls : Array Slot) (l1 : Int) (l2 : Int), PW G σ H → va_S (AA G) s.heap H locs → fn l1 l2 = some res → lv_has ls 3 [(0, .ref (gh G + 111)), (1, .int (i32 l1)), (2, .int (i32 l2))] → W p l e R s m args below meth c H locs 0 0 (MQ below (QM G (some (.int (i32 res))) σ) args s 0 0 (AA G)) (F0 m 0 ls [])
set_option maxHeartbeats 4000000 in
theorem a_X11_of_0 {p : Program} {l : Launch} {e : Env} {R : Room} {s : State} {m : MethodId} {args : Array Value} {below : List Frame} {meth : Method} {c : Code} {G : GT} {σ : Mem} {res : Int} (X : CX p R s m args meth c cX11_of 3 RX11 (some FieldType.int) 1 60 G) : S_X11_of_0 (X11_of σ) p l e R s m args below meth c G σ res := by
  intro H locs ls l1 l2 hP hS hf hl
  unfold X11_of at hf
  refine lv_aload_n X.1 X.2.1 dX11_of_0 rfl (lv_at hl 0 rfl) ?_
  refine g_11_0 (r := 112) X hP ks_11 rfl (tb t_1087 rfl) dX11_of_1 ?_
  refine r_sipush X 666 (by decide) dX11_of_4 ?_
  refine r_iconst X 3 dX11_of_7 ?_
  refine lv_iload_n X.1 X.2.1 dX11_of_8 rfl (lv_at hl 1 rfl) ?_
  refine r_imul X dX11_of_9 ?_
  refine r_iadd X dX11_of_10 ?_
  refine lv_iload_n X.1 X.2.1 dX11_of_11 rfl (lv_at hl 2 rfl) ?_
  refine r_iadd X dX11_of_12 ?_
  obtain ⟨j1, hij1, hjj1, hlj1, hf⟩ := ag_inv hf
  refine r_iald X hP (ch_11_0 ks_11).1 (ch_11_0 ks_11).2 hij1 hjj1 dX11_of_13 ?_
  cases so_inv hf
  exact r_iret X hP hS dX11_of_14
set_option maxHeartbeats 4000000 in
theorem c_X11_of {l : Launch} {G : GT} {σ : Mem} {res : Int} {l1 : Int} {l2 : Int} (hf : X11_of σ l1 l2 = some res) : CT l yX11_of cX11_of 3 (some FieldType.int) 1 60 G [.ref (gh G + 111), .int (i32 l1), .int (i32 l2)] σ σ (some (.int (i32 res))) := by
  refine CT.mk (own := RX11) (by decide) rfl (Nat.le_of_ble_eq_true rfl) ?_
  intro p e s m below meth c ls X hP hS hl
  have hl : lv_has ls 3 [(0, .ref (gh G + 111)), (1, .int (i32 l1)), (2, .int (i32 l2))] := hl
  exact a_X11_of_0 X  s.heap [] ls l1 l2 hP hS hf hl
theorem k_X11_of {p : Program} {l : Launch} {e : Env} {R : Room} {s : State} {m : MethodId} {args : Array Value} {below : List Frame} {meth : Method} {c : Code} {H : Heap} {locs : List Loc} {Q : State → Prop} {cc : ByteArray} {nL : Nat} {own : String} {ret : Option FieldType} {fF fL : Nat} {G : GT} {pc idx : Nat} {ls : Array Slot} {rest : List Value} {σ : Mem} {res : Int} {l1 : Int} {l2 : Int} (X : CX p R s m args meth c cc nL own ret fF fL G) (hP : PW G σ H) (hS : va_S (AA G) s.heap H locs) (hls : ls.size = nL) (hf : X11_of σ l1 l2 = some res) (h1 : Cond.methodLink own idx yX11_of ∈ TB) (hR : 1 + 1 ≤ fF ∧ 8 + (3 + 11) + 60 ≤ fL) (hW : (rest.map fun v => v.category).sum ≤ 8) (hd : decode cc pc = .ok (.invokevirtual idx, 3)) (kk : ∀ (H1 : Heap) (locs1 : List Loc), PW G σ H1 → va_S (AA G) s.heap H1 locs1 → W p l e R s m args below meth c H1 locs1 0 0 Q (F0 m (pc + 3) ls (.int (i32 res) :: rest))) : W p l e R s m args below meth c H locs 0 0 Q (F0 m pc ls (.int (i32 l2) :: .int (i32 l1) :: .ref (gh G + 111) :: rest)) := r_callV (n := 2) X hP hS hls (c_X11_of hf) h1 (tb t_1491 rfl) (tb t_70 rfl) (tb t_87 rfl) (tb t_1492 rfl) (by decide +kernel) hR (r_recv X hP (kd_lt ks_11 (by decide)) (cE_11 ks_11) rfl) rfl rfl hW hd kk
/-! X11_isUnder -/
theorem dX11_isUnder_0 : decode cX11_isUnder 0 = .ok (.iload_n 0, 1) := by decide +kernel
theorem dX11_isUnder_1 : decode cX11_isUnder 1 = .ok (.istore_n 2, 1) := by decide +kernel
theorem dX11_isUnder_2 : decode cX11_isUnder 2 = .ok (.iload_n 2, 1) := by decide +kernel
theorem dX11_isUnder_3 : decode cX11_isUnder 3 = .ok (.ifCond .lt 16, 3) := by decide +kernel
theorem dX11_isUnder_6 : decode cX11_isUnder 6 = .ok (.iload_n 2, 1) := by decide +kernel
theorem dX11_isUnder_7 : decode cX11_isUnder 7 = .ok (.iload_n 1, 1) := by decide +kernel
theorem dX11_isUnder_8 : decode cX11_isUnder 8 = .ok (.if_icmp .eq 11, 3) := by decide +kernel
theorem dX11_isUnder_11 : decode cX11_isUnder 11 = .ok (.iload_n 2, 1) := by decide +kernel
theorem dX11_isUnder_12 : decode cX11_isUnder 12 = .ok (.invokestatic 318, 3) := by decide +kernel
theorem dX11_isUnder_15 : decode cX11_isUnder 15 = .ok (.istore_n 2, 1) := by decide +kernel
theorem dX11_isUnder_16 : decode cX11_isUnder 16 = .ok (.goto (-14), 3) := by decide +kernel
theorem dX11_isUnder_19 : decode cX11_isUnder 19 = .ok (.iload_n 2, 1) := by decide +kernel
theorem dX11_isUnder_20 : decode cX11_isUnder 20 = .ok (.iload_n 1, 1) := by decide +kernel
theorem dX11_isUnder_21 : decode cX11_isUnder 21 = .ok (.if_icmp .ne 7, 3) := by decide +kernel
theorem dX11_isUnder_24 : decode cX11_isUnder 24 = .ok (.iconst 1, 1) := by decide +kernel
theorem dX11_isUnder_25 : decode cX11_isUnder 25 = .ok (.goto 4, 3) := by decide +kernel
theorem dX11_isUnder_28 : decode cX11_isUnder 28 = .ok (.iconst 0, 1) := by decide +kernel
theorem dX11_isUnder_29 : decode cX11_isUnder 29 = .ok (.ireturn, 1) := by decide +kernel
def S_X11_isUnder_2 (fn : Int → Int → Option (Int)) (p : Program) (l : Launch) (e : Env) (R : Room) (s : State) (m : MethodId) (args : Array Value) (below : List Frame) (meth : Method) (c : Code) (G : GT) (σ : Mem) (res : Int) : Prop := ∀ (H : Heap) (locs : List Loc) (ls : Array Slot) (l1 : Int) (l2 : Int), PW G σ H → va_S (AA G) s.heap H locs → fn l1 l2 = some res → lv_has ls 3 [(1, .int (i32 l1)), (2, .int (i32 l2))] → W p l e R s m args below meth c H locs 0 0 (MQ below (QM G (some (.int (i32 res))) σ) args s 0 0 (AA G)) (F0 m 2 ls [])
def X11_isUnder_B19 (σ : Mem) (l1 : Int) (l2 : Int) : Option (Int) :=
  if w32 l2 ≠ w32 l1 then
    some 0
  else
  some 1
def S_X11_isUnder_19 (fn : Int → Int → Option (Int)) (p : Program) (l : Launch) (e : Env) (R : Room) (s : State) (m : MethodId) (args : Array Value) (below : List Frame) (meth : Method) (c : Code) (G : GT) (σ : Mem) (res : Int) : Prop := ∀ (H : Heap) (locs : List Loc) (ls : Array Slot) (l1 : Int) (l2 : Int), PW G σ H → va_S (AA G) s.heap H locs → fn l1 l2 = some res → lv_has ls 3 [(1, .int (i32 l1)), (2, .int (i32 l2))] → W p l e R s m args below meth c H locs 0 0 (MQ below (QM G (some (.int (i32 res))) σ) args s 0 0 (AA G)) (F0 m 19 ls [])
def X11_isUnder_B2 (rec2 : Int → Int → Option (Int)) (σ : Mem) (l1 : Int) (l2 : Int) : Option (Int) :=
  if w32 l2 < 0 then
    X11_isUnder_B19 σ l1 l2
  else
  if w32 l2 = w32 l1 then
    X11_isUnder_B19 σ l1 l2
  else
  bd (X11_above σ l2) fun r1 =>
  rec2 l1 r1
def X11_isUnder_L2 (σ : Mem) : Nat → Int → Int → Option (Int)
  | 0 => fun _ _ => none
  | n + 1 => X11_isUnder_B2 (X11_isUnder_L2 σ n) σ
def X11_isUnder (σ : Mem) (l0 : Int) (l1 : Int) : Option (Int) :=
  X11_isUnder_L2 σ 5000 l1 l0
def S_X11_isUnder_0 (fn : Int → Int → Option (Int)) (p : Program) (l : Launch) (e : Env) (R : Room) (s : State) (m : MethodId) (args : Array Value) (below : List Frame) (meth : Method) (c : Code) (G : GT) (σ : Mem) (res : Int) : Prop := ∀ (H : Heap) (locs : List Loc) (ls : Array Slot) (l0 : Int) (l1 : Int), PW G σ H → va_S (AA G) s.heap H locs → fn l0 l1 = some res → lv_has ls 3 [(0, .int (i32 l0)), (1, .int (i32 l1))] → W p l e R s m args below meth c H locs 0 0 (MQ below (QM G (some (.int (i32 res))) σ) args s 0 0 (AA G)) (F0 m 0 ls [])
set_option maxHeartbeats 4000000 in
theorem a_X11_isUnder_19 {p : Program} {l : Launch} {e : Env} {R : Room} {s : State} {m : MethodId} {args : Array Value} {below : List Frame} {meth : Method} {c : Code} {G : GT} {σ : Mem} {res : Int} (X : CX p R s m args meth c cX11_isUnder 3 RX11 (some FieldType.boolean) 2 80 G) : S_X11_isUnder_19 (X11_isUnder_B19 σ) p l e R s m args below meth c G σ res := by
  intro H locs ls l1 l2 hP hS hf hl
  unfold X11_isUnder_B19 at hf
  refine lv_iload_n X.1 X.2.1 dX11_isUnder_19 rfl (lv_at hl 1 rfl) ?_
  refine lv_iload_n X.1 X.2.1 dX11_isUnder_20 rfl (lv_at hl 0 rfl) ?_
  refine r_icmp_ne (tgt := 28) X dX11_isUnder_21 (by decide) (fun q => ?_) (fun q => ?_)
  · replace hf := it_inv q hf
    refine r_iconst X 0 dX11_isUnder_28 ?_
    cases so_inv hf
    exact r_zret X hP hS (Or.inl rfl) dX11_isUnder_29
  · replace hf := ie_inv q hf
    refine r_iconst X 1 dX11_isUnder_24 ?_
    refine lv_goto (tgt := 29) X.1 X.2.1 dX11_isUnder_25 (by decide) ?_
    cases so_inv hf
    exact r_zret X hP hS (Or.inr rfl) dX11_isUnder_29
set_option maxHeartbeats 4000000 in
theorem a_X11_isUnder_2 {p : Program} {l : Launch} {e : Env} {R : Room} {s : State} {m : MethodId} {args : Array Value} {below : List Frame} {meth : Method} {c : Code} {G : GT} {σ : Mem} {res : Int} {rec2 : Int → Int → Option (Int)} (X : CX p R s m args meth c cX11_isUnder 3 RX11 (some FieldType.boolean) 2 80 G) (h2 : S_X11_isUnder_2 rec2 p l e R s m args below meth c G σ res) : S_X11_isUnder_2 (X11_isUnder_B2 rec2 σ) p l e R s m args below meth c G σ res := by
  intro H locs ls l1 l2 hP hS hf hl
  unfold X11_isUnder_B2 at hf
  refine lv_iload_n X.1 X.2.1 dX11_isUnder_2 rfl (lv_at hl 1 rfl) ?_
  refine r_if_lt (tgt := 19) X dX11_isUnder_3 (by decide) (fun q => ?_) (fun q => ?_)
  · replace hf := it_inv q hf
    exact a_X11_isUnder_19 X  H locs ls l1 l2 hP hS hf hl
  · replace hf := ie_inv q hf
    refine lv_iload_n X.1 X.2.1 dX11_isUnder_6 rfl (lv_at hl 1 rfl) ?_
    refine lv_iload_n X.1 X.2.1 dX11_isUnder_7 rfl (lv_at hl 0 rfl) ?_
    refine r_icmp_eq (tgt := 19) X dX11_isUnder_8 (by decide) (fun q => ?_) (fun q => ?_)
    · replace hf := it_inv q hf
      exact a_X11_isUnder_19 X  H locs ls l1 l2 hP hS hf hl
    · replace hf := ie_inv q hf
      refine lv_iload_n X.1 X.2.1 dX11_isUnder_11 rfl (lv_at hl 1 rfl) ?_
      obtain ⟨r1, hr1, hf⟩ := bd_inv hf
      refine k_X11_above X hP hS hl.1  hr1 (tb t_1525 rfl) (by decide) (Nat.le_of_ble_eq_true rfl) dX11_isUnder_12 (fun H locs hP hS => ?_)
      refine lv_istore_n (lv' := [(2, .int (i32 r1)), (1, .int (i32 l1))]) X.1 X.2.1 dX11_isUnder_15 rfl hl (by decide) rfl (fun ls hl => ?_)
      refine lv_goto (tgt := 2) X.1 X.2.1 dX11_isUnder_16 (by decide) ?_
      exact h2  H locs ls l1 r1 hP hS hf (lv_sub hl [1, 0] rfl)
theorem al_X11_isUnder_2 {p : Program} {l : Launch} {e : Env} {R : Room} {s : State} {m : MethodId} {args : Array Value} {below : List Frame} {meth : Method} {c : Code} {G : GT} {σ : Mem} {res : Int} (X : CX p R s m args meth c cX11_isUnder 3 RX11 (some FieldType.boolean) 2 80 G) : ∀ n, S_X11_isUnder_2 (X11_isUnder_L2 σ n) p l e R s m args below meth c G σ res := by
  intro n
  induction n with
  | zero =>
    intro H locs ls l1 l2 hP hS hf hl
    cases hf
  | succ n ih => exact a_X11_isUnder_2 X ih
set_option maxHeartbeats 4000000 in
theorem a_X11_isUnder_0 {p : Program} {l : Launch} {e : Env} {R : Room} {s : State} {m : MethodId} {args : Array Value} {below : List Frame} {meth : Method} {c : Code} {G : GT} {σ : Mem} {res : Int} (X : CX p R s m args meth c cX11_isUnder 3 RX11 (some FieldType.boolean) 2 80 G) : S_X11_isUnder_0 (X11_isUnder σ) p l e R s m args below meth c G σ res := by
  intro H locs ls l0 l1 hP hS hf hl
  unfold X11_isUnder at hf
  refine lv_iload_n X.1 X.2.1 dX11_isUnder_0 rfl (lv_at hl 0 rfl) ?_
  refine lv_istore_n (lv' := [(2, .int (i32 l0)), (0, .int (i32 l0)), (1, .int (i32 l1))]) X.1 X.2.1 dX11_isUnder_1 rfl hl (by decide) rfl (fun ls hl => ?_)
  exact al_X11_isUnder_2 X 5000  H locs ls l1 l0 hP hS hf (lv_sub hl [2, 0] rfl)
set_option maxHeartbeats 4000000 in
theorem c_X11_isUnder {l : Launch} {G : GT} {σ : Mem} {res : Int} {l0 : Int} {l1 : Int} (hf : X11_isUnder σ l0 l1 = some res) : CT l yX11_isUnder cX11_isUnder 3 (some FieldType.boolean) 2 80 G [.int (i32 l0), .int (i32 l1)] σ σ (some (.int (i32 res))) := by
  refine CT.mk (own := RX11) (by decide) rfl (Nat.le_of_ble_eq_true rfl) ?_
  intro p e s m below meth c ls X hP hS hl
  have hl : lv_has ls 3 [(0, .int (i32 l0)), (1, .int (i32 l1))] := hl
  exact a_X11_isUnder_0 X  s.heap [] ls l0 l1 hP hS hf hl
theorem k_X11_isUnder {p : Program} {l : Launch} {e : Env} {R : Room} {s : State} {m : MethodId} {args : Array Value} {below : List Frame} {meth : Method} {c : Code} {H : Heap} {locs : List Loc} {Q : State → Prop} {cc : ByteArray} {nL : Nat} {own : String} {ret : Option FieldType} {fF fL : Nat} {G : GT} {pc idx : Nat} {ls : Array Slot} {rest : List Value} {σ : Mem} {res : Int} {l0 : Int} {l1 : Int} (X : CX p R s m args meth c cc nL own ret fF fL G) (hP : PW G σ H) (hS : va_S (AA G) s.heap H locs) (hls : ls.size = nL) (hf : X11_isUnder σ l0 l1 = some res) (h1 : Cond.methodLink own idx yX11_isUnder ∈ TB) (hR : 2 + 1 ≤ fF ∧ 8 + (3 + 11) + 80 ≤ fL) (hW : (rest.map fun v => v.category).sum ≤ 8) (hd : decode cc pc = .ok (.invokestatic idx, 3)) (kk : ∀ (H1 : Heap) (locs1 : List Loc), PW G σ H1 → va_S (AA G) s.heap H1 locs1 → W p l e R s m args below meth c H1 locs1 0 0 Q (F0 m (pc + 3) ls (.int (i32 res) :: rest))) : W p l e R s m args below meth c H locs 0 0 Q (F0 m pc ls (.int (i32 l1) :: .int (i32 l0) :: rest)) := r_callS (n := 2) X hP hS hls (c_X11_isUnder hf) h1 (tb t_1523 rfl) (tb t_87 rfl) (tb t_1524 rfl) (by decide +kernel) hR rfl rfl hW hd kk
theorem kn_X11_isUnder {p : Program} {l : Launch} {e : Env} {R : Room} {s : State} {m : MethodId} {args : Array Value} {below : List Frame} {meth : Method} {c : Code} {H : Heap} {locs : List Loc} {Q : State → Prop} {cc : ByteArray} {nL : Nat} {own : String} {ret : Option FieldType} {fF fL : Nat} {G : GT} {pc idx : Nat} {ls : Array Slot} {rest : List Value} {σ : Mem} {res : Int} {l0 : Int} {l1 : Int} (X : CX p R s m args meth c cc nL own ret fF fL G) (hP : PW G σ H) (hS : va_S (AA G) s.heap H locs) (hls : ls.size = nL) (hf : X11_isUnder σ l0 l1 = some res) {host : String} (h1 : Cond.methodLinkNest own idx yX11_isUnder host ∈ NWl) (hR : 2 + 1 ≤ fF ∧ 8 + (3 + 11) + 80 ≤ fL) (hW : (rest.map fun v => v.category).sum ≤ 8) (hd : decode cc pc = .ok (.invokestatic idx, 3)) (kk : ∀ (H1 : Heap) (locs1 : List Loc), PW G σ H1 → va_S (AA G) s.heap H1 locs1 → W p l e R s m args below meth c H1 locs1 0 0 Q (F0 m (pc + 3) ls (.int (i32 res) :: rest))) : W p l e R s m args below meth c H locs 0 0 Q (F0 m pc ls (.int (i32 l1) :: .int (i32 l0) :: rest)) := r_callSN (n := 2) X hP hS hls (c_X11_isUnder hf) h1 (tb t_1523 rfl) (tb t_87 rfl) (tb t_1524 rfl) (by decide +kernel) hR rfl rfl hW hd kk
/-! X11_as -/
theorem dX11_as_0 : decode cX11_as 0 = .ok (.iload_n 1, 1) := by decide +kernel
theorem dX11_as_1 : decode cX11_as 1 = .ok (.i2l, 1) := by decide +kernel
theorem dX11_as_2 : decode cX11_as 2 = .ok (.lconst 0, 1) := by decide +kernel
theorem dX11_as_3 : decode cX11_as 3 = .ok (.ldc2_w 333, 3) := by decide +kernel
theorem dX11_as_6 : decode cX11_as 6 = .ok (.invokestatic 93, 3) := by decide +kernel
theorem dX11_as_9 : decode cX11_as 9 = .ok (.ifCond .eq 15, 3) := by decide +kernel
theorem dX11_as_12 : decode cX11_as 12 = .ok (.iload_n 2, 1) := by decide +kernel
theorem dX11_as_13 : decode cX11_as 13 = .ok (.i2l, 1) := by decide +kernel
theorem dX11_as_14 : decode cX11_as 14 = .ok (.lconst 0, 1) := by decide +kernel
theorem dX11_as_15 : decode cX11_as 15 = .ok (.ldc2_w 129, 3) := by decide +kernel
theorem dX11_as_18 : decode cX11_as 18 = .ok (.invokestatic 93, 3) := by decide +kernel
theorem dX11_as_21 : decode cX11_as 21 = .ok (.ifCond .ne 9, 3) := by decide +kernel
theorem dX11_as_24 : decode cX11_as 24 = .ok (.aload_n 0, 1) := by decide +kernel
theorem dX11_as_25 : decode cX11_as 25 = .ok (.iconst 0, 1) := by decide +kernel
theorem dX11_as_26 : decode cX11_as 26 = .ok (.invokevirtual 122, 3) := by decide +kernel
theorem dX11_as_29 : decode cX11_as 29 = .ok (.ireturn, 1) := by decide +kernel
theorem dX11_as_30 : decode cX11_as 30 = .ok (.aload_n 0, 1) := by decide +kernel
theorem dX11_as_31 : decode cX11_as 31 = .ok (.getfield 9, 3) := by decide +kernel
theorem dX11_as_34 : decode cX11_as 34 = .ok (.sipush 756, 3) := by decide +kernel
theorem dX11_as_37 : decode cX11_as 37 = .ok (.iload_n 1, 1) := by decide +kernel
theorem dX11_as_38 : decode cX11_as 38 = .ok (.iadd, 1) := by decide +kernel
theorem dX11_as_39 : decode cX11_as 39 = .ok (.iaload, 1) := by decide +kernel
theorem dX11_as_40 : decode cX11_as 40 = .ok (.istore_n 3, 1) := by decide +kernel
theorem dX11_as_41 : decode cX11_as 41 = .ok (.iload_n 3, 1) := by decide +kernel
theorem dX11_as_42 : decode cX11_as 42 = .ok (.ifCond .ge 9, 3) := by decide +kernel
theorem dX11_as_45 : decode cX11_as 45 = .ok (.aload_n 0, 1) := by decide +kernel
theorem dX11_as_46 : decode cX11_as 46 = .ok (.iconst 5, 1) := by decide +kernel
theorem dX11_as_47 : decode cX11_as 47 = .ok (.invokevirtual 122, 3) := by decide +kernel
theorem dX11_as_50 : decode cX11_as 50 = .ok (.ireturn, 1) := by decide +kernel
theorem dX11_as_51 : decode cX11_as 51 = .ok (.aload_n 0, 1) := by decide +kernel
theorem dX11_as_52 : decode cX11_as 52 = .ok (.iload_n 3, 1) := by decide +kernel
theorem dX11_as_53 : decode cX11_as 53 = .ok (.iconst 0, 1) := by decide +kernel
theorem dX11_as_54 : decode cX11_as 54 = .ok (.invokevirtual 321, 3) := by decide +kernel
theorem dX11_as_57 : decode cX11_as 57 = .ok (.iload_n 2, 1) := by decide +kernel
theorem dX11_as_58 : decode cX11_as 58 = .ok (.invokestatic 335, 3) := by decide +kernel
theorem dX11_as_61 : decode cX11_as 61 = .ok (.ifCond .eq 7, 3) := by decide +kernel
theorem dX11_as_64 : decode cX11_as 64 = .ok (.iload_n 3, 1) := by decide +kernel
theorem dX11_as_65 : decode cX11_as 65 = .ok (.goto 8, 3) := by decide +kernel
theorem dX11_as_68 : decode cX11_as 68 = .ok (.aload_n 0, 1) := by decide +kernel
theorem dX11_as_69 : decode cX11_as 69 = .ok (.iconst 2, 1) := by decide +kernel
theorem dX11_as_70 : decode cX11_as 70 = .ok (.invokevirtual 122, 3) := by decide +kernel
theorem dX11_as_73 : decode cX11_as 73 = .ok (.ireturn, 1) := by decide +kernel
def X11_as_B24 (σ : Mem) : Option (Int × Mem) :=
  bd2 (X11_finds σ 0) fun r1 s2 =>
  some (r1, s2)
def S_X11_as_24 (fn : Mem → Option (Int × Mem)) (p : Program) (l : Launch) (e : Env) (R : Room) (s : State) (m : MethodId) (args : Array Value) (below : List Frame) (meth : Method) (c : Code) (G : GT) (τ : Mem) (res : Int) : Prop := ∀ (σ : Mem) (H : Heap) (locs : List Loc) (ls : Array Slot), PW G σ H → va_S (AA G) s.heap H locs → fn σ = some (res, τ) → lv_has ls 4 [(0, .ref (gh G + 111))] → W p l e R s m args below meth c H locs 0 0 (MQ below (QM G (some (.int (i32 res))) τ) args s 0 0 (AA G)) (F0 m 24 ls [])
def X11_as (σ : Mem) (l1 : Int) (l2 : Int) : Option (Int × Mem) :=
  bd (X11_in σ (w32 l1) 0 9) fun r1 =>
  if w32 r1 = 0 then
    X11_as_B24 σ
  else
  bd (X11_in σ (w32 l2) 0 6) fun r2 =>
  if w32 r2 ≠ 0 then
    ag 766 (756 + l1) fun j3 =>
    lt (σ 112 j3) fun l3_4 =>
    if 0 ≤ w32 l3_4 then
      bd (X11_of σ l3_4 0) fun r5 =>
      bd (X11_isUnder σ r5 l2) fun r6 =>
      if w32 r6 = 0 then
        bd2 (X11_finds σ 2) fun r7 s8 =>
        some (r7, s8)
      else
      some (l3_4, σ)
    else
    bd2 (X11_finds σ 5) fun r9 s10 =>
    some (r9, s10)
  else
  X11_as_B24 σ
def S_X11_as_0 (fn : Mem → Int → Int → Option (Int × Mem)) (p : Program) (l : Launch) (e : Env) (R : Room) (s : State) (m : MethodId) (args : Array Value) (below : List Frame) (meth : Method) (c : Code) (G : GT) (τ : Mem) (res : Int) : Prop := ∀ (σ : Mem) (H : Heap) (locs : List Loc) (ls : Array Slot) (l1 : Int) (l2 : Int), PW G σ H → va_S (AA G) s.heap H locs → fn σ l1 l2 = some (res, τ) → lv_has ls 4 [(0, .ref (gh G + 111)), (1, .int (i32 l1)), (2, .int (i32 l2))] → W p l e R s m args below meth c H locs 0 0 (MQ below (QM G (some (.int (i32 res))) τ) args s 0 0 (AA G)) (F0 m 0 ls [])
set_option maxHeartbeats 4000000 in
theorem a_X11_as_24 {p : Program} {l : Launch} {e : Env} {R : Room} {s : State} {m : MethodId} {args : Array Value} {below : List Frame} {meth : Method} {c : Code} {G : GT} {τ : Mem} {res : Int} (X : CX p R s m args meth c cX11_as 4 RX11 (some FieldType.int) 3 102 G) : S_X11_as_24 (X11_as_B24) p l e R s m args below meth c G τ res := by
  intro σ H locs ls hP hS hf hl
  unfold X11_as_B24 at hf
  refine lv_aload_n X.1 X.2.1 dX11_as_24 rfl (lv_at hl 0 rfl) ?_
  refine r_iconst X 0 dX11_as_25 ?_
  obtain ⟨r1, s2, hr1, hf⟩ := bd2_inv hf
  refine k_X11_finds X hP hS hl.1  hr1 (tb t_1219 rfl) (by decide) (Nat.le_of_ble_eq_true rfl) dX11_as_26 (fun H locs hP hS => ?_)
  obtain ⟨rfl, rfl⟩ := so2_inv hf
  exact r_iret X hP hS dX11_as_29
set_option maxHeartbeats 4000000 in
theorem a_X11_as_0 {p : Program} {l : Launch} {e : Env} {R : Room} {s : State} {m : MethodId} {args : Array Value} {below : List Frame} {meth : Method} {c : Code} {G : GT} {τ : Mem} {res : Int} (X : CX p R s m args meth c cX11_as 4 RX11 (some FieldType.int) 3 102 G) : S_X11_as_0 (X11_as) p l e R s m args below meth c G τ res := by
  intro σ H locs ls l1 l2 hP hS hf hl
  unfold X11_as at hf
  refine lv_iload_n X.1 X.2.1 dX11_as_0 rfl (lv_at hl 1 rfl) ?_
  refine r_i2l X dX11_as_1 ?_
  refine r_lconst X 0 0 (by decide) dX11_as_2 ?_
  refine r_ldc2 X 9 (tb t_1517 rfl) (by decide) dX11_as_3 ?_
  obtain ⟨r1, hr1, hf⟩ := bd_inv hf
  refine k_X11_in X hP hS hl.1  hr1 (tb t_1208 rfl) (by decide) (Nat.le_of_ble_eq_true rfl) dX11_as_6 (fun H locs hP hS => ?_)
  refine r_if_eq (tgt := 24) X dX11_as_9 (by decide) (fun q => ?_) (fun q => ?_)
  · replace hf := it_inv q hf
    exact a_X11_as_24 X σ H locs ls  hP hS hf (lv_sub hl [0] rfl)
  · replace hf := ie_inv q hf
    refine lv_iload_n X.1 X.2.1 dX11_as_12 rfl (lv_at hl 2 rfl) ?_
    refine r_i2l X dX11_as_13 ?_
    refine r_lconst X 0 0 (by decide) dX11_as_14 ?_
    refine r_ldc2 X 6 (tb t_1230 rfl) (by decide) dX11_as_15 ?_
    obtain ⟨r2, hr2, hf⟩ := bd_inv hf
    refine k_X11_in X hP hS hl.1  hr2 (tb t_1208 rfl) (by decide) (Nat.le_of_ble_eq_true rfl) dX11_as_18 (fun H locs hP hS => ?_)
    refine r_if_ne (tgt := 30) X dX11_as_21 (by decide) (fun q => ?_) (fun q => ?_)
    · replace hf := it_inv q hf
      refine lv_aload_n X.1 X.2.1 dX11_as_30 rfl (lv_at hl 0 rfl) ?_
      refine g_11_0 (r := 112) X hP ks_11 rfl (tb t_1087 rfl) dX11_as_31 ?_
      refine r_sipush X 756 (by decide) dX11_as_34 ?_
      refine lv_iload_n X.1 X.2.1 dX11_as_37 rfl (lv_at hl 1 rfl) ?_
      refine r_iadd X dX11_as_38 ?_
      obtain ⟨j3, hij3, hjj3, hlj3, hf⟩ := ag_inv hf
      refine r_iald X hP (ch_11_0 ks_11).1 (ch_11_0 ks_11).2 hij3 hjj3 dX11_as_39 ?_
      obtain ⟨l3_4, el3_4, hf⟩ := lt_inv hf
      refine r_eqi el3_4 ?_
      refine lv_istore_n (lv' := [(3, .int (i32 l3_4)), (0, .ref (gh G + 111)), (1, .int (i32 l1)), (2, .int (i32 l2))]) X.1 X.2.1 dX11_as_40 rfl hl (by decide) rfl (fun ls hl => ?_)
      refine lv_iload_n X.1 X.2.1 dX11_as_41 rfl (lv_at hl 0 rfl) ?_
      refine r_if_ge (tgt := 51) X dX11_as_42 (by decide) (fun q => ?_) (fun q => ?_)
      · replace hf := it_inv q hf
        refine lv_aload_n X.1 X.2.1 dX11_as_51 rfl (lv_at hl 1 rfl) ?_
        refine lv_iload_n X.1 X.2.1 dX11_as_52 rfl (lv_at hl 0 rfl) ?_
        refine r_iconst X 0 dX11_as_53 ?_
        obtain ⟨r5, hr5, hf⟩ := bd_inv hf
        refine k_X11_of X hP hS hl.1  hr5 (tb t_1489 rfl) (by decide) (Nat.le_of_ble_eq_true rfl) dX11_as_54 (fun H locs hP hS => ?_)
        refine lv_iload_n X.1 X.2.1 dX11_as_57 rfl (lv_at hl 3 rfl) ?_
        obtain ⟨r6, hr6, hf⟩ := bd_inv hf
        refine k_X11_isUnder X hP hS hl.1  hr6 (tb t_1522 rfl) (by decide) (Nat.le_of_ble_eq_true rfl) dX11_as_58 (fun H locs hP hS => ?_)
        refine r_if_eq (tgt := 68) X dX11_as_61 (by decide) (fun q => ?_) (fun q => ?_)
        · replace hf := it_inv q hf
          refine lv_aload_n X.1 X.2.1 dX11_as_68 rfl (lv_at hl 1 rfl) ?_
          refine r_iconst X 2 dX11_as_69 ?_
          obtain ⟨r7, s8, hr7, hf⟩ := bd2_inv hf
          refine k_X11_finds X hP hS hl.1  hr7 (tb t_1219 rfl) (by decide) (Nat.le_of_ble_eq_true rfl) dX11_as_70 (fun H locs hP hS => ?_)
          obtain ⟨rfl, rfl⟩ := so2_inv hf
          exact r_iret X hP hS dX11_as_73
        · replace hf := ie_inv q hf
          refine lv_iload_n X.1 X.2.1 dX11_as_64 rfl (lv_at hl 0 rfl) ?_
          refine lv_goto (tgt := 73) X.1 X.2.1 dX11_as_65 (by decide) ?_
          obtain ⟨rfl, rfl⟩ := so2_inv hf
          exact r_iret X hP hS dX11_as_73
      · replace hf := ie_inv q hf
        refine lv_aload_n X.1 X.2.1 dX11_as_45 rfl (lv_at hl 1 rfl) ?_
        refine r_iconst X 5 dX11_as_46 ?_
        obtain ⟨r9, s10, hr9, hf⟩ := bd2_inv hf
        refine k_X11_finds X hP hS hl.1  hr9 (tb t_1219 rfl) (by decide) (Nat.le_of_ble_eq_true rfl) dX11_as_47 (fun H locs hP hS => ?_)
        obtain ⟨rfl, rfl⟩ := so2_inv hf
        exact r_iret X hP hS dX11_as_50
    · replace hf := ie_inv q hf
      exact a_X11_as_24 X σ H locs ls  hP hS hf (lv_sub hl [0] rfl)
set_option maxHeartbeats 4000000 in
theorem c_X11_as {l : Launch} {G : GT} {σ τ : Mem} {res : Int} {l1 : Int} {l2 : Int} (hf : X11_as σ l1 l2 = some (res, τ)) : CT l yX11_as cX11_as 4 (some FieldType.int) 3 102 G [.ref (gh G + 111), .int (i32 l1), .int (i32 l2)] σ τ (some (.int (i32 res))) := by
  refine CT.mk (own := RX11) (by decide) rfl (Nat.le_of_ble_eq_true rfl) ?_
  intro p e s m below meth c ls X hP hS hl
  have hl : lv_has ls 4 [(0, .ref (gh G + 111)), (1, .int (i32 l1)), (2, .int (i32 l2))] := hl
  exact a_X11_as_0 X σ s.heap [] ls l1 l2 hP hS hf hl
theorem k_X11_as {p : Program} {l : Launch} {e : Env} {R : Room} {s : State} {m : MethodId} {args : Array Value} {below : List Frame} {meth : Method} {c : Code} {H : Heap} {locs : List Loc} {Q : State → Prop} {cc : ByteArray} {nL : Nat} {own : String} {ret : Option FieldType} {fF fL : Nat} {G : GT} {pc idx : Nat} {ls : Array Slot} {rest : List Value} {σ τ : Mem} {res : Int} {l1 : Int} {l2 : Int} (X : CX p R s m args meth c cc nL own ret fF fL G) (hP : PW G σ H) (hS : va_S (AA G) s.heap H locs) (hls : ls.size = nL) (hf : X11_as σ l1 l2 = some (res, τ)) (h1 : Cond.methodLink own idx yX11_as ∈ TB) (hR : 3 + 1 ≤ fF ∧ 8 + (4 + 11) + 102 ≤ fL) (hW : (rest.map fun v => v.category).sum ≤ 8) (hd : decode cc pc = .ok (.invokevirtual idx, 3)) (kk : ∀ (H1 : Heap) (locs1 : List Loc), PW G τ H1 → va_S (AA G) s.heap H1 locs1 → W p l e R s m args below meth c H1 locs1 0 0 Q (F0 m (pc + 3) ls (.int (i32 res) :: rest))) : W p l e R s m args below meth c H locs 0 0 Q (F0 m pc ls (.int (i32 l2) :: .int (i32 l1) :: .ref (gh G + 111) :: rest)) := r_callV (n := 2) X hP hS hls (c_X11_as hf) h1 (tb t_1519 rfl) (tb t_1520 rfl) (tb t_87 rfl) (tb t_1521 rfl) (by decide +kernel) hR (r_recv X hP (kd_lt ks_11 (by decide)) (cE_11 ks_11) rfl) rfl rfl hW hd kk
/-! X11_isPart -/
theorem dX11_isPart_0 : decode cX11_isPart 0 = .ok (.iload_n 0, 1) := by decide +kernel
theorem dX11_isPart_1 : decode cX11_isPart 1 = .ok (.i2l, 1) := by decide +kernel
theorem dX11_isPart_2 : decode cX11_isPart 2 = .ok (.lconst 0, 1) := by decide +kernel
theorem dX11_isPart_3 : decode cX11_isPart 3 = .ok (.ldc2_w 91, 3) := by decide +kernel
theorem dX11_isPart_6 : decode cX11_isPart 6 = .ok (.invokestatic 93, 3) := by decide +kernel
theorem dX11_isPart_9 : decode cX11_isPart 9 = .ok (.ireturn, 1) := by decide +kernel
def X11_isPart (σ : Mem) (l0 : Int) : Option (Int) :=
  bd (X11_in σ (w32 l0) 0 3) fun r1 =>
  bg r1 <|
  some r1
def S_X11_isPart_0 (fn : Int → Option (Int)) (p : Program) (l : Launch) (e : Env) (R : Room) (s : State) (m : MethodId) (args : Array Value) (below : List Frame) (meth : Method) (c : Code) (G : GT) (σ : Mem) (res : Int) : Prop := ∀ (H : Heap) (locs : List Loc) (ls : Array Slot) (l0 : Int), PW G σ H → va_S (AA G) s.heap H locs → fn l0 = some res → lv_has ls 1 [(0, .int (i32 l0))] → W p l e R s m args below meth c H locs 0 0 (MQ below (QM G (some (.int (i32 res))) σ) args s 0 0 (AA G)) (F0 m 0 ls [])
set_option maxHeartbeats 4000000 in
theorem a_X11_isPart_0 {p : Program} {l : Launch} {e : Env} {R : Room} {s : State} {m : MethodId} {args : Array Value} {below : List Frame} {meth : Method} {c : Code} {G : GT} {σ : Mem} {res : Int} (X : CX p R s m args meth c cX11_isPart 1 RX11 (some FieldType.boolean) 2 85 G) : S_X11_isPart_0 (X11_isPart σ) p l e R s m args below meth c G σ res := by
  intro H locs ls l0 hP hS hf hl
  unfold X11_isPart at hf
  refine lv_iload_n X.1 X.2.1 dX11_isPart_0 rfl (lv_at hl 0 rfl) ?_
  refine r_i2l X dX11_isPart_1 ?_
  refine r_lconst X 0 0 (by decide) dX11_isPart_2 ?_
  refine r_ldc2 X 3 (tb t_1207 rfl) (by decide) dX11_isPart_3 ?_
  obtain ⟨r1, hr1, hf⟩ := bd_inv hf
  refine k_X11_in X hP hS hl.1  hr1 (tb t_1208 rfl) (by decide) (Nat.le_of_ble_eq_true rfl) dX11_isPart_6 (fun H locs hP hS => ?_)
  obtain ⟨hb2, hf⟩ := bg_inv hf
  cases so_inv hf
  exact r_zret X hP hS hb2 dX11_isPart_9
set_option maxHeartbeats 4000000 in
theorem c_X11_isPart {l : Launch} {G : GT} {σ : Mem} {res : Int} {l0 : Int} (hf : X11_isPart σ l0 = some res) : CT l yX11_isPart cX11_isPart 1 (some FieldType.boolean) 2 85 G [.int (i32 l0)] σ σ (some (.int (i32 res))) := by
  refine CT.mk (own := RX11) (by decide) rfl (Nat.le_of_ble_eq_true rfl) ?_
  intro p e s m below meth c ls X hP hS hl
  have hl : lv_has ls 1 [(0, .int (i32 l0))] := hl
  exact a_X11_isPart_0 X  s.heap [] ls l0 hP hS hf hl
theorem k_X11_isPart {p : Program} {l : Launch} {e : Env} {R : Room} {s : State} {m : MethodId} {args : Array Value} {below : List Frame} {meth : Method} {c : Code} {H : Heap} {locs : List Loc} {Q : State → Prop} {cc : ByteArray} {nL : Nat} {own : String} {ret : Option FieldType} {fF fL : Nat} {G : GT} {pc idx : Nat} {ls : Array Slot} {rest : List Value} {σ : Mem} {res : Int} {l0 : Int} (X : CX p R s m args meth c cc nL own ret fF fL G) (hP : PW G σ H) (hS : va_S (AA G) s.heap H locs) (hls : ls.size = nL) (hf : X11_isPart σ l0 = some res) (h1 : Cond.methodLink own idx yX11_isPart ∈ TB) (hR : 2 + 1 ≤ fF ∧ 8 + (1 + 11) + 85 ≤ fL) (hW : (rest.map fun v => v.category).sum ≤ 8) (hd : decode cc pc = .ok (.invokestatic idx, 3)) (kk : ∀ (H1 : Heap) (locs1 : List Loc), PW G σ H1 → va_S (AA G) s.heap H1 locs1 → W p l e R s m args below meth c H1 locs1 0 0 Q (F0 m (pc + 3) ls (.int (i32 res) :: rest))) : W p l e R s m args below meth c H locs 0 0 Q (F0 m pc ls (.int (i32 l0) :: rest)) := r_callS (n := 1) X hP hS hls (c_X11_isPart hf) h1 (tb t_1205 rfl) (tb t_87 rfl) (tb t_1206 rfl) (by decide +kernel) hR rfl rfl hW hd kk
theorem kn_X11_isPart {p : Program} {l : Launch} {e : Env} {R : Room} {s : State} {m : MethodId} {args : Array Value} {below : List Frame} {meth : Method} {c : Code} {H : Heap} {locs : List Loc} {Q : State → Prop} {cc : ByteArray} {nL : Nat} {own : String} {ret : Option FieldType} {fF fL : Nat} {G : GT} {pc idx : Nat} {ls : Array Slot} {rest : List Value} {σ : Mem} {res : Int} {l0 : Int} (X : CX p R s m args meth c cc nL own ret fF fL G) (hP : PW G σ H) (hS : va_S (AA G) s.heap H locs) (hls : ls.size = nL) (hf : X11_isPart σ l0 = some res) {host : String} (h1 : Cond.methodLinkNest own idx yX11_isPart host ∈ NWl) (hR : 2 + 1 ≤ fF ∧ 8 + (1 + 11) + 85 ≤ fL) (hW : (rest.map fun v => v.category).sum ≤ 8) (hd : decode cc pc = .ok (.invokestatic idx, 3)) (kk : ∀ (H1 : Heap) (locs1 : List Loc), PW G σ H1 → va_S (AA G) s.heap H1 locs1 → W p l e R s m args below meth c H1 locs1 0 0 Q (F0 m (pc + 3) ls (.int (i32 res) :: rest))) : W p l e R s m args below meth c H locs 0 0 Q (F0 m pc ls (.int (i32 l0) :: rest)) := r_callSN (n := 1) X hP hS hls (c_X11_isPart hf) h1 (tb t_1205 rfl) (tb t_87 rfl) (tb t_1206 rfl) (by decide +kernel) hR rfl rfl hW hd kk
/-! X11_isBar -/
theorem dX11_isBar_0 : decode cX11_isBar 0 = .ok (.iload_n 1, 1) := by decide +kernel
theorem dX11_isBar_1 : decode cX11_isBar 1 = .ok (.invokestatic 97, 3) := by decide +kernel
theorem dX11_isBar_4 : decode cX11_isBar 4 = .ok (.ifCond .eq 24, 3) := by decide +kernel
theorem dX11_isBar_7 : decode cX11_isBar 7 = .ok (.iload_n 2, 1) := by decide +kernel
theorem dX11_isBar_8 : decode cX11_isBar 8 = .ok (.i2l, 1) := by decide +kernel
theorem dX11_isBar_9 : decode cX11_isBar 9 = .ok (.lconst 0, 1) := by decide +kernel
theorem dX11_isBar_10 : decode cX11_isBar 10 = .ok (.aload_n 0, 1) := by decide +kernel
theorem dX11_isBar_11 : decode cX11_isBar 11 = .ok (.iload_n 1, 1) := by decide +kernel
theorem dX11_isBar_12 : decode cX11_isBar 12 = .ok (.invokevirtual 101, 3) := by decide +kernel
theorem dX11_isBar_15 : decode cX11_isBar 15 = .ok (.iconst 1, 1) := by decide +kernel
theorem dX11_isBar_16 : decode cX11_isBar 16 = .ok (.isub, 1) := by decide +kernel
theorem dX11_isBar_17 : decode cX11_isBar 17 = .ok (.i2l, 1) := by decide +kernel
theorem dX11_isBar_18 : decode cX11_isBar 18 = .ok (.invokestatic 93, 3) := by decide +kernel
theorem dX11_isBar_21 : decode cX11_isBar 21 = .ok (.ifCond .eq 7, 3) := by decide +kernel
theorem dX11_isBar_24 : decode cX11_isBar 24 = .ok (.iconst 1, 1) := by decide +kernel
theorem dX11_isBar_25 : decode cX11_isBar 25 = .ok (.goto 4, 3) := by decide +kernel
theorem dX11_isBar_28 : decode cX11_isBar 28 = .ok (.iconst 0, 1) := by decide +kernel
theorem dX11_isBar_29 : decode cX11_isBar 29 = .ok (.ireturn, 1) := by decide +kernel
def X11_isBar (σ : Mem) (l1 : Int) (l2 : Int) : Option (Int) :=
  bd (X11_isPart σ l1) fun r1 =>
  if w32 r1 = 0 then
    some 0
  else
  bd (X11_bars σ l1) fun r2 =>
  bd (X11_in σ (w32 l2) 0 (w32 (r2 - 1))) fun r3 =>
  if w32 r3 = 0 then
    some 0
  else
  some 1
def S_X11_isBar_0 (fn : Int → Int → Option (Int)) (p : Program) (l : Launch) (e : Env) (R : Room) (s : State) (m : MethodId) (args : Array Value) (below : List Frame) (meth : Method) (c : Code) (G : GT) (σ : Mem) (res : Int) : Prop := ∀ (H : Heap) (locs : List Loc) (ls : Array Slot) (l1 : Int) (l2 : Int), PW G σ H → va_S (AA G) s.heap H locs → fn l1 l2 = some res → lv_has ls 3 [(0, .ref (gh G + 111)), (1, .int (i32 l1)), (2, .int (i32 l2))] → W p l e R s m args below meth c H locs 0 0 (MQ below (QM G (some (.int (i32 res))) σ) args s 0 0 (AA G)) (F0 m 0 ls [])
set_option maxHeartbeats 4000000 in
theorem a_X11_isBar_0 {p : Program} {l : Launch} {e : Env} {R : Room} {s : State} {m : MethodId} {args : Array Value} {below : List Frame} {meth : Method} {c : Code} {G : GT} {σ : Mem} {res : Int} (X : CX p R s m args meth c cX11_isBar 3 RX11 (some FieldType.boolean) 3 105 G) : S_X11_isBar_0 (X11_isBar σ) p l e R s m args below meth c G σ res := by
  intro H locs ls l1 l2 hP hS hf hl
  unfold X11_isBar at hf
  refine lv_iload_n X.1 X.2.1 dX11_isBar_0 rfl (lv_at hl 1 rfl) ?_
  obtain ⟨r1, hr1, hf⟩ := bd_inv hf
  refine k_X11_isPart X hP hS hl.1  hr1 (tb t_1204 rfl) (by decide) (Nat.le_of_ble_eq_true rfl) dX11_isBar_1 (fun H locs hP hS => ?_)
  refine r_if_eq (tgt := 28) X dX11_isBar_4 (by decide) (fun q => ?_) (fun q => ?_)
  · replace hf := it_inv q hf
    refine r_iconst X 0 dX11_isBar_28 ?_
    cases so_inv hf
    exact r_zret X hP hS (Or.inl rfl) dX11_isBar_29
  · replace hf := ie_inv q hf
    refine lv_iload_n X.1 X.2.1 dX11_isBar_7 rfl (lv_at hl 2 rfl) ?_
    refine r_i2l X dX11_isBar_8 ?_
    refine r_lconst X 0 0 (by decide) dX11_isBar_9 ?_
    refine lv_aload_n X.1 X.2.1 dX11_isBar_10 rfl (lv_at hl 0 rfl) ?_
    refine lv_iload_n X.1 X.2.1 dX11_isBar_11 rfl (lv_at hl 1 rfl) ?_
    obtain ⟨r2, hr2, hf⟩ := bd_inv hf
    refine k_X11_bars X hP hS hl.1  hr2 (tb t_1296 rfl) (by decide) (Nat.le_of_ble_eq_true rfl) dX11_isBar_12 (fun H locs hP hS => ?_)
    refine r_iconst X 1 dX11_isBar_15 ?_
    refine r_isub X dX11_isBar_16 ?_
    refine r_i2l X dX11_isBar_17 ?_
    obtain ⟨r3, hr3, hf⟩ := bd_inv hf
    refine k_X11_in X hP hS hl.1  hr3 (tb t_1208 rfl) (by decide) (Nat.le_of_ble_eq_true rfl) dX11_isBar_18 (fun H locs hP hS => ?_)
    refine r_if_eq (tgt := 28) X dX11_isBar_21 (by decide) (fun q => ?_) (fun q => ?_)
    · replace hf := it_inv q hf
      refine r_iconst X 0 dX11_isBar_28 ?_
      cases so_inv hf
      exact r_zret X hP hS (Or.inl rfl) dX11_isBar_29
    · replace hf := ie_inv q hf
      refine r_iconst X 1 dX11_isBar_24 ?_
      refine lv_goto (tgt := 29) X.1 X.2.1 dX11_isBar_25 (by decide) ?_
      cases so_inv hf
      exact r_zret X hP hS (Or.inr rfl) dX11_isBar_29
set_option maxHeartbeats 4000000 in
theorem c_X11_isBar {l : Launch} {G : GT} {σ : Mem} {res : Int} {l1 : Int} {l2 : Int} (hf : X11_isBar σ l1 l2 = some res) : CT l yX11_isBar cX11_isBar 3 (some FieldType.boolean) 3 105 G [.ref (gh G + 111), .int (i32 l1), .int (i32 l2)] σ σ (some (.int (i32 res))) := by
  refine CT.mk (own := RX11) (by decide) rfl (Nat.le_of_ble_eq_true rfl) ?_
  intro p e s m below meth c ls X hP hS hl
  have hl : lv_has ls 3 [(0, .ref (gh G + 111)), (1, .int (i32 l1)), (2, .int (i32 l2))] := hl
  exact a_X11_isBar_0 X  s.heap [] ls l1 l2 hP hS hf hl
theorem k_X11_isBar {p : Program} {l : Launch} {e : Env} {R : Room} {s : State} {m : MethodId} {args : Array Value} {below : List Frame} {meth : Method} {c : Code} {H : Heap} {locs : List Loc} {Q : State → Prop} {cc : ByteArray} {nL : Nat} {own : String} {ret : Option FieldType} {fF fL : Nat} {G : GT} {pc idx : Nat} {ls : Array Slot} {rest : List Value} {σ : Mem} {res : Int} {l1 : Int} {l2 : Int} (X : CX p R s m args meth c cc nL own ret fF fL G) (hP : PW G σ H) (hS : va_S (AA G) s.heap H locs) (hls : ls.size = nL) (hf : X11_isBar σ l1 l2 = some res) (h1 : Cond.methodLink own idx yX11_isBar ∈ TB) (hR : 3 + 1 ≤ fF ∧ 8 + (3 + 11) + 105 ≤ fL) (hW : (rest.map fun v => v.category).sum ≤ 8) (hd : decode cc pc = .ok (.invokevirtual idx, 3)) (kk : ∀ (H1 : Heap) (locs1 : List Loc), PW G σ H1 → va_S (AA G) s.heap H1 locs1 → W p l e R s m args below meth c H1 locs1 0 0 Q (F0 m (pc + 3) ls (.int (i32 res) :: rest))) : W p l e R s m args below meth c H locs 0 0 Q (F0 m pc ls (.int (i32 l2) :: .int (i32 l1) :: .ref (gh G + 111) :: rest)) := r_callV (n := 2) X hP hS hls (c_X11_isBar hf) h1 (tb t_1309 rfl) (tb t_44 rfl) (tb t_87 rfl) (tb t_1310 rfl) (by decide +kernel) hR (r_recv X hP (kd_lt ks_11 (by decide)) (cE_11 ks_11) rfl) rfl rfl hW hd kk
/-! X11_bar -/
theorem dX11_bar_0 : decode cX11_bar 0 = .ok (.aload_n 0, 1) := by decide +kernel
theorem dX11_bar_1 : decode cX11_bar 1 = .ok (.iload_n 1, 1) := by decide +kernel
theorem dX11_bar_2 : decode cX11_bar 2 = .ok (.iload_n 2, 1) := by decide +kernel
theorem dX11_bar_3 : decode cX11_bar 3 = .ok (.invokevirtual 211, 3) := by decide +kernel
theorem dX11_bar_6 : decode cX11_bar 6 = .ok (.ifCond .eq 29, 3) := by decide +kernel
theorem dX11_bar_9 : decode cX11_bar 9 = .ok (.iload_n 3, 1) := by decide +kernel
theorem dX11_bar_10 : decode cX11_bar 10 = .ok (.i2l, 1) := by decide +kernel
theorem dX11_bar_11 : decode cX11_bar 11 = .ok (.lconst 0, 1) := by decide +kernel
theorem dX11_bar_12 : decode cX11_bar 12 = .ok (.ldc2_w 91, 3) := by decide +kernel
theorem dX11_bar_15 : decode cX11_bar 15 = .ok (.invokestatic 93, 3) := by decide +kernel
theorem dX11_bar_18 : decode cX11_bar 18 = .ok (.ifCond .eq 17, 3) := by decide +kernel
theorem dX11_bar_21 : decode cX11_bar 21 = .ok (.aload_n 0, 1) := by decide +kernel
theorem dX11_bar_22 : decode cX11_bar 22 = .ok (.getfield 9, 3) := by decide +kernel
theorem dX11_bar_25 : decode cX11_bar 25 = .ok (.iload_n 1, 1) := by decide +kernel
theorem dX11_bar_26 : decode cX11_bar 26 = .ok (.iload_n 2, 1) := by decide +kernel
theorem dX11_bar_27 : decode cX11_bar 27 = .ok (.iload_n 3, 1) := by decide +kernel
theorem dX11_bar_28 : decode cX11_bar 28 = .ok (.invokestatic 104, 3) := by decide +kernel
theorem dX11_bar_31 : decode cX11_bar 31 = .ok (.iaload, 1) := by decide +kernel
theorem dX11_bar_32 : decode cX11_bar 32 = .ok (.goto 8, 3) := by decide +kernel
theorem dX11_bar_35 : decode cX11_bar 35 = .ok (.aload_n 0, 1) := by decide +kernel
theorem dX11_bar_36 : decode cX11_bar 36 = .ok (.iconst 0, 1) := by decide +kernel
theorem dX11_bar_37 : decode cX11_bar 37 = .ok (.invokevirtual 122, 3) := by decide +kernel
theorem dX11_bar_40 : decode cX11_bar 40 = .ok (.ireturn, 1) := by decide +kernel
def X11_bar_B35 (σ : Mem) : Option (Int × Mem) :=
  bd2 (X11_finds σ 0) fun r1 s2 =>
  some (r1, s2)
def S_X11_bar_35 (fn : Mem → Option (Int × Mem)) (p : Program) (l : Launch) (e : Env) (R : Room) (s : State) (m : MethodId) (args : Array Value) (below : List Frame) (meth : Method) (c : Code) (G : GT) (τ : Mem) (res : Int) : Prop := ∀ (σ : Mem) (H : Heap) (locs : List Loc) (ls : Array Slot), PW G σ H → va_S (AA G) s.heap H locs → fn σ = some (res, τ) → lv_has ls 4 [(0, .ref (gh G + 111))] → W p l e R s m args below meth c H locs 0 0 (MQ below (QM G (some (.int (i32 res))) τ) args s 0 0 (AA G)) (F0 m 35 ls [])
def X11_bar (σ : Mem) (l1 : Int) (l2 : Int) (l3 : Int) : Option (Int × Mem) :=
  bd (X11_isBar σ l1 l2) fun r1 =>
  if w32 r1 = 0 then
    X11_bar_B35 σ
  else
  bd (X11_in σ (w32 l3) 0 3) fun r2 =>
  if w32 r2 = 0 then
    X11_bar_B35 σ
  else
  bd (X11_at σ l1 l2 l3) fun r3 =>
  ag 766 r3 fun j4 =>
  some (σ 112 j4, σ)
def S_X11_bar_0 (fn : Mem → Int → Int → Int → Option (Int × Mem)) (p : Program) (l : Launch) (e : Env) (R : Room) (s : State) (m : MethodId) (args : Array Value) (below : List Frame) (meth : Method) (c : Code) (G : GT) (τ : Mem) (res : Int) : Prop := ∀ (σ : Mem) (H : Heap) (locs : List Loc) (ls : Array Slot) (l1 : Int) (l2 : Int) (l3 : Int), PW G σ H → va_S (AA G) s.heap H locs → fn σ l1 l2 l3 = some (res, τ) → lv_has ls 4 [(0, .ref (gh G + 111)), (1, .int (i32 l1)), (2, .int (i32 l2)), (3, .int (i32 l3))] → W p l e R s m args below meth c H locs 0 0 (MQ below (QM G (some (.int (i32 res))) τ) args s 0 0 (AA G)) (F0 m 0 ls [])
set_option maxHeartbeats 4000000 in
theorem a_X11_bar_35 {p : Program} {l : Launch} {e : Env} {R : Room} {s : State} {m : MethodId} {args : Array Value} {below : List Frame} {meth : Method} {c : Code} {G : GT} {τ : Mem} {res : Int} (X : CX p R s m args meth c cX11_bar 4 RX11 (some FieldType.int) 4 127 G) : S_X11_bar_35 (X11_bar_B35) p l e R s m args below meth c G τ res := by
  intro σ H locs ls hP hS hf hl
  unfold X11_bar_B35 at hf
  refine lv_aload_n X.1 X.2.1 dX11_bar_35 rfl (lv_at hl 0 rfl) ?_
  refine r_iconst X 0 dX11_bar_36 ?_
  obtain ⟨r1, s2, hr1, hf⟩ := bd2_inv hf
  refine k_X11_finds X hP hS hl.1  hr1 (tb t_1219 rfl) (by decide) (Nat.le_of_ble_eq_true rfl) dX11_bar_37 (fun H locs hP hS => ?_)
  obtain ⟨rfl, rfl⟩ := so2_inv hf
  exact r_iret X hP hS dX11_bar_40
set_option maxHeartbeats 4000000 in
theorem a_X11_bar_0 {p : Program} {l : Launch} {e : Env} {R : Room} {s : State} {m : MethodId} {args : Array Value} {below : List Frame} {meth : Method} {c : Code} {G : GT} {τ : Mem} {res : Int} (X : CX p R s m args meth c cX11_bar 4 RX11 (some FieldType.int) 4 127 G) : S_X11_bar_0 (X11_bar) p l e R s m args below meth c G τ res := by
  intro σ H locs ls l1 l2 l3 hP hS hf hl
  unfold X11_bar at hf
  refine lv_aload_n X.1 X.2.1 dX11_bar_0 rfl (lv_at hl 0 rfl) ?_
  refine lv_iload_n X.1 X.2.1 dX11_bar_1 rfl (lv_at hl 1 rfl) ?_
  refine lv_iload_n X.1 X.2.1 dX11_bar_2 rfl (lv_at hl 2 rfl) ?_
  obtain ⟨r1, hr1, hf⟩ := bd_inv hf
  refine k_X11_isBar X hP hS hl.1  hr1 (tb t_1307 rfl) (by decide) (Nat.le_of_ble_eq_true rfl) dX11_bar_3 (fun H locs hP hS => ?_)
  refine r_if_eq (tgt := 35) X dX11_bar_6 (by decide) (fun q => ?_) (fun q => ?_)
  · replace hf := it_inv q hf
    exact a_X11_bar_35 X σ H locs ls  hP hS hf (lv_sub hl [0] rfl)
  · replace hf := ie_inv q hf
    refine lv_iload_n X.1 X.2.1 dX11_bar_9 rfl (lv_at hl 3 rfl) ?_
    refine r_i2l X dX11_bar_10 ?_
    refine r_lconst X 0 0 (by decide) dX11_bar_11 ?_
    refine r_ldc2 X 3 (tb t_1207 rfl) (by decide) dX11_bar_12 ?_
    obtain ⟨r2, hr2, hf⟩ := bd_inv hf
    refine k_X11_in X hP hS hl.1  hr2 (tb t_1208 rfl) (by decide) (Nat.le_of_ble_eq_true rfl) dX11_bar_15 (fun H locs hP hS => ?_)
    refine r_if_eq (tgt := 35) X dX11_bar_18 (by decide) (fun q => ?_) (fun q => ?_)
    · replace hf := it_inv q hf
      exact a_X11_bar_35 X σ H locs ls  hP hS hf (lv_sub hl [0] rfl)
    · replace hf := ie_inv q hf
      refine lv_aload_n X.1 X.2.1 dX11_bar_21 rfl (lv_at hl 0 rfl) ?_
      refine g_11_0 (r := 112) X hP ks_11 rfl (tb t_1087 rfl) dX11_bar_22 ?_
      refine lv_iload_n X.1 X.2.1 dX11_bar_25 rfl (lv_at hl 1 rfl) ?_
      refine lv_iload_n X.1 X.2.1 dX11_bar_26 rfl (lv_at hl 2 rfl) ?_
      refine lv_iload_n X.1 X.2.1 dX11_bar_27 rfl (lv_at hl 3 rfl) ?_
      obtain ⟨r3, hr3, hf⟩ := bd_inv hf
      refine k_X11_at X hP hS hl.1  hr3 (tb t_1300 rfl) (by decide) (Nat.le_of_ble_eq_true rfl) dX11_bar_28 (fun H locs hP hS => ?_)
      obtain ⟨j4, hij4, hjj4, hlj4, hf⟩ := ag_inv hf
      refine r_iald X hP (ch_11_0 ks_11).1 (ch_11_0 ks_11).2 hij4 hjj4 dX11_bar_31 ?_
      refine lv_goto (tgt := 40) X.1 X.2.1 dX11_bar_32 (by decide) ?_
      obtain ⟨rfl, rfl⟩ := so2_inv hf
      exact r_iret X hP hS dX11_bar_40
set_option maxHeartbeats 4000000 in
theorem c_X11_bar {l : Launch} {G : GT} {σ τ : Mem} {res : Int} {l1 : Int} {l2 : Int} {l3 : Int} (hf : X11_bar σ l1 l2 l3 = some (res, τ)) : CT l yX11_bar cX11_bar 4 (some FieldType.int) 4 127 G [.ref (gh G + 111), .int (i32 l1), .int (i32 l2), .int (i32 l3)] σ τ (some (.int (i32 res))) := by
  refine CT.mk (own := RX11) (by decide) rfl (Nat.le_of_ble_eq_true rfl) ?_
  intro p e s m below meth c ls X hP hS hl
  have hl : lv_has ls 4 [(0, .ref (gh G + 111)), (1, .int (i32 l1)), (2, .int (i32 l2)), (3, .int (i32 l3))] := hl
  exact a_X11_bar_0 X σ s.heap [] ls l1 l2 l3 hP hS hf hl
theorem k_X11_bar {p : Program} {l : Launch} {e : Env} {R : Room} {s : State} {m : MethodId} {args : Array Value} {below : List Frame} {meth : Method} {c : Code} {H : Heap} {locs : List Loc} {Q : State → Prop} {cc : ByteArray} {nL : Nat} {own : String} {ret : Option FieldType} {fF fL : Nat} {G : GT} {pc idx : Nat} {ls : Array Slot} {rest : List Value} {σ τ : Mem} {res : Int} {l1 : Int} {l2 : Int} {l3 : Int} (X : CX p R s m args meth c cc nL own ret fF fL G) (hP : PW G σ H) (hS : va_S (AA G) s.heap H locs) (hls : ls.size = nL) (hf : X11_bar σ l1 l2 l3 = some (res, τ)) (h1 : Cond.methodLink own idx yX11_bar ∈ TB) (hR : 4 + 1 ≤ fF ∧ 8 + (4 + 11) + 127 ≤ fL) (hW : (rest.map fun v => v.category).sum ≤ 8) (hd : decode cc pc = .ok (.invokevirtual idx, 3)) (kk : ∀ (H1 : Heap) (locs1 : List Loc), PW G τ H1 → va_S (AA G) s.heap H1 locs1 → W p l e R s m args below meth c H1 locs1 0 0 Q (F0 m (pc + 3) ls (.int (i32 res) :: rest))) : W p l e R s m args below meth c H locs 0 0 Q (F0 m pc ls (.int (i32 l3) :: .int (i32 l2) :: .int (i32 l1) :: .ref (gh G + 111) :: rest)) := r_callV (n := 3) X hP hS hls (c_X11_bar hf) h1 (tb t_1304 rfl) (tb t_1305 rfl) (tb t_87 rfl) (tb t_1306 rfl) (by decide +kernel) hR (r_recv X hP (kd_lt ks_11 (by decide)) (cE_11 ks_11) rfl) rfl rfl hW hd kk
/-! X11_barsInAll -/
theorem dX11_barsInAll_0 : decode cX11_barsInAll 0 = .ok (.iconst 0, 1) := by decide +kernel
theorem dX11_barsInAll_1 : decode cX11_barsInAll 1 = .ok (.istore_n 1, 1) := by decide +kernel
theorem dX11_barsInAll_2 : decode cX11_barsInAll 2 = .ok (.iconst 0, 1) := by decide +kernel
theorem dX11_barsInAll_3 : decode cX11_barsInAll 3 = .ok (.istore_n 2, 1) := by decide +kernel
theorem dX11_barsInAll_4 : decode cX11_barsInAll 4 = .ok (.iload_n 2, 1) := by decide +kernel
theorem dX11_barsInAll_5 : decode cX11_barsInAll 5 = .ok (.iconst 4, 1) := by decide +kernel
theorem dX11_barsInAll_6 : decode cX11_barsInAll 6 = .ok (.if_icmp .ge 17, 3) := by decide +kernel
theorem dX11_barsInAll_9 : decode cX11_barsInAll 9 = .ok (.iload_n 1, 1) := by decide +kernel
theorem dX11_barsInAll_10 : decode cX11_barsInAll 10 = .ok (.aload_n 0, 1) := by decide +kernel
theorem dX11_barsInAll_11 : decode cX11_barsInAll 11 = .ok (.iload_n 2, 1) := by decide +kernel
theorem dX11_barsInAll_12 : decode cX11_barsInAll 12 = .ok (.invokevirtual 101, 3) := by decide +kernel
theorem dX11_barsInAll_15 : decode cX11_barsInAll 15 = .ok (.iadd, 1) := by decide +kernel
theorem dX11_barsInAll_16 : decode cX11_barsInAll 16 = .ok (.istore_n 1, 1) := by decide +kernel
theorem dX11_barsInAll_17 : decode cX11_barsInAll 17 = .ok (.iinc 2 1, 3) := by decide +kernel
theorem dX11_barsInAll_20 : decode cX11_barsInAll 20 = .ok (.goto (-16), 3) := by decide +kernel
theorem dX11_barsInAll_23 : decode cX11_barsInAll 23 = .ok (.iload_n 1, 1) := by decide +kernel
theorem dX11_barsInAll_24 : decode cX11_barsInAll 24 = .ok (.ireturn, 1) := by decide +kernel
def S_X11_barsInAll_4 (fn : Int → Int → Option (Int)) (p : Program) (l : Launch) (e : Env) (R : Room) (s : State) (m : MethodId) (args : Array Value) (below : List Frame) (meth : Method) (c : Code) (G : GT) (σ : Mem) (res : Int) : Prop := ∀ (H : Heap) (locs : List Loc) (ls : Array Slot) (l1 : Int) (l2 : Int), PW G σ H → va_S (AA G) s.heap H locs → fn l1 l2 = some res → lv_has ls 3 [(0, .ref (gh G + 111)), (1, .int (i32 l1)), (2, .int (i32 l2))] → W p l e R s m args below meth c H locs 0 0 (MQ below (QM G (some (.int (i32 res))) σ) args s 0 0 (AA G)) (F0 m 4 ls [])
def X11_barsInAll_B4 (rec4 : Int → Int → Option (Int)) (σ : Mem) (l1 : Int) (l2 : Int) : Option (Int) :=
  if w32 4 ≤ w32 l2 then
    some l1
  else
  bd (X11_bars σ l2) fun r1 =>
  lt (l1 + r1) fun l1_2 =>
  lt (l2 + 1) fun l2_3 =>
  rec4 l1_2 l2_3
def X11_barsInAll_L4 (σ : Mem) : Nat → Int → Int → Option (Int)
  | 0 => fun _ _ => none
  | n + 1 => X11_barsInAll_B4 (X11_barsInAll_L4 σ n) σ
def X11_barsInAll (σ : Mem) : Option (Int) :=
  X11_barsInAll_L4 σ 5000 0 0
def S_X11_barsInAll_0 (fn : Option (Int)) (p : Program) (l : Launch) (e : Env) (R : Room) (s : State) (m : MethodId) (args : Array Value) (below : List Frame) (meth : Method) (c : Code) (G : GT) (σ : Mem) (res : Int) : Prop := ∀ (H : Heap) (locs : List Loc) (ls : Array Slot), PW G σ H → va_S (AA G) s.heap H locs → fn = some res → lv_has ls 3 [(0, .ref (gh G + 111))] → W p l e R s m args below meth c H locs 0 0 (MQ below (QM G (some (.int (i32 res))) σ) args s 0 0 (AA G)) (F0 m 0 ls [])
set_option maxHeartbeats 4000000 in
theorem a_X11_barsInAll_4 {p : Program} {l : Launch} {e : Env} {R : Room} {s : State} {m : MethodId} {args : Array Value} {below : List Frame} {meth : Method} {c : Code} {G : GT} {σ : Mem} {res : Int} {rec4 : Int → Int → Option (Int)} (X : CX p R s m args meth c cX11_barsInAll 3 RX11 (some FieldType.int) 3 101 G) (h4 : S_X11_barsInAll_4 rec4 p l e R s m args below meth c G σ res) : S_X11_barsInAll_4 (X11_barsInAll_B4 rec4 σ) p l e R s m args below meth c G σ res := by
  intro H locs ls l1 l2 hP hS hf hl
  unfold X11_barsInAll_B4 at hf
  refine lv_iload_n X.1 X.2.1 dX11_barsInAll_4 rfl (lv_at hl 2 rfl) ?_
  refine r_iconst X 4 dX11_barsInAll_5 ?_
  refine r_icmp_ge (tgt := 23) X dX11_barsInAll_6 (by decide) (fun q => ?_) (fun q => ?_)
  · replace hf := it_inv q hf
    refine lv_iload_n X.1 X.2.1 dX11_barsInAll_23 rfl (lv_at hl 1 rfl) ?_
    cases so_inv hf
    exact r_iret X hP hS dX11_barsInAll_24
  · replace hf := ie_inv q hf
    refine lv_iload_n X.1 X.2.1 dX11_barsInAll_9 rfl (lv_at hl 1 rfl) ?_
    refine lv_aload_n X.1 X.2.1 dX11_barsInAll_10 rfl (lv_at hl 0 rfl) ?_
    refine lv_iload_n X.1 X.2.1 dX11_barsInAll_11 rfl (lv_at hl 2 rfl) ?_
    obtain ⟨r1, hr1, hf⟩ := bd_inv hf
    refine k_X11_bars X hP hS hl.1  hr1 (tb t_1296 rfl) (by decide) (Nat.le_of_ble_eq_true rfl) dX11_barsInAll_12 (fun H locs hP hS => ?_)
    refine r_iadd X dX11_barsInAll_15 ?_
    obtain ⟨l1_2, el1_2, hf⟩ := lt_inv hf
    refine r_eqi el1_2 ?_
    refine lv_istore_n (lv' := [(1, .int (i32 l1_2)), (0, .ref (gh G + 111)), (2, .int (i32 l2))]) X.1 X.2.1 dX11_barsInAll_16 rfl hl (by decide) rfl (fun ls hl => ?_)
    obtain ⟨l2_3, el2_3, hf⟩ := lt_inv hf
    refine lv_iinc (v := i32 l2_3) (lv' := [(2, .int (i32 l2_3)), (1, .int (i32 l1_2)), (0, .ref (gh G + 111))]) X.1 X.2.1 dX11_barsInAll_17 hl (k := 2) rfl (by rw [← el2_3]; exact i32_add _ _) (by decide) rfl (fun ls hl => ?_)
    refine lv_goto (tgt := 4) X.1 X.2.1 dX11_barsInAll_20 (by decide) ?_
    exact h4  H locs ls l1_2 l2_3 hP hS hf (lv_sub hl [2, 1, 0] rfl)
theorem al_X11_barsInAll_4 {p : Program} {l : Launch} {e : Env} {R : Room} {s : State} {m : MethodId} {args : Array Value} {below : List Frame} {meth : Method} {c : Code} {G : GT} {σ : Mem} {res : Int} (X : CX p R s m args meth c cX11_barsInAll 3 RX11 (some FieldType.int) 3 101 G) : ∀ n, S_X11_barsInAll_4 (X11_barsInAll_L4 σ n) p l e R s m args below meth c G σ res := by
  intro n
  induction n with
  | zero =>
    intro H locs ls l1 l2 hP hS hf hl
    cases hf
  | succ n ih => exact a_X11_barsInAll_4 X ih
set_option maxHeartbeats 4000000 in
theorem a_X11_barsInAll_0 {p : Program} {l : Launch} {e : Env} {R : Room} {s : State} {m : MethodId} {args : Array Value} {below : List Frame} {meth : Method} {c : Code} {G : GT} {σ : Mem} {res : Int} (X : CX p R s m args meth c cX11_barsInAll 3 RX11 (some FieldType.int) 3 101 G) : S_X11_barsInAll_0 (X11_barsInAll σ) p l e R s m args below meth c G σ res := by
  intro H locs ls hP hS hf hl
  unfold X11_barsInAll at hf
  refine r_iconst X 0 dX11_barsInAll_0 ?_
  refine lv_istore_n (lv' := [(1, .int (i32 0)), (0, .ref (gh G + 111))]) X.1 X.2.1 dX11_barsInAll_1 rfl hl (by decide) rfl (fun ls hl => ?_)
  refine r_iconst X 0 dX11_barsInAll_2 ?_
  refine lv_istore_n (lv' := [(2, .int (i32 0)), (1, .int (i32 0)), (0, .ref (gh G + 111))]) X.1 X.2.1 dX11_barsInAll_3 rfl hl (by decide) rfl (fun ls hl => ?_)
  exact al_X11_barsInAll_4 X 5000  H locs ls 0 0 hP hS hf (lv_sub hl [2, 1, 0] rfl)
set_option maxHeartbeats 4000000 in
theorem c_X11_barsInAll {l : Launch} {G : GT} {σ : Mem} {res : Int} (hf : X11_barsInAll σ = some res) : CT l yX11_barsInAll cX11_barsInAll 3 (some FieldType.int) 3 101 G [.ref (gh G + 111)] σ σ (some (.int (i32 res))) := by
  refine CT.mk (own := RX11) (by decide) rfl (Nat.le_of_ble_eq_true rfl) ?_
  intro p e s m below meth c ls X hP hS hl
  have hl : lv_has ls 3 [(0, .ref (gh G + 111))] := hl
  exact a_X11_barsInAll_0 X  s.heap [] ls hP hS hf hl
theorem k_X11_barsInAll {p : Program} {l : Launch} {e : Env} {R : Room} {s : State} {m : MethodId} {args : Array Value} {below : List Frame} {meth : Method} {c : Code} {H : Heap} {locs : List Loc} {Q : State → Prop} {cc : ByteArray} {nL : Nat} {own : String} {ret : Option FieldType} {fF fL : Nat} {G : GT} {pc idx : Nat} {ls : Array Slot} {rest : List Value} {σ : Mem} {res : Int} (X : CX p R s m args meth c cc nL own ret fF fL G) (hP : PW G σ H) (hS : va_S (AA G) s.heap H locs) (hls : ls.size = nL) (hf : X11_barsInAll σ = some res) (h1 : Cond.methodLink own idx yX11_barsInAll ∈ TB) (hR : 3 + 1 ≤ fF ∧ 8 + (3 + 11) + 101 ≤ fL) (hW : (rest.map fun v => v.category).sum ≤ 8) (hd : decode cc pc = .ok (.invokevirtual idx, 3)) (kk : ∀ (H1 : Heap) (locs1 : List Loc), PW G σ H1 → va_S (AA G) s.heap H1 locs1 → W p l e R s m args below meth c H1 locs1 0 0 Q (F0 m (pc + 3) ls (.int (i32 res) :: rest))) : W p l e R s m args below meth c H locs 0 0 Q (F0 m pc ls (.ref (gh G + 111) :: rest)) := r_callV (n := 0) X hP hS hls (c_X11_barsInAll hf) h1 (tb t_1562 rfl) (tb t_73 rfl) (tb t_87 rfl) (tb t_1563 rfl) (by decide +kernel) hR (r_recv X hP (kd_lt ks_11 (by decide)) (cE_11 ks_11) rfl) rfl rfl hW hd kk
/-! X11_best -/
theorem dX11_best_0 : decode cX11_best 0 = .ok (.iload_n 1, 1) := by decide +kernel
theorem dX11_best_1 : decode cX11_best 1 = .ok (.invokestatic 97, 3) := by decide +kernel
theorem dX11_best_4 : decode cX11_best 4 = .ok (.ifCond .eq 15, 3) := by decide +kernel
theorem dX11_best_7 : decode cX11_best 7 = .ok (.iload_n 2, 1) := by decide +kernel
theorem dX11_best_8 : decode cX11_best 8 = .ok (.i2l, 1) := by decide +kernel
theorem dX11_best_9 : decode cX11_best 9 = .ok (.lconst 0, 1) := by decide +kernel
theorem dX11_best_10 : decode cX11_best 10 = .ok (.ldc2_w 135, 3) := by decide +kernel
theorem dX11_best_13 : decode cX11_best 13 = .ok (.invokestatic 93, 3) := by decide +kernel
theorem dX11_best_16 : decode cX11_best 16 = .ok (.ifCond .ne 9, 3) := by decide +kernel
theorem dX11_best_19 : decode cX11_best 19 = .ok (.aload_n 0, 1) := by decide +kernel
theorem dX11_best_20 : decode cX11_best 20 = .ok (.iconst 0, 1) := by decide +kernel
theorem dX11_best_21 : decode cX11_best 21 = .ok (.invokevirtual 122, 3) := by decide +kernel
theorem dX11_best_24 : decode cX11_best 24 = .ok (.ireturn, 1) := by decide +kernel
theorem dX11_best_25 : decode cX11_best 25 = .ok (.aload_n 0, 1) := by decide +kernel
theorem dX11_best_26 : decode cX11_best 26 = .ok (.iload_n 1, 1) := by decide +kernel
theorem dX11_best_27 : decode cX11_best 27 = .ok (.invokevirtual 298, 3) := by decide +kernel
theorem dX11_best_30 : decode cX11_best 30 = .ok (.ifCond .ne 9, 3) := by decide +kernel
theorem dX11_best_33 : decode cX11_best 33 = .ok (.aload_n 0, 1) := by decide +kernel
theorem dX11_best_34 : decode cX11_best 34 = .ok (.iconst 3, 1) := by decide +kernel
theorem dX11_best_35 : decode cX11_best 35 = .ok (.invokevirtual 122, 3) := by decide +kernel
theorem dX11_best_38 : decode cX11_best 38 = .ok (.ireturn, 1) := by decide +kernel
theorem dX11_best_39 : decode cX11_best 39 = .ok (.iload_n 2, 1) := by decide +kernel
theorem dX11_best_40 : decode cX11_best 40 = .ok (.ifCond .ne 12, 3) := by decide +kernel
theorem dX11_best_43 : decode cX11_best 43 = .ok (.aload_n 0, 1) := by decide +kernel
theorem dX11_best_44 : decode cX11_best 44 = .ok (.getfield 38, 3) := by decide +kernel
theorem dX11_best_47 : decode cX11_best 47 = .ok (.iconst 0, 1) := by decide +kernel
theorem dX11_best_48 : decode cX11_best 48 = .ok (.iaload, 1) := by decide +kernel
theorem dX11_best_49 : decode cX11_best 49 = .ok (.goto 45, 3) := by decide +kernel
theorem dX11_best_52 : decode cX11_best 52 = .ok (.iload_n 2, 1) := by decide +kernel
theorem dX11_best_53 : decode cX11_best 53 = .ok (.iconst 1, 1) := by decide +kernel
theorem dX11_best_54 : decode cX11_best 54 = .ok (.if_icmp .ne 12, 3) := by decide +kernel
theorem dX11_best_57 : decode cX11_best 57 = .ok (.aload_n 0, 1) := by decide +kernel
theorem dX11_best_58 : decode cX11_best 58 = .ok (.getfield 41, 3) := by decide +kernel
theorem dX11_best_61 : decode cX11_best 61 = .ok (.iconst 0, 1) := by decide +kernel
theorem dX11_best_62 : decode cX11_best 62 = .ok (.iaload, 1) := by decide +kernel
theorem dX11_best_63 : decode cX11_best 63 = .ok (.goto 31, 3) := by decide +kernel
theorem dX11_best_66 : decode cX11_best 66 = .ok (.iload_n 2, 1) := by decide +kernel
theorem dX11_best_67 : decode cX11_best 67 = .ok (.iconst 2, 1) := by decide +kernel
theorem dX11_best_68 : decode cX11_best 68 = .ok (.if_icmp .ne 10, 3) := by decide +kernel
theorem dX11_best_71 : decode cX11_best 71 = .ok (.aload_n 0, 1) := by decide +kernel
theorem dX11_best_72 : decode cX11_best 72 = .ok (.getfield 289, 3) := by decide +kernel
theorem dX11_best_75 : decode cX11_best 75 = .ok (.goto 19, 3) := by decide +kernel
theorem dX11_best_78 : decode cX11_best 78 = .ok (.iload_n 2, 1) := by decide +kernel
theorem dX11_best_79 : decode cX11_best 79 = .ok (.iconst 3, 1) := by decide +kernel
theorem dX11_best_80 : decode cX11_best 80 = .ok (.if_icmp .ne 10, 3) := by decide +kernel
theorem dX11_best_83 : decode cX11_best 83 = .ok (.aload_n 0, 1) := by decide +kernel
theorem dX11_best_84 : decode cX11_best 84 = .ok (.getfield 280, 3) := by decide +kernel
theorem dX11_best_87 : decode cX11_best 87 = .ok (.goto 7, 3) := by decide +kernel
theorem dX11_best_90 : decode cX11_best 90 = .ok (.aload_n 0, 1) := by decide +kernel
theorem dX11_best_91 : decode cX11_best 91 = .ok (.getfield 292, 3) := by decide +kernel
theorem dX11_best_94 : decode cX11_best 94 = .ok (.ireturn, 1) := by decide +kernel
def X11_best_B19 (σ : Mem) : Option (Int × Mem) :=
  bd2 (X11_finds σ 0) fun r1 s2 =>
  some (r1, s2)
def S_X11_best_19 (fn : Mem → Option (Int × Mem)) (p : Program) (l : Launch) (e : Env) (R : Room) (s : State) (m : MethodId) (args : Array Value) (below : List Frame) (meth : Method) (c : Code) (G : GT) (τ : Mem) (res : Int) : Prop := ∀ (σ : Mem) (H : Heap) (locs : List Loc) (ls : Array Slot), PW G σ H → va_S (AA G) s.heap H locs → fn σ = some (res, τ) → lv_has ls 3 [(0, .ref (gh G + 111))] → W p l e R s m args below meth c H locs 0 0 (MQ below (QM G (some (.int (i32 res))) τ) args s 0 0 (AA G)) (F0 m 19 ls [])
def X11_best (σ : Mem) (l1 : Int) (l2 : Int) : Option (Int × Mem) :=
  bd (X11_isPart σ l1) fun r1 =>
  if w32 r1 = 0 then
    X11_best_B19 σ
  else
  bd (X11_in σ (w32 l2) 0 4) fun r2 =>
  if w32 r2 ≠ 0 then
    bd2 (X11_laysOut σ l1) fun r3 s4 =>
    if w32 r3 ≠ 0 then
      if w32 l2 ≠ 0 then
        if w32 l2 ≠ w32 1 then
          if w32 l2 ≠ w32 2 then
            if w32 l2 ≠ w32 3 then
              some (s4 111 25, s4)
            else
            some (s4 111 24, s4)
          else
          some (s4 111 23, s4)
        else
        ag 1681 0 fun j5 =>
        some (s4 122 j5, s4)
      else
      ag 1681 0 fun j6 =>
      some (s4 121 j6, s4)
    else
    bd2 (X11_finds s4 3) fun r7 s8 =>
    some (r7, s8)
  else
  X11_best_B19 σ
def S_X11_best_0 (fn : Mem → Int → Int → Option (Int × Mem)) (p : Program) (l : Launch) (e : Env) (R : Room) (s : State) (m : MethodId) (args : Array Value) (below : List Frame) (meth : Method) (c : Code) (G : GT) (τ : Mem) (res : Int) : Prop := ∀ (σ : Mem) (H : Heap) (locs : List Loc) (ls : Array Slot) (l1 : Int) (l2 : Int), PW G σ H → va_S (AA G) s.heap H locs → fn σ l1 l2 = some (res, τ) → lv_has ls 3 [(0, .ref (gh G + 111)), (1, .int (i32 l1)), (2, .int (i32 l2))] → W p l e R s m args below meth c H locs 0 0 (MQ below (QM G (some (.int (i32 res))) τ) args s 0 0 (AA G)) (F0 m 0 ls [])
set_option maxHeartbeats 4000000 in
theorem a_X11_best_19 {p : Program} {l : Launch} {e : Env} {R : Room} {s : State} {m : MethodId} {args : Array Value} {below : List Frame} {meth : Method} {c : Code} {G : GT} {τ : Mem} {res : Int} (X : CX p R s m args meth c cX11_best 3 RX11 (some FieldType.int) 10 270 G) : S_X11_best_19 (X11_best_B19) p l e R s m args below meth c G τ res := by
  intro σ H locs ls hP hS hf hl
  unfold X11_best_B19 at hf
  refine lv_aload_n X.1 X.2.1 dX11_best_19 rfl (lv_at hl 0 rfl) ?_
  refine r_iconst X 0 dX11_best_20 ?_
  obtain ⟨r1, s2, hr1, hf⟩ := bd2_inv hf
  refine k_X11_finds X hP hS hl.1  hr1 (tb t_1219 rfl) (by decide) (Nat.le_of_ble_eq_true rfl) dX11_best_21 (fun H locs hP hS => ?_)
  obtain ⟨rfl, rfl⟩ := so2_inv hf
  exact r_iret X hP hS dX11_best_24
set_option maxHeartbeats 4000000 in
theorem a_X11_best_0 {p : Program} {l : Launch} {e : Env} {R : Room} {s : State} {m : MethodId} {args : Array Value} {below : List Frame} {meth : Method} {c : Code} {G : GT} {τ : Mem} {res : Int} (X : CX p R s m args meth c cX11_best 3 RX11 (some FieldType.int) 10 270 G) : S_X11_best_0 (X11_best) p l e R s m args below meth c G τ res := by
  intro σ H locs ls l1 l2 hP hS hf hl
  unfold X11_best at hf
  refine lv_iload_n X.1 X.2.1 dX11_best_0 rfl (lv_at hl 1 rfl) ?_
  obtain ⟨r1, hr1, hf⟩ := bd_inv hf
  refine k_X11_isPart X hP hS hl.1  hr1 (tb t_1204 rfl) (by decide) (Nat.le_of_ble_eq_true rfl) dX11_best_1 (fun H locs hP hS => ?_)
  refine r_if_eq (tgt := 19) X dX11_best_4 (by decide) (fun q => ?_) (fun q => ?_)
  · replace hf := it_inv q hf
    exact a_X11_best_19 X σ H locs ls  hP hS hf (lv_sub hl [0] rfl)
  · replace hf := ie_inv q hf
    refine lv_iload_n X.1 X.2.1 dX11_best_7 rfl (lv_at hl 2 rfl) ?_
    refine r_i2l X dX11_best_8 ?_
    refine r_lconst X 0 0 (by decide) dX11_best_9 ?_
    refine r_ldc2 X 4 (tb t_1237 rfl) (by decide) dX11_best_10 ?_
    obtain ⟨r2, hr2, hf⟩ := bd_inv hf
    refine k_X11_in X hP hS hl.1  hr2 (tb t_1208 rfl) (by decide) (Nat.le_of_ble_eq_true rfl) dX11_best_13 (fun H locs hP hS => ?_)
    refine r_if_ne (tgt := 25) X dX11_best_16 (by decide) (fun q => ?_) (fun q => ?_)
    · replace hf := it_inv q hf
      refine lv_aload_n X.1 X.2.1 dX11_best_25 rfl (lv_at hl 0 rfl) ?_
      refine lv_iload_n X.1 X.2.1 dX11_best_26 rfl (lv_at hl 1 rfl) ?_
      obtain ⟨r3, s4, hr3, hf⟩ := bd2_inv hf
      refine k_X11_laysOut X hP hS hl.1  hr3 (tb t_1393 rfl) (by decide) (Nat.le_of_ble_eq_true rfl) dX11_best_27 (fun H locs hP hS => ?_)
      refine r_if_ne (tgt := 39) X dX11_best_30 (by decide) (fun q => ?_) (fun q => ?_)
      · replace hf := it_inv q hf
        refine lv_iload_n X.1 X.2.1 dX11_best_39 rfl (lv_at hl 2 rfl) ?_
        refine r_if_ne (tgt := 52) X dX11_best_40 (by decide) (fun q => ?_) (fun q => ?_)
        · replace hf := it_inv q hf
          refine lv_iload_n X.1 X.2.1 dX11_best_52 rfl (lv_at hl 2 rfl) ?_
          refine r_iconst X 1 dX11_best_53 ?_
          refine r_icmp_ne (tgt := 66) X dX11_best_54 (by decide) (fun q => ?_) (fun q => ?_)
          · replace hf := it_inv q hf
            refine lv_iload_n X.1 X.2.1 dX11_best_66 rfl (lv_at hl 2 rfl) ?_
            refine r_iconst X 2 dX11_best_67 ?_
            refine r_icmp_ne (tgt := 78) X dX11_best_68 (by decide) (fun q => ?_) (fun q => ?_)
            · replace hf := it_inv q hf
              refine lv_iload_n X.1 X.2.1 dX11_best_78 rfl (lv_at hl 2 rfl) ?_
              refine r_iconst X 3 dX11_best_79 ?_
              refine r_icmp_ne (tgt := 90) X dX11_best_80 (by decide) (fun q => ?_) (fun q => ?_)
              · replace hf := it_inv q hf
                refine lv_aload_n X.1 X.2.1 dX11_best_90 rfl (lv_at hl 0 rfl) ?_
                refine g_11_25 X hP ks_11 (tb t_1112 rfl) dX11_best_91 ?_
                obtain ⟨rfl, rfl⟩ := so2_inv hf
                exact r_iret X hP hS dX11_best_94
              · replace hf := ie_inv q hf
                refine lv_aload_n X.1 X.2.1 dX11_best_83 rfl (lv_at hl 0 rfl) ?_
                refine g_11_24 X hP ks_11 (tb t_1111 rfl) dX11_best_84 ?_
                refine lv_goto (tgt := 94) X.1 X.2.1 dX11_best_87 (by decide) ?_
                obtain ⟨rfl, rfl⟩ := so2_inv hf
                exact r_iret X hP hS dX11_best_94
            · replace hf := ie_inv q hf
              refine lv_aload_n X.1 X.2.1 dX11_best_71 rfl (lv_at hl 0 rfl) ?_
              refine g_11_23 X hP ks_11 (tb t_1110 rfl) dX11_best_72 ?_
              refine lv_goto (tgt := 94) X.1 X.2.1 dX11_best_75 (by decide) ?_
              obtain ⟨rfl, rfl⟩ := so2_inv hf
              exact r_iret X hP hS dX11_best_94
          · replace hf := ie_inv q hf
            refine lv_aload_n X.1 X.2.1 dX11_best_57 rfl (lv_at hl 0 rfl) ?_
            refine g_11_19 (r := 122) X hP ks_11 rfl (tb t_1106 rfl) dX11_best_58 ?_
            refine r_iconst X 0 dX11_best_61 ?_
            obtain ⟨j5, hij5, hjj5, hlj5, hf⟩ := ag_inv hf
            refine r_iald X hP (ch_11_19 ks_11).1 (ch_11_19 ks_11).2 hij5 hjj5 dX11_best_62 ?_
            refine lv_goto (tgt := 94) X.1 X.2.1 dX11_best_63 (by decide) ?_
            obtain ⟨rfl, rfl⟩ := so2_inv hf
            exact r_iret X hP hS dX11_best_94
        · replace hf := ie_inv q hf
          refine lv_aload_n X.1 X.2.1 dX11_best_43 rfl (lv_at hl 0 rfl) ?_
          refine g_11_18 (r := 121) X hP ks_11 rfl (tb t_1105 rfl) dX11_best_44 ?_
          refine r_iconst X 0 dX11_best_47 ?_
          obtain ⟨j6, hij6, hjj6, hlj6, hf⟩ := ag_inv hf
          refine r_iald X hP (ch_11_18 ks_11).1 (ch_11_18 ks_11).2 hij6 hjj6 dX11_best_48 ?_
          refine lv_goto (tgt := 94) X.1 X.2.1 dX11_best_49 (by decide) ?_
          obtain ⟨rfl, rfl⟩ := so2_inv hf
          exact r_iret X hP hS dX11_best_94
      · replace hf := ie_inv q hf
        refine lv_aload_n X.1 X.2.1 dX11_best_33 rfl (lv_at hl 0 rfl) ?_
        refine r_iconst X 3 dX11_best_34 ?_
        obtain ⟨r7, s8, hr7, hf⟩ := bd2_inv hf
        refine k_X11_finds X hP hS hl.1  hr7 (tb t_1219 rfl) (by decide) (Nat.le_of_ble_eq_true rfl) dX11_best_35 (fun H locs hP hS => ?_)
        obtain ⟨rfl, rfl⟩ := so2_inv hf
        exact r_iret X hP hS dX11_best_38
    · replace hf := ie_inv q hf
      exact a_X11_best_19 X σ H locs ls  hP hS hf (lv_sub hl [0] rfl)
set_option maxHeartbeats 4000000 in
theorem c_X11_best {l : Launch} {G : GT} {σ τ : Mem} {res : Int} {l1 : Int} {l2 : Int} (hf : X11_best σ l1 l2 = some (res, τ)) : CT l yX11_best cX11_best 3 (some FieldType.int) 10 270 G [.ref (gh G + 111), .int (i32 l1), .int (i32 l2)] σ τ (some (.int (i32 res))) := by
  refine CT.mk (own := RX11) (by decide) rfl (Nat.le_of_ble_eq_true rfl) ?_
  intro p e s m below meth c ls X hP hS hl
  have hl : lv_has ls 3 [(0, .ref (gh G + 111)), (1, .int (i32 l1)), (2, .int (i32 l2))] := hl
  exact a_X11_best_0 X σ s.heap [] ls l1 l2 hP hS hf hl
theorem k_X11_best {p : Program} {l : Launch} {e : Env} {R : Room} {s : State} {m : MethodId} {args : Array Value} {below : List Frame} {meth : Method} {c : Code} {H : Heap} {locs : List Loc} {Q : State → Prop} {cc : ByteArray} {nL : Nat} {own : String} {ret : Option FieldType} {fF fL : Nat} {G : GT} {pc idx : Nat} {ls : Array Slot} {rest : List Value} {σ τ : Mem} {res : Int} {l1 : Int} {l2 : Int} (X : CX p R s m args meth c cc nL own ret fF fL G) (hP : PW G σ H) (hS : va_S (AA G) s.heap H locs) (hls : ls.size = nL) (hf : X11_best σ l1 l2 = some (res, τ)) (h1 : Cond.methodLink own idx yX11_best ∈ TB) (hR : 10 + 1 ≤ fF ∧ 8 + (3 + 11) + 270 ≤ fL) (hW : (rest.map fun v => v.category).sum ≤ 8) (hd : decode cc pc = .ok (.invokevirtual idx, 3)) (kk : ∀ (H1 : Heap) (locs1 : List Loc), PW G τ H1 → va_S (AA G) s.heap H1 locs1 → W p l e R s m args below meth c H1 locs1 0 0 Q (F0 m (pc + 3) ls (.int (i32 res) :: rest))) : W p l e R s m args below meth c H locs 0 0 Q (F0 m pc ls (.int (i32 l2) :: .int (i32 l1) :: .ref (gh G + 111) :: rest)) := r_callV (n := 2) X hP hS hls (c_X11_best hf) h1 (tb t_1390 rfl) (tb t_1391 rfl) (tb t_87 rfl) (tb t_1392 rfl) (by decide +kernel) hR (r_recv X hP (kd_lt ks_11 (by decide)) (cE_11 ks_11) rfl) rfl rfl hW hd kk
/-! X11_isBreak -/
theorem dX11_isBreak_0 : decode cX11_isBreak 0 = .ok (.iload_n 1, 1) := by decide +kernel
theorem dX11_isBreak_1 : decode cX11_isBreak 1 = .ok (.i2l, 1) := by decide +kernel
theorem dX11_isBreak_2 : decode cX11_isBreak 2 = .ok (.lconst 0, 1) := by decide +kernel
theorem dX11_isBreak_3 : decode cX11_isBreak 3 = .ok (.aload_n 0, 1) := by decide +kernel
theorem dX11_isBreak_4 : decode cX11_isBreak 4 = .ok (.getfield 9, 3) := by decide +kernel
theorem dX11_isBreak_7 : decode cX11_isBreak 7 = .ok (.sipush 665, 3) := by decide +kernel
theorem dX11_isBreak_10 : decode cX11_isBreak 10 = .ok (.iaload, 1) := by decide +kernel
theorem dX11_isBreak_11 : decode cX11_isBreak 11 = .ok (.iconst 1, 1) := by decide +kernel
theorem dX11_isBreak_12 : decode cX11_isBreak 12 = .ok (.isub, 1) := by decide +kernel
theorem dX11_isBreak_13 : decode cX11_isBreak 13 = .ok (.i2l, 1) := by decide +kernel
theorem dX11_isBreak_14 : decode cX11_isBreak 14 = .ok (.invokestatic 93, 3) := by decide +kernel
theorem dX11_isBreak_17 : decode cX11_isBreak 17 = .ok (.ireturn, 1) := by decide +kernel
def X11_isBreak (σ : Mem) (l1 : Int) : Option (Int) :=
  ag 766 665 fun j1 =>
  bd (X11_in σ (w32 l1) 0 (w32 ((σ 112 j1) - 1))) fun r2 =>
  bg r2 <|
  some r2
def S_X11_isBreak_0 (fn : Int → Option (Int)) (p : Program) (l : Launch) (e : Env) (R : Room) (s : State) (m : MethodId) (args : Array Value) (below : List Frame) (meth : Method) (c : Code) (G : GT) (σ : Mem) (res : Int) : Prop := ∀ (H : Heap) (locs : List Loc) (ls : Array Slot) (l1 : Int), PW G σ H → va_S (AA G) s.heap H locs → fn l1 = some res → lv_has ls 2 [(0, .ref (gh G + 111)), (1, .int (i32 l1))] → W p l e R s m args below meth c H locs 0 0 (MQ below (QM G (some (.int (i32 res))) σ) args s 0 0 (AA G)) (F0 m 0 ls [])
set_option maxHeartbeats 4000000 in
theorem a_X11_isBreak_0 {p : Program} {l : Launch} {e : Env} {R : Room} {s : State} {m : MethodId} {args : Array Value} {below : List Frame} {meth : Method} {c : Code} {G : GT} {σ : Mem} {res : Int} (X : CX p R s m args meth c cX11_isBreak 2 RX11 (some FieldType.boolean) 2 85 G) : S_X11_isBreak_0 (X11_isBreak σ) p l e R s m args below meth c G σ res := by
  intro H locs ls l1 hP hS hf hl
  unfold X11_isBreak at hf
  refine lv_iload_n X.1 X.2.1 dX11_isBreak_0 rfl (lv_at hl 1 rfl) ?_
  refine r_i2l X dX11_isBreak_1 ?_
  refine r_lconst X 0 0 (by decide) dX11_isBreak_2 ?_
  refine lv_aload_n X.1 X.2.1 dX11_isBreak_3 rfl (lv_at hl 0 rfl) ?_
  refine g_11_0 (r := 112) X hP ks_11 rfl (tb t_1087 rfl) dX11_isBreak_4 ?_
  refine r_sipush X 665 (by decide) dX11_isBreak_7 ?_
  obtain ⟨j1, hij1, hjj1, hlj1, hf⟩ := ag_inv hf
  refine r_iald X hP (ch_11_0 ks_11).1 (ch_11_0 ks_11).2 hij1 hjj1 dX11_isBreak_10 ?_
  refine r_iconst X 1 dX11_isBreak_11 ?_
  refine r_isub X dX11_isBreak_12 ?_
  refine r_i2l X dX11_isBreak_13 ?_
  obtain ⟨r2, hr2, hf⟩ := bd_inv hf
  refine k_X11_in X hP hS hl.1  hr2 (tb t_1208 rfl) (by decide) (Nat.le_of_ble_eq_true rfl) dX11_isBreak_14 (fun H locs hP hS => ?_)
  obtain ⟨hb3, hf⟩ := bg_inv hf
  cases so_inv hf
  exact r_zret X hP hS hb3 dX11_isBreak_17
set_option maxHeartbeats 4000000 in
theorem c_X11_isBreak {l : Launch} {G : GT} {σ : Mem} {res : Int} {l1 : Int} (hf : X11_isBreak σ l1 = some res) : CT l yX11_isBreak cX11_isBreak 2 (some FieldType.boolean) 2 85 G [.ref (gh G + 111), .int (i32 l1)] σ σ (some (.int (i32 res))) := by
  refine CT.mk (own := RX11) (by decide) rfl (Nat.le_of_ble_eq_true rfl) ?_
  intro p e s m below meth c ls X hP hS hl
  have hl : lv_has ls 2 [(0, .ref (gh G + 111)), (1, .int (i32 l1))] := hl
  exact a_X11_isBreak_0 X  s.heap [] ls l1 hP hS hf hl
theorem k_X11_isBreak {p : Program} {l : Launch} {e : Env} {R : Room} {s : State} {m : MethodId} {args : Array Value} {below : List Frame} {meth : Method} {c : Code} {H : Heap} {locs : List Loc} {Q : State → Prop} {cc : ByteArray} {nL : Nat} {own : String} {ret : Option FieldType} {fF fL : Nat} {G : GT} {pc idx : Nat} {ls : Array Slot} {rest : List Value} {σ : Mem} {res : Int} {l1 : Int} (X : CX p R s m args meth c cc nL own ret fF fL G) (hP : PW G σ H) (hS : va_S (AA G) s.heap H locs) (hls : ls.size = nL) (hf : X11_isBreak σ l1 = some res) (h1 : Cond.methodLink own idx yX11_isBreak ∈ TB) (hR : 2 + 1 ≤ fF ∧ 8 + (2 + 11) + 85 ≤ fL) (hW : (rest.map fun v => v.category).sum ≤ 8) (hd : decode cc pc = .ok (.invokevirtual idx, 3)) (kk : ∀ (H1 : Heap) (locs1 : List Loc), PW G σ H1 → va_S (AA G) s.heap H1 locs1 → W p l e R s m args below meth c H1 locs1 0 0 Q (F0 m (pc + 3) ls (.int (i32 res) :: rest))) : W p l e R s m args below meth c H locs 0 0 Q (F0 m pc ls (.int (i32 l1) :: .ref (gh G + 111) :: rest)) := r_callV (n := 1) X hP hS hls (c_X11_isBreak hf) h1 (tb t_1487 rfl) (tb t_69 rfl) (tb t_87 rfl) (tb t_1488 rfl) (by decide +kernel) hR (r_recv X hP (kd_lt ks_11 (by decide)) (cE_11 ks_11) rfl) rfl rfl hW hd kk
/-! X11_mayBe -/
theorem dX11_mayBe_0 : decode cX11_mayBe 0 = .ok (.aload_n 0, 1) := by decide +kernel
theorem dX11_mayBe_1 : decode cX11_mayBe 1 = .ok (.iload_n 1, 1) := by decide +kernel
theorem dX11_mayBe_2 : decode cX11_mayBe 2 = .ok (.iconst 0, 1) := by decide +kernel
theorem dX11_mayBe_3 : decode cX11_mayBe 3 = .ok (.invokevirtual 321, 3) := by decide +kernel
theorem dX11_mayBe_6 : decode cX11_mayBe 6 = .ok (.istore_n 2, 1) := by decide +kernel
theorem dX11_mayBe_7 : decode cX11_mayBe 7 = .ok (.aload_n 0, 1) := by decide +kernel
theorem dX11_mayBe_8 : decode cX11_mayBe 8 = .ok (.iload_n 1, 1) := by decide +kernel
theorem dX11_mayBe_9 : decode cX11_mayBe 9 = .ok (.iconst 1, 1) := by decide +kernel
theorem dX11_mayBe_10 : decode cX11_mayBe 10 = .ok (.invokevirtual 321, 3) := by decide +kernel
theorem dX11_mayBe_13 : decode cX11_mayBe 13 = .ok (.istore_n 3, 1) := by decide +kernel
theorem dX11_mayBe_14 : decode cX11_mayBe 14 = .ok (.aload_n 0, 1) := by decide +kernel
theorem dX11_mayBe_15 : decode cX11_mayBe 15 = .ok (.iload_n 1, 1) := by decide +kernel
theorem dX11_mayBe_16 : decode cX11_mayBe 16 = .ok (.iconst 2, 1) := by decide +kernel
theorem dX11_mayBe_17 : decode cX11_mayBe 17 = .ok (.invokevirtual 321, 3) := by decide +kernel
theorem dX11_mayBe_20 : decode cX11_mayBe 20 = .ok (.istore 4, 2) := by decide +kernel
theorem dX11_mayBe_22 : decode cX11_mayBe 22 = .ok (.aload_n 0, 1) := by decide +kernel
theorem dX11_mayBe_23 : decode cX11_mayBe 23 = .ok (.iload_n 3, 1) := by decide +kernel
theorem dX11_mayBe_24 : decode cX11_mayBe 24 = .ok (.iload 4, 2) := by decide +kernel
theorem dX11_mayBe_26 : decode cX11_mayBe 26 = .ok (.invokevirtual 248, 3) := by decide +kernel
theorem dX11_mayBe_29 : decode cX11_mayBe 29 = .ok (.ifCond .ne 5, 3) := by decide +kernel
theorem dX11_mayBe_32 : decode cX11_mayBe 32 = .ok (.iconst 0, 1) := by decide +kernel
theorem dX11_mayBe_33 : decode cX11_mayBe 33 = .ok (.ireturn, 1) := by decide +kernel
theorem dX11_mayBe_34 : decode cX11_mayBe 34 = .ok (.iload_n 2, 1) := by decide +kernel
theorem dX11_mayBe_35 : decode cX11_mayBe 35 = .ok (.iconst 3, 1) := by decide +kernel
theorem dX11_mayBe_36 : decode cX11_mayBe 36 = .ok (.if_icmp .lt 8, 3) := by decide +kernel
theorem dX11_mayBe_39 : decode cX11_mayBe 39 = .ok (.iload_n 2, 1) := by decide +kernel
theorem dX11_mayBe_40 : decode cX11_mayBe 40 = .ok (.iconst 4, 1) := by decide +kernel
theorem dX11_mayBe_41 : decode cX11_mayBe 41 = .ok (.if_icmp .ne 5, 3) := by decide +kernel
theorem dX11_mayBe_44 : decode cX11_mayBe 44 = .ok (.iconst 1, 1) := by decide +kernel
theorem dX11_mayBe_45 : decode cX11_mayBe 45 = .ok (.ireturn, 1) := by decide +kernel
theorem dX11_mayBe_46 : decode cX11_mayBe 46 = .ok (.iload_n 2, 1) := by decide +kernel
theorem dX11_mayBe_47 : decode cX11_mayBe 47 = .ok (.bipush 6, 2) := by decide +kernel
theorem dX11_mayBe_49 : decode cX11_mayBe 49 = .ok (.if_icmp .ne 26, 3) := by decide +kernel
theorem dX11_mayBe_52 : decode cX11_mayBe 52 = .ok (.aload_n 0, 1) := by decide +kernel
theorem dX11_mayBe_53 : decode cX11_mayBe 53 = .ok (.iload_n 3, 1) := by decide +kernel
theorem dX11_mayBe_54 : decode cX11_mayBe 54 = .ok (.iload 4, 2) := by decide +kernel
theorem dX11_mayBe_56 : decode cX11_mayBe 56 = .ok (.iconst 1, 1) := by decide +kernel
theorem dX11_mayBe_57 : decode cX11_mayBe 57 = .ok (.invokevirtual 229, 3) := by decide +kernel
theorem dX11_mayBe_60 : decode cX11_mayBe 60 = .ok (.aload_n 0, 1) := by decide +kernel
theorem dX11_mayBe_61 : decode cX11_mayBe 61 = .ok (.getfield 9, 3) := by decide +kernel
theorem dX11_mayBe_64 : decode cX11_mayBe 64 = .ok (.iconst 2, 1) := by decide +kernel
theorem dX11_mayBe_65 : decode cX11_mayBe 65 = .ok (.iaload, 1) := by decide +kernel
theorem dX11_mayBe_66 : decode cX11_mayBe 66 = .ok (.if_icmp .lt 7, 3) := by decide +kernel
theorem dX11_mayBe_69 : decode cX11_mayBe 69 = .ok (.iconst 1, 1) := by decide +kernel
theorem dX11_mayBe_70 : decode cX11_mayBe 70 = .ok (.goto 4, 3) := by decide +kernel
theorem dX11_mayBe_73 : decode cX11_mayBe 73 = .ok (.iconst 0, 1) := by decide +kernel
theorem dX11_mayBe_74 : decode cX11_mayBe 74 = .ok (.ireturn, 1) := by decide +kernel
theorem dX11_mayBe_75 : decode cX11_mayBe 75 = .ok (.aload_n 0, 1) := by decide +kernel
theorem dX11_mayBe_76 : decode cX11_mayBe 76 = .ok (.iload_n 3, 1) := by decide +kernel
theorem dX11_mayBe_77 : decode cX11_mayBe 77 = .ok (.iload 4, 2) := by decide +kernel
theorem dX11_mayBe_79 : decode cX11_mayBe 79 = .ok (.iconst 0, 1) := by decide +kernel
theorem dX11_mayBe_80 : decode cX11_mayBe 80 = .ok (.invokevirtual 229, 3) := by decide +kernel
theorem dX11_mayBe_83 : decode cX11_mayBe 83 = .ok (.aload_n 0, 1) := by decide +kernel
theorem dX11_mayBe_84 : decode cX11_mayBe 84 = .ok (.getfield 9, 3) := by decide +kernel
theorem dX11_mayBe_87 : decode cX11_mayBe 87 = .ok (.iconst 2, 1) := by decide +kernel
theorem dX11_mayBe_88 : decode cX11_mayBe 88 = .ok (.iaload, 1) := by decide +kernel
theorem dX11_mayBe_89 : decode cX11_mayBe 89 = .ok (.if_icmp .ge 18, 3) := by decide +kernel
theorem dX11_mayBe_92 : decode cX11_mayBe 92 = .ok (.iload_n 2, 1) := by decide +kernel
theorem dX11_mayBe_93 : decode cX11_mayBe 93 = .ok (.iconst 5, 1) := by decide +kernel
theorem dX11_mayBe_94 : decode cX11_mayBe 94 = .ok (.if_icmp .ne 17, 3) := by decide +kernel
theorem dX11_mayBe_97 : decode cX11_mayBe 97 = .ok (.aload_n 0, 1) := by decide +kernel
theorem dX11_mayBe_98 : decode cX11_mayBe 98 = .ok (.iload_n 3, 1) := by decide +kernel
theorem dX11_mayBe_99 : decode cX11_mayBe 99 = .ok (.iload 4, 2) := by decide +kernel
theorem dX11_mayBe_101 : decode cX11_mayBe 101 = .ok (.invokevirtual 266, 3) := by decide +kernel
theorem dX11_mayBe_104 : decode cX11_mayBe 104 = .ok (.ifCond .eq 7, 3) := by decide +kernel
theorem dX11_mayBe_107 : decode cX11_mayBe 107 = .ok (.iconst 1, 1) := by decide +kernel
theorem dX11_mayBe_108 : decode cX11_mayBe 108 = .ok (.goto 4, 3) := by decide +kernel
theorem dX11_mayBe_111 : decode cX11_mayBe 111 = .ok (.iconst 0, 1) := by decide +kernel
theorem dX11_mayBe_112 : decode cX11_mayBe 112 = .ok (.ireturn, 1) := by decide +kernel
def X11_mayBe (σ : Mem) (l1 : Int) : Option (Int) :=
  bd (X11_of σ l1 0) fun r1 =>
  bd (X11_of σ l1 1) fun r2 =>
  bd (X11_of σ l1 2) fun r3 =>
  bd (X11_mayEnd σ r2 r3) fun r4 =>
  if w32 r4 ≠ 0 then
    if w32 r1 < w32 3 then
      some 1
    else
    if w32 r1 ≠ w32 4 then
      if w32 r1 ≠ w32 6 then
        bd (X11_free σ r2 r3 0) fun r5 =>
        ag 766 2 fun j6 =>
        if w32 (σ 112 j6) ≤ w32 r5 then
          some 1
        else
        if w32 r1 ≠ w32 5 then
          some 0
        else
        bd (X11_hasHelp σ r2 r3) fun r7 =>
        if w32 r7 = 0 then
          some 0
        else
        some 1
      else
      bd (X11_free σ r2 r3 1) fun r8 =>
      ag 766 2 fun j9 =>
      if w32 r8 < w32 (σ 112 j9) then
        some 0
      else
      some 1
    else
    some 1
  else
  some 0
def S_X11_mayBe_0 (fn : Int → Option (Int)) (p : Program) (l : Launch) (e : Env) (R : Room) (s : State) (m : MethodId) (args : Array Value) (below : List Frame) (meth : Method) (c : Code) (G : GT) (σ : Mem) (res : Int) : Prop := ∀ (H : Heap) (locs : List Loc) (ls : Array Slot) (l1 : Int), PW G σ H → va_S (AA G) s.heap H locs → fn l1 = some res → lv_has ls 5 [(0, .ref (gh G + 111)), (1, .int (i32 l1))] → W p l e R s m args below meth c H locs 0 0 (MQ below (QM G (some (.int (i32 res))) σ) args s 0 0 (AA G)) (F0 m 0 ls [])
set_option maxHeartbeats 4000000 in
theorem a_X11_mayBe_0 {p : Program} {l : Launch} {e : Env} {R : Room} {s : State} {m : MethodId} {args : Array Value} {below : List Frame} {meth : Method} {c : Code} {G : GT} {σ : Mem} {res : Int} (X : CX p R s m args meth c cX11_mayBe 5 RX11 (some FieldType.boolean) 7 199 G) : S_X11_mayBe_0 (X11_mayBe σ) p l e R s m args below meth c G σ res := by
  intro H locs ls l1 hP hS hf hl
  unfold X11_mayBe at hf
  refine lv_aload_n X.1 X.2.1 dX11_mayBe_0 rfl (lv_at hl 0 rfl) ?_
  refine lv_iload_n X.1 X.2.1 dX11_mayBe_1 rfl (lv_at hl 1 rfl) ?_
  refine r_iconst X 0 dX11_mayBe_2 ?_
  obtain ⟨r1, hr1, hf⟩ := bd_inv hf
  refine k_X11_of X hP hS hl.1  hr1 (tb t_1489 rfl) (by decide) (Nat.le_of_ble_eq_true rfl) dX11_mayBe_3 (fun H locs hP hS => ?_)
  refine lv_istore_n (lv' := [(2, .int (i32 r1)), (0, .ref (gh G + 111)), (1, .int (i32 l1))]) X.1 X.2.1 dX11_mayBe_6 rfl hl (by decide) rfl (fun ls hl => ?_)
  refine lv_aload_n X.1 X.2.1 dX11_mayBe_7 rfl (lv_at hl 1 rfl) ?_
  refine lv_iload_n X.1 X.2.1 dX11_mayBe_8 rfl (lv_at hl 2 rfl) ?_
  refine r_iconst X 1 dX11_mayBe_9 ?_
  obtain ⟨r2, hr2, hf⟩ := bd_inv hf
  refine k_X11_of X hP hS hl.1  hr2 (tb t_1489 rfl) (by decide) (Nat.le_of_ble_eq_true rfl) dX11_mayBe_10 (fun H locs hP hS => ?_)
  refine lv_istore_n (lv' := [(3, .int (i32 r2)), (2, .int (i32 r1)), (0, .ref (gh G + 111)), (1, .int (i32 l1))]) X.1 X.2.1 dX11_mayBe_13 rfl hl (by decide) rfl (fun ls hl => ?_)
  refine lv_aload_n X.1 X.2.1 dX11_mayBe_14 rfl (lv_at hl 2 rfl) ?_
  refine lv_iload_n X.1 X.2.1 dX11_mayBe_15 rfl (lv_at hl 3 rfl) ?_
  refine r_iconst X 2 dX11_mayBe_16 ?_
  obtain ⟨r3, hr3, hf⟩ := bd_inv hf
  refine k_X11_of X hP hS hl.1  hr3 (tb t_1489 rfl) (by decide) (Nat.le_of_ble_eq_true rfl) dX11_mayBe_17 (fun H locs hP hS => ?_)
  refine lv_istore (lv' := [(4, .int (i32 r3)), (3, .int (i32 r2)), (2, .int (i32 r1)), (0, .ref (gh G + 111)), (1, .int (i32 l1))]) X.1 X.2.1 dX11_mayBe_20 hl (by decide) rfl (fun ls hl => ?_)
  refine lv_aload_n X.1 X.2.1 dX11_mayBe_22 rfl (lv_at hl 3 rfl) ?_
  refine lv_iload_n X.1 X.2.1 dX11_mayBe_23 rfl (lv_at hl 1 rfl) ?_
  refine lv_iload X.1 X.2.1 dX11_mayBe_24 (lv_at hl 0 rfl) ?_
  obtain ⟨r4, hr4, hf⟩ := bd_inv hf
  refine k_X11_mayEnd X hP hS hl.1  hr4 (tb t_1361 rfl) (by decide) (Nat.le_of_ble_eq_true rfl) dX11_mayBe_26 (fun H locs hP hS => ?_)
  refine r_if_ne (tgt := 34) X dX11_mayBe_29 (by decide) (fun q => ?_) (fun q => ?_)
  · replace hf := it_inv q hf
    refine lv_iload_n X.1 X.2.1 dX11_mayBe_34 rfl (lv_at hl 2 rfl) ?_
    refine r_iconst X 3 dX11_mayBe_35 ?_
    refine r_icmp_lt (tgt := 44) X dX11_mayBe_36 (by decide) (fun q => ?_) (fun q => ?_)
    · replace hf := it_inv q hf
      refine r_iconst X 1 dX11_mayBe_44 ?_
      cases so_inv hf
      exact r_zret X hP hS (Or.inr rfl) dX11_mayBe_45
    · replace hf := ie_inv q hf
      refine lv_iload_n X.1 X.2.1 dX11_mayBe_39 rfl (lv_at hl 2 rfl) ?_
      refine r_iconst X 4 dX11_mayBe_40 ?_
      refine r_icmp_ne (tgt := 46) X dX11_mayBe_41 (by decide) (fun q => ?_) (fun q => ?_)
      · replace hf := it_inv q hf
        refine lv_iload_n X.1 X.2.1 dX11_mayBe_46 rfl (lv_at hl 2 rfl) ?_
        refine r_bipush X 6 (by decide) dX11_mayBe_47 ?_
        refine r_icmp_ne (tgt := 75) X dX11_mayBe_49 (by decide) (fun q => ?_) (fun q => ?_)
        · replace hf := it_inv q hf
          refine lv_aload_n X.1 X.2.1 dX11_mayBe_75 rfl (lv_at hl 3 rfl) ?_
          refine lv_iload_n X.1 X.2.1 dX11_mayBe_76 rfl (lv_at hl 1 rfl) ?_
          refine lv_iload X.1 X.2.1 dX11_mayBe_77 (lv_at hl 0 rfl) ?_
          refine r_iconst X 0 dX11_mayBe_79 ?_
          obtain ⟨r5, hr5, hf⟩ := bd_inv hf
          refine k_X11_free X hP hS hl.1  hr5 (tb t_1325 rfl) (by decide) (Nat.le_of_ble_eq_true rfl) dX11_mayBe_80 (fun H locs hP hS => ?_)
          refine lv_aload_n X.1 X.2.1 dX11_mayBe_83 rfl (lv_at hl 3 rfl) ?_
          refine g_11_0 (r := 112) X hP ks_11 rfl (tb t_1087 rfl) dX11_mayBe_84 ?_
          refine r_iconst X 2 dX11_mayBe_87 ?_
          obtain ⟨j6, hij6, hjj6, hlj6, hf⟩ := ag_inv hf
          refine r_iald X hP (ch_11_0 ks_11).1 (ch_11_0 ks_11).2 hij6 hjj6 dX11_mayBe_88 ?_
          refine r_icmp_ge (tgt := 107) X dX11_mayBe_89 (by decide) (fun q => ?_) (fun q => ?_)
          · replace hf := it_inv q hf
            refine r_iconst X 1 dX11_mayBe_107 ?_
            refine lv_goto (tgt := 112) X.1 X.2.1 dX11_mayBe_108 (by decide) ?_
            cases so_inv hf
            exact r_zret X hP hS (Or.inr rfl) dX11_mayBe_112
          · replace hf := ie_inv q hf
            refine lv_iload_n X.1 X.2.1 dX11_mayBe_92 rfl (lv_at hl 2 rfl) ?_
            refine r_iconst X 5 dX11_mayBe_93 ?_
            refine r_icmp_ne (tgt := 111) X dX11_mayBe_94 (by decide) (fun q => ?_) (fun q => ?_)
            · replace hf := it_inv q hf
              refine r_iconst X 0 dX11_mayBe_111 ?_
              cases so_inv hf
              exact r_zret X hP hS (Or.inl rfl) dX11_mayBe_112
            · replace hf := ie_inv q hf
              refine lv_aload_n X.1 X.2.1 dX11_mayBe_97 rfl (lv_at hl 3 rfl) ?_
              refine lv_iload_n X.1 X.2.1 dX11_mayBe_98 rfl (lv_at hl 1 rfl) ?_
              refine lv_iload X.1 X.2.1 dX11_mayBe_99 (lv_at hl 0 rfl) ?_
              obtain ⟨r7, hr7, hf⟩ := bd_inv hf
              refine k_X11_hasHelp X hP hS hl.1  hr7 (tb t_1409 rfl) (by decide) (Nat.le_of_ble_eq_true rfl) dX11_mayBe_101 (fun H locs hP hS => ?_)
              refine r_if_eq (tgt := 111) X dX11_mayBe_104 (by decide) (fun q => ?_) (fun q => ?_)
              · replace hf := it_inv q hf
                refine r_iconst X 0 dX11_mayBe_111 ?_
                cases so_inv hf
                exact r_zret X hP hS (Or.inl rfl) dX11_mayBe_112
              · replace hf := ie_inv q hf
                refine r_iconst X 1 dX11_mayBe_107 ?_
                refine lv_goto (tgt := 112) X.1 X.2.1 dX11_mayBe_108 (by decide) ?_
                cases so_inv hf
                exact r_zret X hP hS (Or.inr rfl) dX11_mayBe_112
        · replace hf := ie_inv q hf
          refine lv_aload_n X.1 X.2.1 dX11_mayBe_52 rfl (lv_at hl 3 rfl) ?_
          refine lv_iload_n X.1 X.2.1 dX11_mayBe_53 rfl (lv_at hl 1 rfl) ?_
          refine lv_iload X.1 X.2.1 dX11_mayBe_54 (lv_at hl 0 rfl) ?_
          refine r_iconst X 1 dX11_mayBe_56 ?_
          obtain ⟨r8, hr8, hf⟩ := bd_inv hf
          refine k_X11_free X hP hS hl.1  hr8 (tb t_1325 rfl) (by decide) (Nat.le_of_ble_eq_true rfl) dX11_mayBe_57 (fun H locs hP hS => ?_)
          refine lv_aload_n X.1 X.2.1 dX11_mayBe_60 rfl (lv_at hl 3 rfl) ?_
          refine g_11_0 (r := 112) X hP ks_11 rfl (tb t_1087 rfl) dX11_mayBe_61 ?_
          refine r_iconst X 2 dX11_mayBe_64 ?_
          obtain ⟨j9, hij9, hjj9, hlj9, hf⟩ := ag_inv hf
          refine r_iald X hP (ch_11_0 ks_11).1 (ch_11_0 ks_11).2 hij9 hjj9 dX11_mayBe_65 ?_
          refine r_icmp_lt (tgt := 73) X dX11_mayBe_66 (by decide) (fun q => ?_) (fun q => ?_)
          · replace hf := it_inv q hf
            refine r_iconst X 0 dX11_mayBe_73 ?_
            cases so_inv hf
            exact r_zret X hP hS (Or.inl rfl) dX11_mayBe_74
          · replace hf := ie_inv q hf
            refine r_iconst X 1 dX11_mayBe_69 ?_
            refine lv_goto (tgt := 74) X.1 X.2.1 dX11_mayBe_70 (by decide) ?_
            cases so_inv hf
            exact r_zret X hP hS (Or.inr rfl) dX11_mayBe_74
      · replace hf := ie_inv q hf
        refine r_iconst X 1 dX11_mayBe_44 ?_
        cases so_inv hf
        exact r_zret X hP hS (Or.inr rfl) dX11_mayBe_45
  · replace hf := ie_inv q hf
    refine r_iconst X 0 dX11_mayBe_32 ?_
    cases so_inv hf
    exact r_zret X hP hS (Or.inl rfl) dX11_mayBe_33
set_option maxHeartbeats 4000000 in
theorem c_X11_mayBe {l : Launch} {G : GT} {σ : Mem} {res : Int} {l1 : Int} (hf : X11_mayBe σ l1 = some res) : CT l yX11_mayBe cX11_mayBe 5 (some FieldType.boolean) 7 199 G [.ref (gh G + 111), .int (i32 l1)] σ σ (some (.int (i32 res))) := by
  refine CT.mk (own := RX11) (by decide) rfl (Nat.le_of_ble_eq_true rfl) ?_
  intro p e s m below meth c ls X hP hS hl
  have hl : lv_has ls 5 [(0, .ref (gh G + 111)), (1, .int (i32 l1))] := hl
  exact a_X11_mayBe_0 X  s.heap [] ls l1 hP hS hf hl
theorem k_X11_mayBe {p : Program} {l : Launch} {e : Env} {R : Room} {s : State} {m : MethodId} {args : Array Value} {below : List Frame} {meth : Method} {c : Code} {H : Heap} {locs : List Loc} {Q : State → Prop} {cc : ByteArray} {nL : Nat} {own : String} {ret : Option FieldType} {fF fL : Nat} {G : GT} {pc idx : Nat} {ls : Array Slot} {rest : List Value} {σ : Mem} {res : Int} {l1 : Int} (X : CX p R s m args meth c cc nL own ret fF fL G) (hP : PW G σ H) (hS : va_S (AA G) s.heap H locs) (hls : ls.size = nL) (hf : X11_mayBe σ l1 = some res) (h1 : Cond.methodLink own idx yX11_mayBe ∈ TB) (hR : 7 + 1 ≤ fF ∧ 8 + (5 + 11) + 199 ≤ fL) (hW : (rest.map fun v => v.category).sum ≤ 8) (hd : decode cc pc = .ok (.invokevirtual idx, 3)) (kk : ∀ (H1 : Heap) (locs1 : List Loc), PW G σ H1 → va_S (AA G) s.heap H1 locs1 → W p l e R s m args below meth c H1 locs1 0 0 Q (F0 m (pc + 3) ls (.int (i32 res) :: rest))) : W p l e R s m args below meth c H locs 0 0 Q (F0 m pc ls (.int (i32 l1) :: .ref (gh G + 111) :: rest)) := r_callV (n := 1) X hP hS hls (c_X11_mayBe hf) h1 (tb t_1495 rfl) (tb t_71 rfl) (tb t_87 rfl) (tb t_1496 rfl) (by decide +kernel) hR (r_recv X hP (kd_lt ks_11 (by decide)) (cE_11 ks_11) rfl) rfl rfl hW hd kk
/-! X11_priceOf -/
theorem dX11_priceOf_0 : decode cX11_priceOf 0 = .ok (.aload_n 0, 1) := by decide +kernel
theorem dX11_priceOf_1 : decode cX11_priceOf 1 = .ok (.iload_n 1, 1) := by decide +kernel
theorem dX11_priceOf_2 : decode cX11_priceOf 2 = .ok (.iconst 0, 1) := by decide +kernel
theorem dX11_priceOf_3 : decode cX11_priceOf 3 = .ok (.invokevirtual 321, 3) := by decide +kernel
theorem dX11_priceOf_6 : decode cX11_priceOf 6 = .ok (.istore_n 2, 1) := by decide +kernel
theorem dX11_priceOf_7 : decode cX11_priceOf 7 = .ok (.iload_n 2, 1) := by decide +kernel
theorem dX11_priceOf_8 : decode cX11_priceOf 8 = .ok (.iconst 3, 1) := by decide +kernel
theorem dX11_priceOf_9 : decode cX11_priceOf 9 = .ok (.if_icmp .ge 23, 3) := by decide +kernel
theorem dX11_priceOf_12 : decode cX11_priceOf 12 = .ok (.iload_n 2, 1) := by decide +kernel
theorem dX11_priceOf_13 : decode cX11_priceOf 13 = .ok (.ifCond .ne 7, 3) := by decide +kernel
theorem dX11_priceOf_16 : decode cX11_priceOf 16 = .ok (.iconst 1, 1) := by decide +kernel
theorem dX11_priceOf_17 : decode cX11_priceOf 17 = .ok (.goto 14, 3) := by decide +kernel
theorem dX11_priceOf_20 : decode cX11_priceOf 20 = .ok (.iload_n 2, 1) := by decide +kernel
theorem dX11_priceOf_21 : decode cX11_priceOf 21 = .ok (.iconst 1, 1) := by decide +kernel
theorem dX11_priceOf_22 : decode cX11_priceOf 22 = .ok (.if_icmp .ne 7, 3) := by decide +kernel
theorem dX11_priceOf_25 : decode cX11_priceOf 25 = .ok (.iconst 3, 1) := by decide +kernel
theorem dX11_priceOf_26 : decode cX11_priceOf 26 = .ok (.goto 5, 3) := by decide +kernel
theorem dX11_priceOf_29 : decode cX11_priceOf 29 = .ok (.bipush 11, 2) := by decide +kernel
theorem dX11_priceOf_31 : decode cX11_priceOf 31 = .ok (.ireturn, 1) := by decide +kernel
theorem dX11_priceOf_32 : decode cX11_priceOf 32 = .ok (.iload_n 2, 1) := by decide +kernel
theorem dX11_priceOf_33 : decode cX11_priceOf 33 = .ok (.iconst 4, 1) := by decide +kernel
theorem dX11_priceOf_34 : decode cX11_priceOf 34 = .ok (.if_icmp .ne 6, 3) := by decide +kernel
theorem dX11_priceOf_37 : decode cX11_priceOf 37 = .ok (.bipush 22, 2) := by decide +kernel
theorem dX11_priceOf_39 : decode cX11_priceOf 39 = .ok (.ireturn, 1) := by decide +kernel
theorem dX11_priceOf_40 : decode cX11_priceOf 40 = .ok (.aload_n 0, 1) := by decide +kernel
theorem dX11_priceOf_41 : decode cX11_priceOf 41 = .ok (.aload_n 0, 1) := by decide +kernel
theorem dX11_priceOf_42 : decode cX11_priceOf 42 = .ok (.iload_n 1, 1) := by decide +kernel
theorem dX11_priceOf_43 : decode cX11_priceOf 43 = .ok (.iconst 1, 1) := by decide +kernel
theorem dX11_priceOf_44 : decode cX11_priceOf 44 = .ok (.invokevirtual 321, 3) := by decide +kernel
theorem dX11_priceOf_47 : decode cX11_priceOf 47 = .ok (.aload_n 0, 1) := by decide +kernel
theorem dX11_priceOf_48 : decode cX11_priceOf 48 = .ok (.iload_n 1, 1) := by decide +kernel
theorem dX11_priceOf_49 : decode cX11_priceOf 49 = .ok (.iconst 2, 1) := by decide +kernel
theorem dX11_priceOf_50 : decode cX11_priceOf 50 = .ok (.invokevirtual 321, 3) := by decide +kernel
theorem dX11_priceOf_53 : decode cX11_priceOf 53 = .ok (.iconst 0, 1) := by decide +kernel
theorem dX11_priceOf_54 : decode cX11_priceOf 54 = .ok (.invokevirtual 229, 3) := by decide +kernel
theorem dX11_priceOf_57 : decode cX11_priceOf 57 = .ok (.istore_n 3, 1) := by decide +kernel
theorem dX11_priceOf_58 : decode cX11_priceOf 58 = .ok (.bipush 11, 2) := by decide +kernel
theorem dX11_priceOf_60 : decode cX11_priceOf 60 = .ok (.iload_n 3, 1) := by decide +kernel
theorem dX11_priceOf_61 : decode cX11_priceOf 61 = .ok (.sipush 300, 3) := by decide +kernel
theorem dX11_priceOf_64 : decode cX11_priceOf 64 = .ok (.if_icmp .ge 14, 3) := by decide +kernel
theorem dX11_priceOf_67 : decode cX11_priceOf 67 = .ok (.sipush 300, 3) := by decide +kernel
theorem dX11_priceOf_70 : decode cX11_priceOf 70 = .ok (.iload_n 3, 1) := by decide +kernel
theorem dX11_priceOf_71 : decode cX11_priceOf 71 = .ok (.isub, 1) := by decide +kernel
theorem dX11_priceOf_72 : decode cX11_priceOf 72 = .ok (.bipush 10, 2) := by decide +kernel
theorem dX11_priceOf_74 : decode cX11_priceOf 74 = .ok (.idiv, 1) := by decide +kernel
theorem dX11_priceOf_75 : decode cX11_priceOf 75 = .ok (.goto 4, 3) := by decide +kernel
theorem dX11_priceOf_78 : decode cX11_priceOf 78 = .ok (.iconst 0, 1) := by decide +kernel
theorem dX11_priceOf_79 : decode cX11_priceOf 79 = .ok (.iadd, 1) := by decide +kernel
theorem dX11_priceOf_80 : decode cX11_priceOf 80 = .ok (.istore 4, 2) := by decide +kernel
theorem dX11_priceOf_82 : decode cX11_priceOf 82 = .ok (.iload_n 2, 1) := by decide +kernel
theorem dX11_priceOf_83 : decode cX11_priceOf 83 = .ok (.iconst 3, 1) := by decide +kernel
theorem dX11_priceOf_84 : decode cX11_priceOf 84 = .ok (.if_icmp .ne 8, 3) := by decide +kernel
theorem dX11_priceOf_87 : decode cX11_priceOf 87 = .ok (.iload 4, 2) := by decide +kernel
theorem dX11_priceOf_89 : decode cX11_priceOf 89 = .ok (.goto 34, 3) := by decide +kernel
theorem dX11_priceOf_92 : decode cX11_priceOf 92 = .ok (.iload_n 2, 1) := by decide +kernel
theorem dX11_priceOf_93 : decode cX11_priceOf 93 = .ok (.iconst 5, 1) := by decide +kernel
theorem dX11_priceOf_94 : decode cX11_priceOf 94 = .ok (.if_icmp .ne 10, 3) := by decide +kernel
theorem dX11_priceOf_97 : decode cX11_priceOf 97 = .ok (.iload 4, 2) := by decide +kernel
theorem dX11_priceOf_99 : decode cX11_priceOf 99 = .ok (.iconst 2, 1) := by decide +kernel
theorem dX11_priceOf_100 : decode cX11_priceOf 100 = .ok (.idiv, 1) := by decide +kernel
theorem dX11_priceOf_101 : decode cX11_priceOf 101 = .ok (.goto 22, 3) := by decide +kernel
theorem dX11_priceOf_104 : decode cX11_priceOf 104 = .ok (.iload 4, 2) := by decide +kernel
theorem dX11_priceOf_106 : decode cX11_priceOf 106 = .ok (.aload_n 0, 1) := by decide +kernel
theorem dX11_priceOf_107 : decode cX11_priceOf 107 = .ok (.getfield 9, 3) := by decide +kernel
theorem dX11_priceOf_110 : decode cX11_priceOf 110 = .ok (.aload_n 0, 1) := by decide +kernel
theorem dX11_priceOf_111 : decode cX11_priceOf 111 = .ok (.iload_n 1, 1) := by decide +kernel
theorem dX11_priceOf_112 : decode cX11_priceOf 112 = .ok (.iconst 1, 1) := by decide +kernel
theorem dX11_priceOf_113 : decode cX11_priceOf 113 = .ok (.invokevirtual 321, 3) := by decide +kernel
theorem dX11_priceOf_116 : decode cX11_priceOf 116 = .ok (.invokestatic 86, 3) := by decide +kernel
theorem dX11_priceOf_119 : decode cX11_priceOf 119 = .ok (.iconst 1, 1) := by decide +kernel
theorem dX11_priceOf_120 : decode cX11_priceOf 120 = .ok (.iadd, 1) := by decide +kernel
theorem dX11_priceOf_121 : decode cX11_priceOf 121 = .ok (.iaload, 1) := by decide +kernel
theorem dX11_priceOf_122 : decode cX11_priceOf 122 = .ok (.iadd, 1) := by decide +kernel
theorem dX11_priceOf_123 : decode cX11_priceOf 123 = .ok (.ireturn, 1) := by decide +kernel
def X11_priceOf_B79 (σ : Mem) (l1 : Int) (l2 : Int) (k0 : Int) (k1 : Int) : Option (Int) :=
  lt (k0 + k1) fun l4_1 =>
  if w32 l2 ≠ w32 3 then
    if w32 l2 ≠ w32 5 then
      bd (X11_of σ l1 1) fun r2 =>
      bd (X11_part σ r2) fun r3 =>
      ag 766 (r3 + 1) fun j4 =>
      some (l4_1 + (σ 112 j4))
    else
    dg 2 <|
    some (idv l4_1 2)
  else
  some l4_1
def S_X11_priceOf_79 (fn : Int → Int → Int → Int → Option (Int)) (p : Program) (l : Launch) (e : Env) (R : Room) (s : State) (m : MethodId) (args : Array Value) (below : List Frame) (meth : Method) (c : Code) (G : GT) (σ : Mem) (res : Int) : Prop := ∀ (H : Heap) (locs : List Loc) (ls : Array Slot) (l1 : Int) (l2 : Int) (k0 : Int) (k1 : Int), PW G σ H → va_S (AA G) s.heap H locs → fn l1 l2 k0 k1 = some res → lv_has ls 5 [(0, .ref (gh G + 111)), (1, .int (i32 l1)), (2, .int (i32 l2))] → W p l e R s m args below meth c H locs 0 0 (MQ below (QM G (some (.int (i32 res))) σ) args s 0 0 (AA G)) (F0 m 79 ls [.int (i32 k1), .int (i32 k0)])
def X11_priceOf (σ : Mem) (l1 : Int) : Option (Int) :=
  bd (X11_of σ l1 0) fun r1 =>
  if w32 3 ≤ w32 r1 then
    if w32 r1 ≠ w32 4 then
      bd (X11_of σ l1 1) fun r2 =>
      bd (X11_of σ l1 2) fun r3 =>
      bd (X11_free σ r2 r3 0) fun r4 =>
      if w32 300 ≤ w32 r4 then
        X11_priceOf_B79 σ l1 r1 11 0
      else
      dg 10 <|
      X11_priceOf_B79 σ l1 r1 11 (idv (300 - r4) 10)
    else
    some 22
  else
  if w32 r1 ≠ 0 then
    if w32 r1 ≠ w32 1 then
      some 11
    else
    some 3
  else
  some 1
def S_X11_priceOf_0 (fn : Int → Option (Int)) (p : Program) (l : Launch) (e : Env) (R : Room) (s : State) (m : MethodId) (args : Array Value) (below : List Frame) (meth : Method) (c : Code) (G : GT) (σ : Mem) (res : Int) : Prop := ∀ (H : Heap) (locs : List Loc) (ls : Array Slot) (l1 : Int), PW G σ H → va_S (AA G) s.heap H locs → fn l1 = some res → lv_has ls 5 [(0, .ref (gh G + 111)), (1, .int (i32 l1))] → W p l e R s m args below meth c H locs 0 0 (MQ below (QM G (some (.int (i32 res))) σ) args s 0 0 (AA G)) (F0 m 0 ls [])
set_option maxHeartbeats 4000000 in
theorem a_X11_priceOf_79 {p : Program} {l : Launch} {e : Env} {R : Room} {s : State} {m : MethodId} {args : Array Value} {below : List Frame} {meth : Method} {c : Code} {G : GT} {σ : Mem} {res : Int} (X : CX p R s m args meth c cX11_priceOf 5 RX11 (some FieldType.int) 6 176 G) : S_X11_priceOf_79 (X11_priceOf_B79 σ) p l e R s m args below meth c G σ res := by
  intro H locs ls l1 l2 k0 k1 hP hS hf hl
  unfold X11_priceOf_B79 at hf
  refine r_iadd X dX11_priceOf_79 ?_
  obtain ⟨l4_1, el4_1, hf⟩ := lt_inv hf
  refine r_eqi el4_1 ?_
  refine lv_istore (lv' := [(4, .int (i32 l4_1)), (0, .ref (gh G + 111)), (1, .int (i32 l1)), (2, .int (i32 l2))]) X.1 X.2.1 dX11_priceOf_80 hl (by decide) rfl (fun ls hl => ?_)
  refine lv_iload_n X.1 X.2.1 dX11_priceOf_82 rfl (lv_at hl 3 rfl) ?_
  refine r_iconst X 3 dX11_priceOf_83 ?_
  refine r_icmp_ne (tgt := 92) X dX11_priceOf_84 (by decide) (fun q => ?_) (fun q => ?_)
  · replace hf := it_inv q hf
    refine lv_iload_n X.1 X.2.1 dX11_priceOf_92 rfl (lv_at hl 3 rfl) ?_
    refine r_iconst X 5 dX11_priceOf_93 ?_
    refine r_icmp_ne (tgt := 104) X dX11_priceOf_94 (by decide) (fun q => ?_) (fun q => ?_)
    · replace hf := it_inv q hf
      refine lv_iload X.1 X.2.1 dX11_priceOf_104 (lv_at hl 0 rfl) ?_
      refine lv_aload_n X.1 X.2.1 dX11_priceOf_106 rfl (lv_at hl 1 rfl) ?_
      refine g_11_0 (r := 112) X hP ks_11 rfl (tb t_1087 rfl) dX11_priceOf_107 ?_
      refine lv_aload_n X.1 X.2.1 dX11_priceOf_110 rfl (lv_at hl 1 rfl) ?_
      refine lv_iload_n X.1 X.2.1 dX11_priceOf_111 rfl (lv_at hl 2 rfl) ?_
      refine r_iconst X 1 dX11_priceOf_112 ?_
      obtain ⟨r2, hr2, hf⟩ := bd_inv hf
      refine k_X11_of X hP hS hl.1  hr2 (tb t_1489 rfl) (by decide) (Nat.le_of_ble_eq_true rfl) dX11_priceOf_113 (fun H locs hP hS => ?_)
      obtain ⟨r3, hr3, hf⟩ := bd_inv hf
      refine k_X11_part X hP hS hl.1  hr3 (tb t_1084 rfl) (by decide) (Nat.le_of_ble_eq_true rfl) dX11_priceOf_116 (fun H locs hP hS => ?_)
      refine r_iconst X 1 dX11_priceOf_119 ?_
      refine r_iadd X dX11_priceOf_120 ?_
      obtain ⟨j4, hij4, hjj4, hlj4, hf⟩ := ag_inv hf
      refine r_iald X hP (ch_11_0 ks_11).1 (ch_11_0 ks_11).2 hij4 hjj4 dX11_priceOf_121 ?_
      refine r_iadd X dX11_priceOf_122 ?_
      cases so_inv hf
      exact r_iret X hP hS dX11_priceOf_123
    · replace hf := ie_inv q hf
      refine lv_iload X.1 X.2.1 dX11_priceOf_97 (lv_at hl 0 rfl) ?_
      refine r_iconst X 2 dX11_priceOf_99 ?_
      obtain ⟨hz5, hf⟩ := dg_inv hf
      refine r_idiv X hz5 dX11_priceOf_100 ?_
      refine lv_goto (tgt := 123) X.1 X.2.1 dX11_priceOf_101 (by decide) ?_
      cases so_inv hf
      exact r_iret X hP hS dX11_priceOf_123
  · replace hf := ie_inv q hf
    refine lv_iload X.1 X.2.1 dX11_priceOf_87 (lv_at hl 0 rfl) ?_
    refine lv_goto (tgt := 123) X.1 X.2.1 dX11_priceOf_89 (by decide) ?_
    cases so_inv hf
    exact r_iret X hP hS dX11_priceOf_123
set_option maxHeartbeats 4000000 in
theorem a_X11_priceOf_0 {p : Program} {l : Launch} {e : Env} {R : Room} {s : State} {m : MethodId} {args : Array Value} {below : List Frame} {meth : Method} {c : Code} {G : GT} {σ : Mem} {res : Int} (X : CX p R s m args meth c cX11_priceOf 5 RX11 (some FieldType.int) 6 176 G) : S_X11_priceOf_0 (X11_priceOf σ) p l e R s m args below meth c G σ res := by
  intro H locs ls l1 hP hS hf hl
  unfold X11_priceOf at hf
  refine lv_aload_n X.1 X.2.1 dX11_priceOf_0 rfl (lv_at hl 0 rfl) ?_
  refine lv_iload_n X.1 X.2.1 dX11_priceOf_1 rfl (lv_at hl 1 rfl) ?_
  refine r_iconst X 0 dX11_priceOf_2 ?_
  obtain ⟨r1, hr1, hf⟩ := bd_inv hf
  refine k_X11_of X hP hS hl.1  hr1 (tb t_1489 rfl) (by decide) (Nat.le_of_ble_eq_true rfl) dX11_priceOf_3 (fun H locs hP hS => ?_)
  refine lv_istore_n (lv' := [(2, .int (i32 r1)), (0, .ref (gh G + 111)), (1, .int (i32 l1))]) X.1 X.2.1 dX11_priceOf_6 rfl hl (by decide) rfl (fun ls hl => ?_)
  refine lv_iload_n X.1 X.2.1 dX11_priceOf_7 rfl (lv_at hl 0 rfl) ?_
  refine r_iconst X 3 dX11_priceOf_8 ?_
  refine r_icmp_ge (tgt := 32) X dX11_priceOf_9 (by decide) (fun q => ?_) (fun q => ?_)
  · replace hf := it_inv q hf
    refine lv_iload_n X.1 X.2.1 dX11_priceOf_32 rfl (lv_at hl 0 rfl) ?_
    refine r_iconst X 4 dX11_priceOf_33 ?_
    refine r_icmp_ne (tgt := 40) X dX11_priceOf_34 (by decide) (fun q => ?_) (fun q => ?_)
    · replace hf := it_inv q hf
      refine lv_aload_n X.1 X.2.1 dX11_priceOf_40 rfl (lv_at hl 1 rfl) ?_
      refine lv_aload_n X.1 X.2.1 dX11_priceOf_41 rfl (lv_at hl 1 rfl) ?_
      refine lv_iload_n X.1 X.2.1 dX11_priceOf_42 rfl (lv_at hl 2 rfl) ?_
      refine r_iconst X 1 dX11_priceOf_43 ?_
      obtain ⟨r2, hr2, hf⟩ := bd_inv hf
      refine k_X11_of X hP hS hl.1  hr2 (tb t_1489 rfl) (by decide) (Nat.le_of_ble_eq_true rfl) dX11_priceOf_44 (fun H locs hP hS => ?_)
      refine lv_aload_n X.1 X.2.1 dX11_priceOf_47 rfl (lv_at hl 1 rfl) ?_
      refine lv_iload_n X.1 X.2.1 dX11_priceOf_48 rfl (lv_at hl 2 rfl) ?_
      refine r_iconst X 2 dX11_priceOf_49 ?_
      obtain ⟨r3, hr3, hf⟩ := bd_inv hf
      refine k_X11_of X hP hS hl.1  hr3 (tb t_1489 rfl) (by decide) (Nat.le_of_ble_eq_true rfl) dX11_priceOf_50 (fun H locs hP hS => ?_)
      refine r_iconst X 0 dX11_priceOf_53 ?_
      obtain ⟨r4, hr4, hf⟩ := bd_inv hf
      refine k_X11_free X hP hS hl.1  hr4 (tb t_1325 rfl) (by decide) (Nat.le_of_ble_eq_true rfl) dX11_priceOf_54 (fun H locs hP hS => ?_)
      refine lv_istore_n (lv' := [(3, .int (i32 r4)), (2, .int (i32 r1)), (0, .ref (gh G + 111)), (1, .int (i32 l1))]) X.1 X.2.1 dX11_priceOf_57 rfl hl (by decide) rfl (fun ls hl => ?_)
      refine r_bipush X 11 (by decide) dX11_priceOf_58 ?_
      refine lv_iload_n X.1 X.2.1 dX11_priceOf_60 rfl (lv_at hl 0 rfl) ?_
      refine r_sipush X 300 (by decide) dX11_priceOf_61 ?_
      refine r_icmp_ge (tgt := 78) X dX11_priceOf_64 (by decide) (fun q => ?_) (fun q => ?_)
      · replace hf := it_inv q hf
        refine r_iconst X 0 dX11_priceOf_78 ?_
        exact a_X11_priceOf_79 X  H locs ls l1 r1 11 0 hP hS hf (lv_sub hl [2, 3, 1] rfl)
      · replace hf := ie_inv q hf
        refine r_sipush X 300 (by decide) dX11_priceOf_67 ?_
        refine lv_iload_n X.1 X.2.1 dX11_priceOf_70 rfl (lv_at hl 0 rfl) ?_
        refine r_isub X dX11_priceOf_71 ?_
        refine r_bipush X 10 (by decide) dX11_priceOf_72 ?_
        obtain ⟨hz5, hf⟩ := dg_inv hf
        refine r_idiv X hz5 dX11_priceOf_74 ?_
        refine lv_goto (tgt := 79) X.1 X.2.1 dX11_priceOf_75 (by decide) ?_
        exact a_X11_priceOf_79 X  H locs ls l1 r1 11 (idv (300 - r4) 10) hP hS hf (lv_sub hl [2, 3, 1] rfl)
    · replace hf := ie_inv q hf
      refine r_bipush X 22 (by decide) dX11_priceOf_37 ?_
      cases so_inv hf
      exact r_iret X hP hS dX11_priceOf_39
  · replace hf := ie_inv q hf
    refine lv_iload_n X.1 X.2.1 dX11_priceOf_12 rfl (lv_at hl 0 rfl) ?_
    refine r_if_ne (tgt := 20) X dX11_priceOf_13 (by decide) (fun q => ?_) (fun q => ?_)
    · replace hf := it_inv q hf
      refine lv_iload_n X.1 X.2.1 dX11_priceOf_20 rfl (lv_at hl 0 rfl) ?_
      refine r_iconst X 1 dX11_priceOf_21 ?_
      refine r_icmp_ne (tgt := 29) X dX11_priceOf_22 (by decide) (fun q => ?_) (fun q => ?_)
      · replace hf := it_inv q hf
        refine r_bipush X 11 (by decide) dX11_priceOf_29 ?_
        cases so_inv hf
        exact r_iret X hP hS dX11_priceOf_31
      · replace hf := ie_inv q hf
        refine r_iconst X 3 dX11_priceOf_25 ?_
        refine lv_goto (tgt := 31) X.1 X.2.1 dX11_priceOf_26 (by decide) ?_
        cases so_inv hf
        exact r_iret X hP hS dX11_priceOf_31
    · replace hf := ie_inv q hf
      refine r_iconst X 1 dX11_priceOf_16 ?_
      refine lv_goto (tgt := 31) X.1 X.2.1 dX11_priceOf_17 (by decide) ?_
      cases so_inv hf
      exact r_iret X hP hS dX11_priceOf_31
set_option maxHeartbeats 4000000 in
theorem c_X11_priceOf {l : Launch} {G : GT} {σ : Mem} {res : Int} {l1 : Int} (hf : X11_priceOf σ l1 = some res) : CT l yX11_priceOf cX11_priceOf 5 (some FieldType.int) 6 176 G [.ref (gh G + 111), .int (i32 l1)] σ σ (some (.int (i32 res))) := by
  refine CT.mk (own := RX11) (by decide) rfl (Nat.le_of_ble_eq_true rfl) ?_
  intro p e s m below meth c ls X hP hS hl
  have hl : lv_has ls 5 [(0, .ref (gh G + 111)), (1, .int (i32 l1))] := hl
  exact a_X11_priceOf_0 X  s.heap [] ls l1 hP hS hf hl
theorem k_X11_priceOf {p : Program} {l : Launch} {e : Env} {R : Room} {s : State} {m : MethodId} {args : Array Value} {below : List Frame} {meth : Method} {c : Code} {H : Heap} {locs : List Loc} {Q : State → Prop} {cc : ByteArray} {nL : Nat} {own : String} {ret : Option FieldType} {fF fL : Nat} {G : GT} {pc idx : Nat} {ls : Array Slot} {rest : List Value} {σ : Mem} {res : Int} {l1 : Int} (X : CX p R s m args meth c cc nL own ret fF fL G) (hP : PW G σ H) (hS : va_S (AA G) s.heap H locs) (hls : ls.size = nL) (hf : X11_priceOf σ l1 = some res) (h1 : Cond.methodLink own idx yX11_priceOf ∈ TB) (hR : 6 + 1 ≤ fF ∧ 8 + (5 + 11) + 176 ≤ fL) (hW : (rest.map fun v => v.category).sum ≤ 8) (hd : decode cc pc = .ok (.invokevirtual idx, 3)) (kk : ∀ (H1 : Heap) (locs1 : List Loc), PW G σ H1 → va_S (AA G) s.heap H1 locs1 → W p l e R s m args below meth c H1 locs1 0 0 Q (F0 m (pc + 3) ls (.int (i32 res) :: rest))) : W p l e R s m args below meth c H locs 0 0 Q (F0 m pc ls (.int (i32 l1) :: .ref (gh G + 111) :: rest)) := r_callV (n := 1) X hP hS hls (c_X11_priceOf hf) h1 (tb t_1499 rfl) (tb t_72 rfl) (tb t_87 rfl) (tb t_1500 rfl) (by decide +kernel) hR (r_recv X hP (kd_lt ks_11 (by decide)) (cE_11 ks_11) rfl) rfl rfl hW hd kk
/-! X11_breakOf -/
theorem dX11_breakOf_0 : decode cX11_breakOf 0 = .ok (.aload_n 0, 1) := by decide +kernel
theorem dX11_breakOf_1 : decode cX11_breakOf 1 = .ok (.iload_n 1, 1) := by decide +kernel
theorem dX11_breakOf_2 : decode cX11_breakOf 2 = .ok (.invokevirtual 324, 3) := by decide +kernel
theorem dX11_breakOf_5 : decode cX11_breakOf 5 = .ok (.ifCond .eq 15, 3) := by decide +kernel
theorem dX11_breakOf_8 : decode cX11_breakOf 8 = .ok (.iload_n 2, 1) := by decide +kernel
theorem dX11_breakOf_9 : decode cX11_breakOf 9 = .ok (.i2l, 1) := by decide +kernel
theorem dX11_breakOf_10 : decode cX11_breakOf 10 = .ok (.lconst 0, 1) := by decide +kernel
theorem dX11_breakOf_11 : decode cX11_breakOf 11 = .ok (.ldc2_w 135, 3) := by decide +kernel
theorem dX11_breakOf_14 : decode cX11_breakOf 14 = .ok (.invokestatic 93, 3) := by decide +kernel
theorem dX11_breakOf_17 : decode cX11_breakOf 17 = .ok (.ifCond .ne 9, 3) := by decide +kernel
theorem dX11_breakOf_20 : decode cX11_breakOf 20 = .ok (.aload_n 0, 1) := by decide +kernel
theorem dX11_breakOf_21 : decode cX11_breakOf 21 = .ok (.iconst 0, 1) := by decide +kernel
theorem dX11_breakOf_22 : decode cX11_breakOf 22 = .ok (.invokevirtual 122, 3) := by decide +kernel
theorem dX11_breakOf_25 : decode cX11_breakOf 25 = .ok (.ireturn, 1) := by decide +kernel
theorem dX11_breakOf_26 : decode cX11_breakOf 26 = .ok (.iload_n 2, 1) := by decide +kernel
theorem dX11_breakOf_27 : decode cX11_breakOf 27 = .ok (.iconst 3, 1) := by decide +kernel
theorem dX11_breakOf_28 : decode cX11_breakOf 28 = .ok (.if_icmp .ge 12, 3) := by decide +kernel
theorem dX11_breakOf_31 : decode cX11_breakOf 31 = .ok (.aload_n 0, 1) := by decide +kernel
theorem dX11_breakOf_32 : decode cX11_breakOf 32 = .ok (.iload_n 1, 1) := by decide +kernel
theorem dX11_breakOf_33 : decode cX11_breakOf 33 = .ok (.iload_n 2, 1) := by decide +kernel
theorem dX11_breakOf_34 : decode cX11_breakOf 34 = .ok (.invokevirtual 321, 3) := by decide +kernel
theorem dX11_breakOf_37 : decode cX11_breakOf 37 = .ok (.goto 29, 3) := by decide +kernel
theorem dX11_breakOf_40 : decode cX11_breakOf 40 = .ok (.iload_n 2, 1) := by decide +kernel
theorem dX11_breakOf_41 : decode cX11_breakOf 41 = .ok (.iconst 3, 1) := by decide +kernel
theorem dX11_breakOf_42 : decode cX11_breakOf 42 = .ok (.if_icmp .ne 19, 3) := by decide +kernel
theorem dX11_breakOf_45 : decode cX11_breakOf 45 = .ok (.aload_n 0, 1) := by decide +kernel
theorem dX11_breakOf_46 : decode cX11_breakOf 46 = .ok (.iload_n 1, 1) := by decide +kernel
theorem dX11_breakOf_47 : decode cX11_breakOf 47 = .ok (.invokevirtual 327, 3) := by decide +kernel
theorem dX11_breakOf_50 : decode cX11_breakOf 50 = .ok (.ifCond .eq 7, 3) := by decide +kernel
theorem dX11_breakOf_53 : decode cX11_breakOf 53 = .ok (.iconst 1, 1) := by decide +kernel
theorem dX11_breakOf_54 : decode cX11_breakOf 54 = .ok (.goto 12, 3) := by decide +kernel
theorem dX11_breakOf_57 : decode cX11_breakOf 57 = .ok (.iconst 0, 1) := by decide +kernel
theorem dX11_breakOf_58 : decode cX11_breakOf 58 = .ok (.goto 8, 3) := by decide +kernel
theorem dX11_breakOf_61 : decode cX11_breakOf 61 = .ok (.aload_n 0, 1) := by decide +kernel
theorem dX11_breakOf_62 : decode cX11_breakOf 62 = .ok (.iload_n 1, 1) := by decide +kernel
theorem dX11_breakOf_63 : decode cX11_breakOf 63 = .ok (.invokevirtual 330, 3) := by decide +kernel
theorem dX11_breakOf_66 : decode cX11_breakOf 66 = .ok (.ireturn, 1) := by decide +kernel
def X11_breakOf_B20 (σ : Mem) : Option (Int × Mem) :=
  bd2 (X11_finds σ 0) fun r1 s2 =>
  some (r1, s2)
def S_X11_breakOf_20 (fn : Mem → Option (Int × Mem)) (p : Program) (l : Launch) (e : Env) (R : Room) (s : State) (m : MethodId) (args : Array Value) (below : List Frame) (meth : Method) (c : Code) (G : GT) (τ : Mem) (res : Int) : Prop := ∀ (σ : Mem) (H : Heap) (locs : List Loc) (ls : Array Slot), PW G σ H → va_S (AA G) s.heap H locs → fn σ = some (res, τ) → lv_has ls 3 [(0, .ref (gh G + 111))] → W p l e R s m args below meth c H locs 0 0 (MQ below (QM G (some (.int (i32 res))) τ) args s 0 0 (AA G)) (F0 m 20 ls [])
def X11_breakOf (σ : Mem) (l1 : Int) (l2 : Int) : Option (Int × Mem) :=
  bd (X11_isBreak σ l1) fun r1 =>
  if w32 r1 = 0 then
    X11_breakOf_B20 σ
  else
  bd (X11_in σ (w32 l2) 0 4) fun r2 =>
  if w32 r2 ≠ 0 then
    if w32 3 ≤ w32 l2 then
      if w32 l2 ≠ w32 3 then
        bd (X11_priceOf σ l1) fun r3 =>
        some (r3, σ)
      else
      bd (X11_mayBe σ l1) fun r4 =>
      if w32 r4 = 0 then
        some (0, σ)
      else
      some (1, σ)
    else
    bd (X11_of σ l1 l2) fun r5 =>
    some (r5, σ)
  else
  X11_breakOf_B20 σ
def S_X11_breakOf_0 (fn : Mem → Int → Int → Option (Int × Mem)) (p : Program) (l : Launch) (e : Env) (R : Room) (s : State) (m : MethodId) (args : Array Value) (below : List Frame) (meth : Method) (c : Code) (G : GT) (τ : Mem) (res : Int) : Prop := ∀ (σ : Mem) (H : Heap) (locs : List Loc) (ls : Array Slot) (l1 : Int) (l2 : Int), PW G σ H → va_S (AA G) s.heap H locs → fn σ l1 l2 = some (res, τ) → lv_has ls 3 [(0, .ref (gh G + 111)), (1, .int (i32 l1)), (2, .int (i32 l2))] → W p l e R s m args below meth c H locs 0 0 (MQ below (QM G (some (.int (i32 res))) τ) args s 0 0 (AA G)) (F0 m 0 ls [])
set_option maxHeartbeats 4000000 in
theorem a_X11_breakOf_20 {p : Program} {l : Launch} {e : Env} {R : Room} {s : State} {m : MethodId} {args : Array Value} {below : List Frame} {meth : Method} {c : Code} {G : GT} {τ : Mem} {res : Int} (X : CX p R s m args meth c cX11_breakOf 3 RX11 (some FieldType.int) 8 223 G) : S_X11_breakOf_20 (X11_breakOf_B20) p l e R s m args below meth c G τ res := by
  intro σ H locs ls hP hS hf hl
  unfold X11_breakOf_B20 at hf
  refine lv_aload_n X.1 X.2.1 dX11_breakOf_20 rfl (lv_at hl 0 rfl) ?_
  refine r_iconst X 0 dX11_breakOf_21 ?_
  obtain ⟨r1, s2, hr1, hf⟩ := bd2_inv hf
  refine k_X11_finds X hP hS hl.1  hr1 (tb t_1219 rfl) (by decide) (Nat.le_of_ble_eq_true rfl) dX11_breakOf_22 (fun H locs hP hS => ?_)
  obtain ⟨rfl, rfl⟩ := so2_inv hf
  exact r_iret X hP hS dX11_breakOf_25
set_option maxHeartbeats 4000000 in
theorem a_X11_breakOf_0 {p : Program} {l : Launch} {e : Env} {R : Room} {s : State} {m : MethodId} {args : Array Value} {below : List Frame} {meth : Method} {c : Code} {G : GT} {τ : Mem} {res : Int} (X : CX p R s m args meth c cX11_breakOf 3 RX11 (some FieldType.int) 8 223 G) : S_X11_breakOf_0 (X11_breakOf) p l e R s m args below meth c G τ res := by
  intro σ H locs ls l1 l2 hP hS hf hl
  unfold X11_breakOf at hf
  refine lv_aload_n X.1 X.2.1 dX11_breakOf_0 rfl (lv_at hl 0 rfl) ?_
  refine lv_iload_n X.1 X.2.1 dX11_breakOf_1 rfl (lv_at hl 1 rfl) ?_
  obtain ⟨r1, hr1, hf⟩ := bd_inv hf
  refine k_X11_isBreak X hP hS hl.1  hr1 (tb t_1485 rfl) (by decide) (Nat.le_of_ble_eq_true rfl) dX11_breakOf_2 (fun H locs hP hS => ?_)
  refine r_if_eq (tgt := 20) X dX11_breakOf_5 (by decide) (fun q => ?_) (fun q => ?_)
  · replace hf := it_inv q hf
    exact a_X11_breakOf_20 X σ H locs ls  hP hS hf (lv_sub hl [0] rfl)
  · replace hf := ie_inv q hf
    refine lv_iload_n X.1 X.2.1 dX11_breakOf_8 rfl (lv_at hl 2 rfl) ?_
    refine r_i2l X dX11_breakOf_9 ?_
    refine r_lconst X 0 0 (by decide) dX11_breakOf_10 ?_
    refine r_ldc2 X 4 (tb t_1237 rfl) (by decide) dX11_breakOf_11 ?_
    obtain ⟨r2, hr2, hf⟩ := bd_inv hf
    refine k_X11_in X hP hS hl.1  hr2 (tb t_1208 rfl) (by decide) (Nat.le_of_ble_eq_true rfl) dX11_breakOf_14 (fun H locs hP hS => ?_)
    refine r_if_ne (tgt := 26) X dX11_breakOf_17 (by decide) (fun q => ?_) (fun q => ?_)
    · replace hf := it_inv q hf
      refine lv_iload_n X.1 X.2.1 dX11_breakOf_26 rfl (lv_at hl 2 rfl) ?_
      refine r_iconst X 3 dX11_breakOf_27 ?_
      refine r_icmp_ge (tgt := 40) X dX11_breakOf_28 (by decide) (fun q => ?_) (fun q => ?_)
      · replace hf := it_inv q hf
        refine lv_iload_n X.1 X.2.1 dX11_breakOf_40 rfl (lv_at hl 2 rfl) ?_
        refine r_iconst X 3 dX11_breakOf_41 ?_
        refine r_icmp_ne (tgt := 61) X dX11_breakOf_42 (by decide) (fun q => ?_) (fun q => ?_)
        · replace hf := it_inv q hf
          refine lv_aload_n X.1 X.2.1 dX11_breakOf_61 rfl (lv_at hl 0 rfl) ?_
          refine lv_iload_n X.1 X.2.1 dX11_breakOf_62 rfl (lv_at hl 1 rfl) ?_
          obtain ⟨r3, hr3, hf⟩ := bd_inv hf
          refine k_X11_priceOf X hP hS hl.1  hr3 (tb t_1497 rfl) (by decide) (Nat.le_of_ble_eq_true rfl) dX11_breakOf_63 (fun H locs hP hS => ?_)
          obtain ⟨rfl, rfl⟩ := so2_inv hf
          exact r_iret X hP hS dX11_breakOf_66
        · replace hf := ie_inv q hf
          refine lv_aload_n X.1 X.2.1 dX11_breakOf_45 rfl (lv_at hl 0 rfl) ?_
          refine lv_iload_n X.1 X.2.1 dX11_breakOf_46 rfl (lv_at hl 1 rfl) ?_
          obtain ⟨r4, hr4, hf⟩ := bd_inv hf
          refine k_X11_mayBe X hP hS hl.1  hr4 (tb t_1493 rfl) (by decide) (Nat.le_of_ble_eq_true rfl) dX11_breakOf_47 (fun H locs hP hS => ?_)
          refine r_if_eq (tgt := 57) X dX11_breakOf_50 (by decide) (fun q => ?_) (fun q => ?_)
          · replace hf := it_inv q hf
            refine r_iconst X 0 dX11_breakOf_57 ?_
            refine lv_goto (tgt := 66) X.1 X.2.1 dX11_breakOf_58 (by decide) ?_
            obtain ⟨rfl, rfl⟩ := so2_inv hf
            exact r_iret X hP hS dX11_breakOf_66
          · replace hf := ie_inv q hf
            refine r_iconst X 1 dX11_breakOf_53 ?_
            refine lv_goto (tgt := 66) X.1 X.2.1 dX11_breakOf_54 (by decide) ?_
            obtain ⟨rfl, rfl⟩ := so2_inv hf
            exact r_iret X hP hS dX11_breakOf_66
      · replace hf := ie_inv q hf
        refine lv_aload_n X.1 X.2.1 dX11_breakOf_31 rfl (lv_at hl 0 rfl) ?_
        refine lv_iload_n X.1 X.2.1 dX11_breakOf_32 rfl (lv_at hl 1 rfl) ?_
        refine lv_iload_n X.1 X.2.1 dX11_breakOf_33 rfl (lv_at hl 2 rfl) ?_
        obtain ⟨r5, hr5, hf⟩ := bd_inv hf
        refine k_X11_of X hP hS hl.1  hr5 (tb t_1489 rfl) (by decide) (Nat.le_of_ble_eq_true rfl) dX11_breakOf_34 (fun H locs hP hS => ?_)
        refine lv_goto (tgt := 66) X.1 X.2.1 dX11_breakOf_37 (by decide) ?_
        obtain ⟨rfl, rfl⟩ := so2_inv hf
        exact r_iret X hP hS dX11_breakOf_66
    · replace hf := ie_inv q hf
      exact a_X11_breakOf_20 X σ H locs ls  hP hS hf (lv_sub hl [0] rfl)
set_option maxHeartbeats 4000000 in
theorem c_X11_breakOf {l : Launch} {G : GT} {σ τ : Mem} {res : Int} {l1 : Int} {l2 : Int} (hf : X11_breakOf σ l1 l2 = some (res, τ)) : CT l yX11_breakOf cX11_breakOf 3 (some FieldType.int) 8 223 G [.ref (gh G + 111), .int (i32 l1), .int (i32 l2)] σ τ (some (.int (i32 res))) := by
  refine CT.mk (own := RX11) (by decide) rfl (Nat.le_of_ble_eq_true rfl) ?_
  intro p e s m below meth c ls X hP hS hl
  have hl : lv_has ls 3 [(0, .ref (gh G + 111)), (1, .int (i32 l1)), (2, .int (i32 l2))] := hl
  exact a_X11_breakOf_0 X σ s.heap [] ls l1 l2 hP hS hf hl
theorem k_X11_breakOf {p : Program} {l : Launch} {e : Env} {R : Room} {s : State} {m : MethodId} {args : Array Value} {below : List Frame} {meth : Method} {c : Code} {H : Heap} {locs : List Loc} {Q : State → Prop} {cc : ByteArray} {nL : Nat} {own : String} {ret : Option FieldType} {fF fL : Nat} {G : GT} {pc idx : Nat} {ls : Array Slot} {rest : List Value} {σ τ : Mem} {res : Int} {l1 : Int} {l2 : Int} (X : CX p R s m args meth c cc nL own ret fF fL G) (hP : PW G σ H) (hS : va_S (AA G) s.heap H locs) (hls : ls.size = nL) (hf : X11_breakOf σ l1 l2 = some (res, τ)) (h1 : Cond.methodLink own idx yX11_breakOf ∈ TB) (hR : 8 + 1 ≤ fF ∧ 8 + (3 + 11) + 223 ≤ fL) (hW : (rest.map fun v => v.category).sum ≤ 8) (hd : decode cc pc = .ok (.invokevirtual idx, 3)) (kk : ∀ (H1 : Heap) (locs1 : List Loc), PW G τ H1 → va_S (AA G) s.heap H1 locs1 → W p l e R s m args below meth c H1 locs1 0 0 Q (F0 m (pc + 3) ls (.int (i32 res) :: rest))) : W p l e R s m args below meth c H locs 0 0 Q (F0 m pc ls (.int (i32 l2) :: .int (i32 l1) :: .ref (gh G + 111) :: rest)) := r_callV (n := 2) X hP hS hls (c_X11_breakOf hf) h1 (tb t_1482 rfl) (tb t_1483 rfl) (tb t_87 rfl) (tb t_1484 rfl) (by decide +kernel) hR (r_recv X hP (kd_lt ks_11 (by decide)) (cE_11 ks_11) rfl) rfl rfl hW hd kk
/-! X11_change -/
theorem dX11_change_0 : decode cX11_change 0 = .ok (.aload_n 0, 1) := by decide +kernel
theorem dX11_change_1 : decode cX11_change 1 = .ok (.iload_n 1, 1) := by decide +kernel
theorem dX11_change_2 : decode cX11_change 2 = .ok (.iload_n 2, 1) := by decide +kernel
theorem dX11_change_3 : decode cX11_change 3 = .ok (.invokevirtual 211, 3) := by decide +kernel
theorem dX11_change_6 : decode cX11_change 6 = .ok (.ifCond .eq 37, 3) := by decide +kernel
theorem dX11_change_9 : decode cX11_change 9 = .ok (.iload_n 3, 1) := by decide +kernel
theorem dX11_change_10 : decode cX11_change 10 = .ok (.iconst 1, 1) := by decide +kernel
theorem dX11_change_11 : decode cX11_change 11 = .ok (.if_icmp .eq 8, 3) := by decide +kernel
theorem dX11_change_14 : decode cX11_change 14 = .ok (.iload_n 3, 1) := by decide +kernel
theorem dX11_change_15 : decode cX11_change 15 = .ok (.iconst 3, 1) := by decide +kernel
theorem dX11_change_16 : decode cX11_change 16 = .ok (.if_icmp .ne 27, 3) := by decide +kernel
theorem dX11_change_19 : decode cX11_change 19 = .ok (.iload 4, 2) := by decide +kernel
theorem dX11_change_21 : decode cX11_change 21 = .ok (.i2l, 1) := by decide +kernel
theorem dX11_change_22 : decode cX11_change 22 = .ok (.lconst 0, 1) := by decide +kernel
theorem dX11_change_23 : decode cX11_change 23 = .ok (.iload_n 3, 1) := by decide +kernel
theorem dX11_change_24 : decode cX11_change 24 = .ok (.iconst 1, 1) := by decide +kernel
theorem dX11_change_25 : decode cX11_change 25 = .ok (.if_icmp .ne 9, 3) := by decide +kernel
theorem dX11_change_28 : decode cX11_change 28 = .ok (.ldc2_w 214, 3) := by decide +kernel
theorem dX11_change_31 : decode cX11_change 31 = .ok (.goto 6, 3) := by decide +kernel
theorem dX11_change_34 : decode cX11_change 34 = .ok (.ldc2_w 216, 3) := by decide +kernel
theorem dX11_change_37 : decode cX11_change 37 = .ok (.invokestatic 93, 3) := by decide +kernel
theorem dX11_change_40 : decode cX11_change 40 = .ok (.ifCond .ne 9, 3) := by decide +kernel
theorem dX11_change_43 : decode cX11_change 43 = .ok (.aload_n 0, 1) := by decide +kernel
theorem dX11_change_44 : decode cX11_change 44 = .ok (.iconst 0, 1) := by decide +kernel
theorem dX11_change_45 : decode cX11_change 45 = .ok (.invokevirtual 122, 3) := by decide +kernel
theorem dX11_change_48 : decode cX11_change 48 = .ok (.ireturn, 1) := by decide +kernel
theorem dX11_change_49 : decode cX11_change 49 = .ok (.aload_n 0, 1) := by decide +kernel
theorem dX11_change_50 : decode cX11_change 50 = .ok (.getfield 9, 3) := by decide +kernel
theorem dX11_change_53 : decode cX11_change 53 = .ok (.iload_n 1, 1) := by decide +kernel
theorem dX11_change_54 : decode cX11_change 54 = .ok (.iload_n 2, 1) := by decide +kernel
theorem dX11_change_55 : decode cX11_change 55 = .ok (.iload_n 3, 1) := by decide +kernel
theorem dX11_change_56 : decode cX11_change 56 = .ok (.invokestatic 104, 3) := by decide +kernel
theorem dX11_change_59 : decode cX11_change 59 = .ok (.iaload, 1) := by decide +kernel
theorem dX11_change_60 : decode cX11_change 60 = .ok (.istore 5, 2) := by decide +kernel
theorem dX11_change_62 : decode cX11_change 62 = .ok (.aload_n 0, 1) := by decide +kernel
theorem dX11_change_63 : decode cX11_change 63 = .ok (.getfield 9, 3) := by decide +kernel
theorem dX11_change_66 : decode cX11_change 66 = .ok (.iload_n 1, 1) := by decide +kernel
theorem dX11_change_67 : decode cX11_change 67 = .ok (.iload_n 2, 1) := by decide +kernel
theorem dX11_change_68 : decode cX11_change 68 = .ok (.iload_n 3, 1) := by decide +kernel
theorem dX11_change_69 : decode cX11_change 69 = .ok (.invokestatic 104, 3) := by decide +kernel
theorem dX11_change_72 : decode cX11_change 72 = .ok (.iload 4, 2) := by decide +kernel
theorem dX11_change_74 : decode cX11_change 74 = .ok (.iastore, 1) := by decide +kernel
theorem dX11_change_75 : decode cX11_change 75 = .ok (.iload 5, 2) := by decide +kernel
theorem dX11_change_77 : decode cX11_change 77 = .ok (.ireturn, 1) := by decide +kernel
def X11_change_B43 (σ : Mem) : Option (Int × Mem) :=
  bd2 (X11_finds σ 0) fun r1 s2 =>
  some (r1, s2)
def S_X11_change_43 (fn : Mem → Option (Int × Mem)) (p : Program) (l : Launch) (e : Env) (R : Room) (s : State) (m : MethodId) (args : Array Value) (below : List Frame) (meth : Method) (c : Code) (G : GT) (τ : Mem) (res : Int) : Prop := ∀ (σ : Mem) (H : Heap) (locs : List Loc) (ls : Array Slot), PW G σ H → va_S (AA G) s.heap H locs → fn σ = some (res, τ) → lv_has ls 6 [(0, .ref (gh G + 111))] → W p l e R s m args below meth c H locs 0 0 (MQ below (QM G (some (.int (i32 res))) τ) args s 0 0 (AA G)) (F0 m 43 ls [])
def X11_change_B37 (σ : Mem) (l1 : Int) (l2 : Int) (l3 : Int) (l4 : Int) (k0 : Int) (k1 : Int) (k2 : Int) : Option (Int × Mem) :=
  bd (X11_in σ k0 k1 k2) fun r1 =>
  if w32 r1 ≠ 0 then
    bd (X11_at σ l1 l2 l3) fun r2 =>
    ag 766 r2 fun j3 =>
    lt (σ 112 j3) fun l5_4 =>
    bd (X11_at σ l1 l2 l3) fun r5 =>
    ag 766 r5 fun j6 =>
    lt (st σ 112 j6 l4) fun s7 =>
    some (l5_4, s7)
  else
  X11_change_B43 σ
def S_X11_change_37 (fn : Mem → Int → Int → Int → Int → Int → Int → Int → Option (Int × Mem)) (p : Program) (l : Launch) (e : Env) (R : Room) (s : State) (m : MethodId) (args : Array Value) (below : List Frame) (meth : Method) (c : Code) (G : GT) (τ : Mem) (res : Int) : Prop := ∀ (σ : Mem) (H : Heap) (locs : List Loc) (ls : Array Slot) (l1 : Int) (l2 : Int) (l3 : Int) (l4 : Int) (k0 : Int) (k1 : Int) (k2 : Int), PW G σ H → va_S (AA G) s.heap H locs → fn σ l1 l2 l3 l4 k0 k1 k2 = some (res, τ) → lv_has ls 6 [(0, .ref (gh G + 111)), (1, .int (i32 l1)), (2, .int (i32 l2)), (3, .int (i32 l3)), (4, .int (i32 l4))] → W p l e R s m args below meth c H locs 0 0 (MQ below (QM G (some (.int (i32 res))) τ) args s 0 0 (AA G)) (F0 m 37 ls [.long (i64 k2), .long (i64 k1), .long (i64 k0)])
def X11_change_B19 (σ : Mem) (l1 : Int) (l2 : Int) (l3 : Int) (l4 : Int) : Option (Int × Mem) :=
  if w32 l3 ≠ w32 1 then
    X11_change_B37 σ l1 l2 l3 l4 (w32 l4) 0 7
  else
  X11_change_B37 σ l1 l2 l3 l4 (w32 l4) 0 2
def S_X11_change_19 (fn : Mem → Int → Int → Int → Int → Option (Int × Mem)) (p : Program) (l : Launch) (e : Env) (R : Room) (s : State) (m : MethodId) (args : Array Value) (below : List Frame) (meth : Method) (c : Code) (G : GT) (τ : Mem) (res : Int) : Prop := ∀ (σ : Mem) (H : Heap) (locs : List Loc) (ls : Array Slot) (l1 : Int) (l2 : Int) (l3 : Int) (l4 : Int), PW G σ H → va_S (AA G) s.heap H locs → fn σ l1 l2 l3 l4 = some (res, τ) → lv_has ls 6 [(0, .ref (gh G + 111)), (1, .int (i32 l1)), (2, .int (i32 l2)), (3, .int (i32 l3)), (4, .int (i32 l4))] → W p l e R s m args below meth c H locs 0 0 (MQ below (QM G (some (.int (i32 res))) τ) args s 0 0 (AA G)) (F0 m 19 ls [])
def X11_change (σ : Mem) (l1 : Int) (l2 : Int) (l3 : Int) (l4 : Int) : Option (Int × Mem) :=
  bd (X11_isBar σ l1 l2) fun r1 =>
  if w32 r1 = 0 then
    X11_change_B43 σ
  else
  if w32 l3 = w32 1 then
    X11_change_B19 σ l1 l2 l3 l4
  else
  if w32 l3 ≠ w32 3 then
    X11_change_B43 σ
  else
  X11_change_B19 σ l1 l2 l3 l4
def S_X11_change_0 (fn : Mem → Int → Int → Int → Int → Option (Int × Mem)) (p : Program) (l : Launch) (e : Env) (R : Room) (s : State) (m : MethodId) (args : Array Value) (below : List Frame) (meth : Method) (c : Code) (G : GT) (τ : Mem) (res : Int) : Prop := ∀ (σ : Mem) (H : Heap) (locs : List Loc) (ls : Array Slot) (l1 : Int) (l2 : Int) (l3 : Int) (l4 : Int), PW G σ H → va_S (AA G) s.heap H locs → fn σ l1 l2 l3 l4 = some (res, τ) → lv_has ls 6 [(0, .ref (gh G + 111)), (1, .int (i32 l1)), (2, .int (i32 l2)), (3, .int (i32 l3)), (4, .int (i32 l4))] → W p l e R s m args below meth c H locs 0 0 (MQ below (QM G (some (.int (i32 res))) τ) args s 0 0 (AA G)) (F0 m 0 ls [])
set_option maxHeartbeats 4000000 in
theorem a_X11_change_43 {p : Program} {l : Launch} {e : Env} {R : Room} {s : State} {m : MethodId} {args : Array Value} {below : List Frame} {meth : Method} {c : Code} {G : GT} {τ : Mem} {res : Int} (X : CX p R s m args meth c cX11_change 6 RX11 (some FieldType.int) 4 127 G) : S_X11_change_43 (X11_change_B43) p l e R s m args below meth c G τ res := by
  intro σ H locs ls hP hS hf hl
  unfold X11_change_B43 at hf
  refine lv_aload_n X.1 X.2.1 dX11_change_43 rfl (lv_at hl 0 rfl) ?_
  refine r_iconst X 0 dX11_change_44 ?_
  obtain ⟨r1, s2, hr1, hf⟩ := bd2_inv hf
  refine k_X11_finds X hP hS hl.1  hr1 (tb t_1219 rfl) (by decide) (Nat.le_of_ble_eq_true rfl) dX11_change_45 (fun H locs hP hS => ?_)
  obtain ⟨rfl, rfl⟩ := so2_inv hf
  exact r_iret X hP hS dX11_change_48
set_option maxHeartbeats 4000000 in
theorem a_X11_change_37 {p : Program} {l : Launch} {e : Env} {R : Room} {s : State} {m : MethodId} {args : Array Value} {below : List Frame} {meth : Method} {c : Code} {G : GT} {τ : Mem} {res : Int} (X : CX p R s m args meth c cX11_change 6 RX11 (some FieldType.int) 4 127 G) : S_X11_change_37 (X11_change_B37) p l e R s m args below meth c G τ res := by
  intro σ H locs ls l1 l2 l3 l4 k0 k1 k2 hP hS hf hl
  unfold X11_change_B37 at hf
  obtain ⟨r1, hr1, hf⟩ := bd_inv hf
  refine k_X11_in X hP hS hl.1  hr1 (tb t_1208 rfl) (by decide) (Nat.le_of_ble_eq_true rfl) dX11_change_37 (fun H locs hP hS => ?_)
  refine r_if_ne (tgt := 49) X dX11_change_40 (by decide) (fun q => ?_) (fun q => ?_)
  · replace hf := it_inv q hf
    refine lv_aload_n X.1 X.2.1 dX11_change_49 rfl (lv_at hl 0 rfl) ?_
    refine g_11_0 (r := 112) X hP ks_11 rfl (tb t_1087 rfl) dX11_change_50 ?_
    refine lv_iload_n X.1 X.2.1 dX11_change_53 rfl (lv_at hl 1 rfl) ?_
    refine lv_iload_n X.1 X.2.1 dX11_change_54 rfl (lv_at hl 2 rfl) ?_
    refine lv_iload_n X.1 X.2.1 dX11_change_55 rfl (lv_at hl 3 rfl) ?_
    obtain ⟨r2, hr2, hf⟩ := bd_inv hf
    refine k_X11_at X hP hS hl.1  hr2 (tb t_1300 rfl) (by decide) (Nat.le_of_ble_eq_true rfl) dX11_change_56 (fun H locs hP hS => ?_)
    obtain ⟨j3, hij3, hjj3, hlj3, hf⟩ := ag_inv hf
    refine r_iald X hP (ch_11_0 ks_11).1 (ch_11_0 ks_11).2 hij3 hjj3 dX11_change_59 ?_
    obtain ⟨l5_4, el5_4, hf⟩ := lt_inv hf
    refine r_eqi el5_4 ?_
    refine lv_istore (lv' := [(5, .int (i32 l5_4)), (0, .ref (gh G + 111)), (1, .int (i32 l1)), (2, .int (i32 l2)), (3, .int (i32 l3)), (4, .int (i32 l4))]) X.1 X.2.1 dX11_change_60 hl (by decide) rfl (fun ls hl => ?_)
    refine lv_aload_n X.1 X.2.1 dX11_change_62 rfl (lv_at hl 1 rfl) ?_
    refine g_11_0 (r := 112) X hP ks_11 rfl (tb t_1087 rfl) dX11_change_63 ?_
    refine lv_iload_n X.1 X.2.1 dX11_change_66 rfl (lv_at hl 2 rfl) ?_
    refine lv_iload_n X.1 X.2.1 dX11_change_67 rfl (lv_at hl 3 rfl) ?_
    refine lv_iload_n X.1 X.2.1 dX11_change_68 rfl (lv_at hl 4 rfl) ?_
    obtain ⟨r5, hr5, hf⟩ := bd_inv hf
    refine k_X11_at X hP hS hl.1  hr5 (tb t_1300 rfl) (by decide) (Nat.le_of_ble_eq_true rfl) dX11_change_69 (fun H locs hP hS => ?_)
    refine lv_iload X.1 X.2.1 dX11_change_72 (lv_at hl 5 rfl) ?_
    obtain ⟨j6, hij6, hjj6, hlj6, hf⟩ := ag_inv hf
    refine r_iast X hP hS (ch_11_0 ks_11).1 (ch_11_0 ks_11).2 hij6 hjj6 dX11_change_74 (fun H locs hP hS => ?_)
    obtain ⟨s7, es7, hf⟩ := lt_inv hf
    rw [es7] at hP
    refine lv_iload X.1 X.2.1 dX11_change_75 (lv_at hl 0 rfl) ?_
    obtain ⟨rfl, rfl⟩ := so2_inv hf
    exact r_iret X hP hS dX11_change_77
  · replace hf := ie_inv q hf
    exact a_X11_change_43 X σ H locs ls  hP hS hf (lv_sub hl [0] rfl)
set_option maxHeartbeats 4000000 in
theorem a_X11_change_19 {p : Program} {l : Launch} {e : Env} {R : Room} {s : State} {m : MethodId} {args : Array Value} {below : List Frame} {meth : Method} {c : Code} {G : GT} {τ : Mem} {res : Int} (X : CX p R s m args meth c cX11_change 6 RX11 (some FieldType.int) 4 127 G) : S_X11_change_19 (X11_change_B19) p l e R s m args below meth c G τ res := by
  intro σ H locs ls l1 l2 l3 l4 hP hS hf hl
  unfold X11_change_B19 at hf
  refine lv_iload X.1 X.2.1 dX11_change_19 (lv_at hl 4 rfl) ?_
  refine r_i2l X dX11_change_21 ?_
  refine r_lconst X 0 0 (by decide) dX11_change_22 ?_
  refine lv_iload_n X.1 X.2.1 dX11_change_23 rfl (lv_at hl 3 rfl) ?_
  refine r_iconst X 1 dX11_change_24 ?_
  refine r_icmp_ne (tgt := 34) X dX11_change_25 (by decide) (fun q => ?_) (fun q => ?_)
  · replace hf := it_inv q hf
    refine r_ldc2 X 7 (tb t_1316 rfl) (by decide) dX11_change_34 ?_
    exact a_X11_change_37 X σ H locs ls l1 l2 l3 l4 (w32 l4) 0 7 hP hS hf hl
  · replace hf := ie_inv q hf
    refine r_ldc2 X 2 (tb t_1315 rfl) (by decide) dX11_change_28 ?_
    refine lv_goto (tgt := 37) X.1 X.2.1 dX11_change_31 (by decide) ?_
    exact a_X11_change_37 X σ H locs ls l1 l2 l3 l4 (w32 l4) 0 2 hP hS hf hl
set_option maxHeartbeats 4000000 in
theorem a_X11_change_0 {p : Program} {l : Launch} {e : Env} {R : Room} {s : State} {m : MethodId} {args : Array Value} {below : List Frame} {meth : Method} {c : Code} {G : GT} {τ : Mem} {res : Int} (X : CX p R s m args meth c cX11_change 6 RX11 (some FieldType.int) 4 127 G) : S_X11_change_0 (X11_change) p l e R s m args below meth c G τ res := by
  intro σ H locs ls l1 l2 l3 l4 hP hS hf hl
  unfold X11_change at hf
  refine lv_aload_n X.1 X.2.1 dX11_change_0 rfl (lv_at hl 0 rfl) ?_
  refine lv_iload_n X.1 X.2.1 dX11_change_1 rfl (lv_at hl 1 rfl) ?_
  refine lv_iload_n X.1 X.2.1 dX11_change_2 rfl (lv_at hl 2 rfl) ?_
  obtain ⟨r1, hr1, hf⟩ := bd_inv hf
  refine k_X11_isBar X hP hS hl.1  hr1 (tb t_1307 rfl) (by decide) (Nat.le_of_ble_eq_true rfl) dX11_change_3 (fun H locs hP hS => ?_)
  refine r_if_eq (tgt := 43) X dX11_change_6 (by decide) (fun q => ?_) (fun q => ?_)
  · replace hf := it_inv q hf
    exact a_X11_change_43 X σ H locs ls  hP hS hf (lv_sub hl [0] rfl)
  · replace hf := ie_inv q hf
    refine lv_iload_n X.1 X.2.1 dX11_change_9 rfl (lv_at hl 3 rfl) ?_
    refine r_iconst X 1 dX11_change_10 ?_
    refine r_icmp_eq (tgt := 19) X dX11_change_11 (by decide) (fun q => ?_) (fun q => ?_)
    · replace hf := it_inv q hf
      exact a_X11_change_19 X σ H locs ls l1 l2 l3 l4 hP hS hf hl
    · replace hf := ie_inv q hf
      refine lv_iload_n X.1 X.2.1 dX11_change_14 rfl (lv_at hl 3 rfl) ?_
      refine r_iconst X 3 dX11_change_15 ?_
      refine r_icmp_ne (tgt := 43) X dX11_change_16 (by decide) (fun q => ?_) (fun q => ?_)
      · replace hf := it_inv q hf
        exact a_X11_change_43 X σ H locs ls  hP hS hf (lv_sub hl [0] rfl)
      · replace hf := ie_inv q hf
        exact a_X11_change_19 X σ H locs ls l1 l2 l3 l4 hP hS hf hl
set_option maxHeartbeats 4000000 in
theorem c_X11_change {l : Launch} {G : GT} {σ τ : Mem} {res : Int} {l1 : Int} {l2 : Int} {l3 : Int} {l4 : Int} (hf : X11_change σ l1 l2 l3 l4 = some (res, τ)) : CT l yX11_change cX11_change 6 (some FieldType.int) 4 127 G [.ref (gh G + 111), .int (i32 l1), .int (i32 l2), .int (i32 l3), .int (i32 l4)] σ τ (some (.int (i32 res))) := by
  refine CT.mk (own := RX11) (by decide) rfl (Nat.le_of_ble_eq_true rfl) ?_
  intro p e s m below meth c ls X hP hS hl
  have hl : lv_has ls 6 [(0, .ref (gh G + 111)), (1, .int (i32 l1)), (2, .int (i32 l2)), (3, .int (i32 l3)), (4, .int (i32 l4))] := hl
  exact a_X11_change_0 X σ s.heap [] ls l1 l2 l3 l4 hP hS hf hl
theorem k_X11_change {p : Program} {l : Launch} {e : Env} {R : Room} {s : State} {m : MethodId} {args : Array Value} {below : List Frame} {meth : Method} {c : Code} {H : Heap} {locs : List Loc} {Q : State → Prop} {cc : ByteArray} {nL : Nat} {own : String} {ret : Option FieldType} {fF fL : Nat} {G : GT} {pc idx : Nat} {ls : Array Slot} {rest : List Value} {σ τ : Mem} {res : Int} {l1 : Int} {l2 : Int} {l3 : Int} {l4 : Int} (X : CX p R s m args meth c cc nL own ret fF fL G) (hP : PW G σ H) (hS : va_S (AA G) s.heap H locs) (hls : ls.size = nL) (hf : X11_change σ l1 l2 l3 l4 = some (res, τ)) (h1 : Cond.methodLink own idx yX11_change ∈ TB) (hR : 4 + 1 ≤ fF ∧ 8 + (6 + 11) + 127 ≤ fL) (hW : (rest.map fun v => v.category).sum ≤ 8) (hd : decode cc pc = .ok (.invokevirtual idx, 3)) (kk : ∀ (H1 : Heap) (locs1 : List Loc), PW G τ H1 → va_S (AA G) s.heap H1 locs1 → W p l e R s m args below meth c H1 locs1 0 0 Q (F0 m (pc + 3) ls (.int (i32 res) :: rest))) : W p l e R s m args below meth c H locs 0 0 Q (F0 m pc ls (.int (i32 l4) :: .int (i32 l3) :: .int (i32 l2) :: .int (i32 l1) :: .ref (gh G + 111) :: rest)) := r_callV (n := 4) X hP hS hls (c_X11_change hf) h1 (tb t_1312 rfl) (tb t_1313 rfl) (tb t_87 rfl) (tb t_1314 rfl) (by decide +kernel) hR (r_recv X hP (kd_lt ks_11 (by decide)) (cE_11 ks_11) rfl) rfl rfl hW hd kk
/-! X11_clear -/
theorem dX11_clear_0 : decode cX11_clear 0 = .ok (.iload_n 1, 1) := by decide +kernel
theorem dX11_clear_1 : decode cX11_clear 1 = .ok (.invokestatic 97, 3) := by decide +kernel
theorem dX11_clear_4 : decode cX11_clear 4 = .ok (.ifCond .ne 9, 3) := by decide +kernel
theorem dX11_clear_7 : decode cX11_clear 7 = .ok (.aload_n 0, 1) := by decide +kernel
theorem dX11_clear_8 : decode cX11_clear 8 = .ok (.iconst 0, 1) := by decide +kernel
theorem dX11_clear_9 : decode cX11_clear 9 = .ok (.invokevirtual 122, 3) := by decide +kernel
theorem dX11_clear_12 : decode cX11_clear 12 = .ok (.ireturn, 1) := by decide +kernel
theorem dX11_clear_13 : decode cX11_clear 13 = .ok (.iconst 0, 1) := by decide +kernel
theorem dX11_clear_14 : decode cX11_clear 14 = .ok (.istore_n 2, 1) := by decide +kernel
theorem dX11_clear_15 : decode cX11_clear 15 = .ok (.aload_n 0, 1) := by decide +kernel
theorem dX11_clear_16 : decode cX11_clear 16 = .ok (.getfield 9, 3) := by decide +kernel
theorem dX11_clear_19 : decode cX11_clear 19 = .ok (.sipush 665, 3) := by decide +kernel
theorem dX11_clear_22 : decode cX11_clear 22 = .ok (.iaload, 1) := by decide +kernel
theorem dX11_clear_23 : decode cX11_clear 23 = .ok (.istore_n 3, 1) := by decide +kernel
theorem dX11_clear_24 : decode cX11_clear 24 = .ok (.iconst 0, 1) := by decide +kernel
theorem dX11_clear_25 : decode cX11_clear 25 = .ok (.istore 4, 2) := by decide +kernel
theorem dX11_clear_27 : decode cX11_clear 27 = .ok (.iload 4, 2) := by decide +kernel
theorem dX11_clear_29 : decode cX11_clear 29 = .ok (.iload_n 3, 1) := by decide +kernel
theorem dX11_clear_30 : decode cX11_clear 30 = .ok (.if_icmp .ge 129, 3) := by decide +kernel
theorem dX11_clear_33 : decode cX11_clear 33 = .ok (.aload_n 0, 1) := by decide +kernel
theorem dX11_clear_34 : decode cX11_clear 34 = .ok (.iload 4, 2) := by decide +kernel
theorem dX11_clear_36 : decode cX11_clear 36 = .ok (.iconst 1, 1) := by decide +kernel
theorem dX11_clear_37 : decode cX11_clear 37 = .ok (.invokevirtual 321, 3) := by decide +kernel
theorem dX11_clear_40 : decode cX11_clear 40 = .ok (.iload_n 1, 1) := by decide +kernel
theorem dX11_clear_41 : decode cX11_clear 41 = .ok (.if_icmp .ne 7, 3) := by decide +kernel
theorem dX11_clear_44 : decode cX11_clear 44 = .ok (.iconst 1, 1) := by decide +kernel
theorem dX11_clear_45 : decode cX11_clear 45 = .ok (.goto 4, 3) := by decide +kernel
theorem dX11_clear_48 : decode cX11_clear 48 = .ok (.iconst 0, 1) := by decide +kernel
theorem dX11_clear_49 : decode cX11_clear 49 = .ok (.istore 5, 2) := by decide +kernel
theorem dX11_clear_51 : decode cX11_clear 51 = .ok (.iconst 0, 1) := by decide +kernel
theorem dX11_clear_52 : decode cX11_clear 52 = .ok (.istore 6, 2) := by decide +kernel
theorem dX11_clear_54 : decode cX11_clear 54 = .ok (.iload 6, 2) := by decide +kernel
theorem dX11_clear_56 : decode cX11_clear 56 = .ok (.bipush 10, 2) := by decide +kernel
theorem dX11_clear_58 : decode cX11_clear 58 = .ok (.if_icmp .ge 46, 3) := by decide +kernel
theorem dX11_clear_61 : decode cX11_clear 61 = .ok (.aload_n 0, 1) := by decide +kernel
theorem dX11_clear_62 : decode cX11_clear 62 = .ok (.getfield 9, 3) := by decide +kernel
theorem dX11_clear_65 : decode cX11_clear 65 = .ok (.sipush 756, 3) := by decide +kernel
theorem dX11_clear_68 : decode cX11_clear 68 = .ok (.iload 6, 2) := by decide +kernel
theorem dX11_clear_70 : decode cX11_clear 70 = .ok (.iadd, 1) := by decide +kernel
theorem dX11_clear_71 : decode cX11_clear 71 = .ok (.iaload, 1) := by decide +kernel
theorem dX11_clear_72 : decode cX11_clear 72 = .ok (.iload 4, 2) := by decide +kernel
theorem dX11_clear_74 : decode cX11_clear 74 = .ok (.if_icmp .ne 24, 3) := by decide +kernel
theorem dX11_clear_77 : decode cX11_clear 77 = .ok (.aload_n 0, 1) := by decide +kernel
theorem dX11_clear_78 : decode cX11_clear 78 = .ok (.getfield 9, 3) := by decide +kernel
theorem dX11_clear_81 : decode cX11_clear 81 = .ok (.sipush 756, 3) := by decide +kernel
theorem dX11_clear_84 : decode cX11_clear 84 = .ok (.iload 6, 2) := by decide +kernel
theorem dX11_clear_86 : decode cX11_clear 86 = .ok (.iadd, 1) := by decide +kernel
theorem dX11_clear_87 : decode cX11_clear 87 = .ok (.iload 5, 2) := by decide +kernel
theorem dX11_clear_89 : decode cX11_clear 89 = .ok (.ifCond .eq 7, 3) := by decide +kernel
theorem dX11_clear_92 : decode cX11_clear 92 = .ok (.iconst (-1), 1) := by decide +kernel
theorem dX11_clear_93 : decode cX11_clear 93 = .ok (.goto 4, 3) := by decide +kernel
theorem dX11_clear_96 : decode cX11_clear 96 = .ok (.iload_n 2, 1) := by decide +kernel
theorem dX11_clear_97 : decode cX11_clear 97 = .ok (.iastore, 1) := by decide +kernel
theorem dX11_clear_98 : decode cX11_clear 98 = .ok (.iinc 6 1, 3) := by decide +kernel
theorem dX11_clear_101 : decode cX11_clear 101 = .ok (.goto (-47), 3) := by decide +kernel
theorem dX11_clear_104 : decode cX11_clear 104 = .ok (.iload 5, 2) := by decide +kernel
theorem dX11_clear_106 : decode cX11_clear 106 = .ok (.ifCond .eq 6, 3) := by decide +kernel
theorem dX11_clear_109 : decode cX11_clear 109 = .ok (.goto 44, 3) := by decide +kernel
theorem dX11_clear_112 : decode cX11_clear 112 = .ok (.iconst 0, 1) := by decide +kernel
theorem dX11_clear_113 : decode cX11_clear 113 = .ok (.istore 6, 2) := by decide +kernel
theorem dX11_clear_115 : decode cX11_clear 115 = .ok (.iload 6, 2) := by decide +kernel
theorem dX11_clear_117 : decode cX11_clear 117 = .ok (.iconst 3, 1) := by decide +kernel
theorem dX11_clear_118 : decode cX11_clear 118 = .ok (.if_icmp .ge 32, 3) := by decide +kernel
theorem dX11_clear_121 : decode cX11_clear 121 = .ok (.aload_n 0, 1) := by decide +kernel
theorem dX11_clear_122 : decode cX11_clear 122 = .ok (.getfield 9, 3) := by decide +kernel
theorem dX11_clear_125 : decode cX11_clear 125 = .ok (.sipush 666, 3) := by decide +kernel
theorem dX11_clear_128 : decode cX11_clear 128 = .ok (.iconst 3, 1) := by decide +kernel
theorem dX11_clear_129 : decode cX11_clear 129 = .ok (.iload_n 2, 1) := by decide +kernel
theorem dX11_clear_130 : decode cX11_clear 130 = .ok (.imul, 1) := by decide +kernel
theorem dX11_clear_131 : decode cX11_clear 131 = .ok (.iadd, 1) := by decide +kernel
theorem dX11_clear_132 : decode cX11_clear 132 = .ok (.iload 6, 2) := by decide +kernel
theorem dX11_clear_134 : decode cX11_clear 134 = .ok (.iadd, 1) := by decide +kernel
theorem dX11_clear_135 : decode cX11_clear 135 = .ok (.aload_n 0, 1) := by decide +kernel
theorem dX11_clear_136 : decode cX11_clear 136 = .ok (.iload 4, 2) := by decide +kernel
theorem dX11_clear_138 : decode cX11_clear 138 = .ok (.iload 6, 2) := by decide +kernel
theorem dX11_clear_140 : decode cX11_clear 140 = .ok (.invokevirtual 321, 3) := by decide +kernel
theorem dX11_clear_143 : decode cX11_clear 143 = .ok (.iastore, 1) := by decide +kernel
theorem dX11_clear_144 : decode cX11_clear 144 = .ok (.iinc 6 1, 3) := by decide +kernel
theorem dX11_clear_147 : decode cX11_clear 147 = .ok (.goto (-32), 3) := by decide +kernel
theorem dX11_clear_150 : decode cX11_clear 150 = .ok (.iinc 2 1, 3) := by decide +kernel
theorem dX11_clear_153 : decode cX11_clear 153 = .ok (.iinc 4 1, 3) := by decide +kernel
theorem dX11_clear_156 : decode cX11_clear 156 = .ok (.goto (-129), 3) := by decide +kernel
theorem dX11_clear_159 : decode cX11_clear 159 = .ok (.aload_n 0, 1) := by decide +kernel
theorem dX11_clear_160 : decode cX11_clear 160 = .ok (.getfield 9, 3) := by decide +kernel
theorem dX11_clear_163 : decode cX11_clear 163 = .ok (.sipush 665, 3) := by decide +kernel
theorem dX11_clear_166 : decode cX11_clear 166 = .ok (.iload_n 2, 1) := by decide +kernel
theorem dX11_clear_167 : decode cX11_clear 167 = .ok (.iastore, 1) := by decide +kernel
theorem dX11_clear_168 : decode cX11_clear 168 = .ok (.iload_n 3, 1) := by decide +kernel
theorem dX11_clear_169 : decode cX11_clear 169 = .ok (.iload_n 2, 1) := by decide +kernel
theorem dX11_clear_170 : decode cX11_clear 170 = .ok (.isub, 1) := by decide +kernel
theorem dX11_clear_171 : decode cX11_clear 171 = .ok (.ireturn, 1) := by decide +kernel
def S_X11_clear_27 (fn : Mem → Int → Int → Int → Int → Option (Int × Mem)) (p : Program) (l : Launch) (e : Env) (R : Room) (s : State) (m : MethodId) (args : Array Value) (below : List Frame) (meth : Method) (c : Code) (G : GT) (τ : Mem) (res : Int) : Prop := ∀ (σ : Mem) (H : Heap) (locs : List Loc) (ls : Array Slot) (l1 : Int) (l2 : Int) (l3 : Int) (l4 : Int), PW G σ H → va_S (AA G) s.heap H locs → fn σ l1 l2 l3 l4 = some (res, τ) → lv_has ls 7 [(0, .ref (gh G + 111)), (1, .int (i32 l1)), (2, .int (i32 l2)), (3, .int (i32 l3)), (4, .int (i32 l4))] → W p l e R s m args below meth c H locs 0 0 (MQ below (QM G (some (.int (i32 res))) τ) args s 0 0 (AA G)) (F0 m 27 ls [])
def S_X11_clear_54 (fn : Mem → Int → Int → Int → Int → Int → Int → Option (Int × Mem)) (p : Program) (l : Launch) (e : Env) (R : Room) (s : State) (m : MethodId) (args : Array Value) (below : List Frame) (meth : Method) (c : Code) (G : GT) (τ : Mem) (res : Int) : Prop := ∀ (σ : Mem) (H : Heap) (locs : List Loc) (ls : Array Slot) (l1 : Int) (l2 : Int) (l3 : Int) (l4 : Int) (l5 : Int) (l6 : Int), PW G σ H → va_S (AA G) s.heap H locs → fn σ l1 l2 l3 l4 l5 l6 = some (res, τ) → lv_has ls 7 [(0, .ref (gh G + 111)), (1, .int (i32 l1)), (2, .int (i32 l2)), (3, .int (i32 l3)), (4, .int (i32 l4)), (5, .int (i32 l5)), (6, .int (i32 l6))] → W p l e R s m args below meth c H locs 0 0 (MQ below (QM G (some (.int (i32 res))) τ) args s 0 0 (AA G)) (F0 m 54 ls [])
def S_X11_clear_115 (fn : Mem → Int → Int → Int → Int → Int → Option (Int × Mem)) (p : Program) (l : Launch) (e : Env) (R : Room) (s : State) (m : MethodId) (args : Array Value) (below : List Frame) (meth : Method) (c : Code) (G : GT) (τ : Mem) (res : Int) : Prop := ∀ (σ : Mem) (H : Heap) (locs : List Loc) (ls : Array Slot) (l1 : Int) (l2 : Int) (l3 : Int) (l4 : Int) (l6 : Int), PW G σ H → va_S (AA G) s.heap H locs → fn σ l1 l2 l3 l4 l6 = some (res, τ) → lv_has ls 7 [(0, .ref (gh G + 111)), (1, .int (i32 l1)), (2, .int (i32 l2)), (3, .int (i32 l3)), (4, .int (i32 l4)), (6, .int (i32 l6))] → W p l e R s m args below meth c H locs 0 0 (MQ below (QM G (some (.int (i32 res))) τ) args s 0 0 (AA G)) (F0 m 115 ls [])
def X11_clear_B153 (rec27 : Mem → Int → Int → Int → Int → Option (Int × Mem)) (σ : Mem) (l1 : Int) (l2 : Int) (l3 : Int) (l4 : Int) : Option (Int × Mem) :=
  lt (l4 + 1) fun l4_1 =>
  rec27 σ l1 l2 l3 l4_1
def S_X11_clear_153 (fn : Mem → Int → Int → Int → Int → Option (Int × Mem)) (p : Program) (l : Launch) (e : Env) (R : Room) (s : State) (m : MethodId) (args : Array Value) (below : List Frame) (meth : Method) (c : Code) (G : GT) (τ : Mem) (res : Int) : Prop := ∀ (σ : Mem) (H : Heap) (locs : List Loc) (ls : Array Slot) (l1 : Int) (l2 : Int) (l3 : Int) (l4 : Int), PW G σ H → va_S (AA G) s.heap H locs → fn σ l1 l2 l3 l4 = some (res, τ) → lv_has ls 7 [(0, .ref (gh G + 111)), (1, .int (i32 l1)), (2, .int (i32 l2)), (3, .int (i32 l3)), (4, .int (i32 l4))] → W p l e R s m args below meth c H locs 0 0 (MQ below (QM G (some (.int (i32 res))) τ) args s 0 0 (AA G)) (F0 m 153 ls [])
def X11_clear_B115 (rec27 : Mem → Int → Int → Int → Int → Option (Int × Mem)) (rec115 : Mem → Int → Int → Int → Int → Int → Option (Int × Mem)) (σ : Mem) (l1 : Int) (l2 : Int) (l3 : Int) (l4 : Int) (l6 : Int) : Option (Int × Mem) :=
  if w32 3 ≤ w32 l6 then
    lt (l2 + 1) fun l2_1 =>
    X11_clear_B153 rec27 σ l1 l2_1 l3 l4
  else
  bd (X11_of σ l4 l6) fun r2 =>
  ag 766 ((666 + (3 * l2)) + l6) fun j3 =>
  lt (st σ 112 j3 r2) fun s4 =>
  lt (l6 + 1) fun l6_5 =>
  rec115 s4 l1 l2 l3 l4 l6_5
def X11_clear_L115 (rec27 : Mem → Int → Int → Int → Int → Option (Int × Mem)) : Nat → Mem → Int → Int → Int → Int → Int → Option (Int × Mem)
  | 0 => fun _ _ _ _ _ _ => none
  | n + 1 => X11_clear_B115 rec27 (X11_clear_L115 rec27 n)
def X11_clear_B98 (rec27 : Mem → Int → Int → Int → Int → Option (Int × Mem)) (rec54 : Mem → Int → Int → Int → Int → Int → Int → Option (Int × Mem)) (σ : Mem) (l1 : Int) (l2 : Int) (l3 : Int) (l4 : Int) (l5 : Int) (l6 : Int) : Option (Int × Mem) :=
  lt (l6 + 1) fun l6_1 =>
  rec54 σ l1 l2 l3 l4 l5 l6_1
def S_X11_clear_98 (fn : Mem → Int → Int → Int → Int → Int → Int → Option (Int × Mem)) (p : Program) (l : Launch) (e : Env) (R : Room) (s : State) (m : MethodId) (args : Array Value) (below : List Frame) (meth : Method) (c : Code) (G : GT) (τ : Mem) (res : Int) : Prop := ∀ (σ : Mem) (H : Heap) (locs : List Loc) (ls : Array Slot) (l1 : Int) (l2 : Int) (l3 : Int) (l4 : Int) (l5 : Int) (l6 : Int), PW G σ H → va_S (AA G) s.heap H locs → fn σ l1 l2 l3 l4 l5 l6 = some (res, τ) → lv_has ls 7 [(0, .ref (gh G + 111)), (1, .int (i32 l1)), (2, .int (i32 l2)), (3, .int (i32 l3)), (4, .int (i32 l4)), (5, .int (i32 l5)), (6, .int (i32 l6))] → W p l e R s m args below meth c H locs 0 0 (MQ below (QM G (some (.int (i32 res))) τ) args s 0 0 (AA G)) (F0 m 98 ls [])
def X11_clear_B97 (rec27 : Mem → Int → Int → Int → Int → Option (Int × Mem)) (rec54 : Mem → Int → Int → Int → Int → Int → Int → Option (Int × Mem)) (σ : Mem) (l1 : Int) (l2 : Int) (l3 : Int) (l4 : Int) (l5 : Int) (l6 : Int) (k0 : Nat) (k1 : Int) (k2 : Int) : Option (Int × Mem) :=
  ag 766 k1 fun j1 =>
  lt (st σ k0 j1 k2) fun s2 =>
  X11_clear_B98 rec27 rec54 s2 l1 l2 l3 l4 l5 l6
def S_X11_clear_97 (fn : Mem → Int → Int → Int → Int → Int → Int → Nat → Int → Int → Option (Int × Mem)) (p : Program) (l : Launch) (e : Env) (R : Room) (s : State) (m : MethodId) (args : Array Value) (below : List Frame) (meth : Method) (c : Code) (G : GT) (τ : Mem) (res : Int) : Prop := ∀ (σ : Mem) (H : Heap) (locs : List Loc) (ls : Array Slot) (l1 : Int) (l2 : Int) (l3 : Int) (l4 : Int) (l5 : Int) (l6 : Int) (k0 : Nat) (k1 : Int) (k2 : Int), kd k0 = 13 → ln k0 = 766 → PW G σ H → va_S (AA G) s.heap H locs → fn σ l1 l2 l3 l4 l5 l6 k0 k1 k2 = some (res, τ) → lv_has ls 7 [(0, .ref (gh G + 111)), (1, .int (i32 l1)), (2, .int (i32 l2)), (3, .int (i32 l3)), (4, .int (i32 l4)), (5, .int (i32 l5)), (6, .int (i32 l6))] → W p l e R s m args below meth c H locs 0 0 (MQ below (QM G (some (.int (i32 res))) τ) args s 0 0 (AA G)) (F0 m 97 ls [.int (i32 k2), .int (i32 k1), .ref (gh G + k0)])
def X11_clear_B54 (rec27 : Mem → Int → Int → Int → Int → Option (Int × Mem)) (rec54 : Mem → Int → Int → Int → Int → Int → Int → Option (Int × Mem)) (σ : Mem) (l1 : Int) (l2 : Int) (l3 : Int) (l4 : Int) (l5 : Int) (l6 : Int) : Option (Int × Mem) :=
  if w32 10 ≤ w32 l6 then
    if w32 l5 = 0 then
      X11_clear_L115 rec27 5000 σ l1 l2 l3 l4 0
    else
    X11_clear_B153 rec27 σ l1 l2 l3 l4
  else
  ag 766 (756 + l6) fun j1 =>
  if w32 (σ 112 j1) ≠ w32 l4 then
    X11_clear_B98 rec27 rec54 σ l1 l2 l3 l4 l5 l6
  else
  if w32 l5 = 0 then
    X11_clear_B97 rec27 rec54 σ l1 l2 l3 l4 l5 l6 112 (756 + l6) l2
  else
  X11_clear_B97 rec27 rec54 σ l1 l2 l3 l4 l5 l6 112 (756 + l6) (-1)
def X11_clear_L54 (rec27 : Mem → Int → Int → Int → Int → Option (Int × Mem)) : Nat → Mem → Int → Int → Int → Int → Int → Int → Option (Int × Mem)
  | 0 => fun _ _ _ _ _ _ _ => none
  | n + 1 => X11_clear_B54 rec27 (X11_clear_L54 rec27 n)
def X11_clear_B49 (rec27 : Mem → Int → Int → Int → Int → Option (Int × Mem)) (σ : Mem) (l1 : Int) (l2 : Int) (l3 : Int) (l4 : Int) (k0 : Int) : Option (Int × Mem) :=
  X11_clear_L54 rec27 5000 σ l1 l2 l3 l4 k0 0
def S_X11_clear_49 (fn : Mem → Int → Int → Int → Int → Int → Option (Int × Mem)) (p : Program) (l : Launch) (e : Env) (R : Room) (s : State) (m : MethodId) (args : Array Value) (below : List Frame) (meth : Method) (c : Code) (G : GT) (τ : Mem) (res : Int) : Prop := ∀ (σ : Mem) (H : Heap) (locs : List Loc) (ls : Array Slot) (l1 : Int) (l2 : Int) (l3 : Int) (l4 : Int) (k0 : Int), PW G σ H → va_S (AA G) s.heap H locs → fn σ l1 l2 l3 l4 k0 = some (res, τ) → lv_has ls 7 [(0, .ref (gh G + 111)), (1, .int (i32 l1)), (2, .int (i32 l2)), (3, .int (i32 l3)), (4, .int (i32 l4))] → W p l e R s m args below meth c H locs 0 0 (MQ below (QM G (some (.int (i32 res))) τ) args s 0 0 (AA G)) (F0 m 49 ls [.int (i32 k0)])
def X11_clear_B27 (rec27 : Mem → Int → Int → Int → Int → Option (Int × Mem)) (σ : Mem) (l1 : Int) (l2 : Int) (l3 : Int) (l4 : Int) : Option (Int × Mem) :=
  if w32 l3 ≤ w32 l4 then
    ag 766 665 fun j1 =>
    lt (st σ 112 j1 l2) fun s2 =>
    some (l3 - l2, s2)
  else
  bd (X11_of σ l4 1) fun r3 =>
  if w32 r3 ≠ w32 l1 then
    X11_clear_B49 rec27 σ l1 l2 l3 l4 0
  else
  X11_clear_B49 rec27 σ l1 l2 l3 l4 1
def X11_clear_L27 : Nat → Mem → Int → Int → Int → Int → Option (Int × Mem)
  | 0 => fun _ _ _ _ _ => none
  | n + 1 => X11_clear_B27 (X11_clear_L27 n)
def X11_clear (σ : Mem) (l1 : Int) : Option (Int × Mem) :=
  bd (X11_isPart σ l1) fun r1 =>
  if w32 r1 ≠ 0 then
    ag 766 665 fun j2 =>
    lt (σ 112 j2) fun l3_3 =>
    X11_clear_L27 5000 σ l1 0 l3_3 0
  else
  bd2 (X11_finds σ 0) fun r4 s5 =>
  some (r4, s5)
def S_X11_clear_0 (fn : Mem → Int → Option (Int × Mem)) (p : Program) (l : Launch) (e : Env) (R : Room) (s : State) (m : MethodId) (args : Array Value) (below : List Frame) (meth : Method) (c : Code) (G : GT) (τ : Mem) (res : Int) : Prop := ∀ (σ : Mem) (H : Heap) (locs : List Loc) (ls : Array Slot) (l1 : Int), PW G σ H → va_S (AA G) s.heap H locs → fn σ l1 = some (res, τ) → lv_has ls 7 [(0, .ref (gh G + 111)), (1, .int (i32 l1))] → W p l e R s m args below meth c H locs 0 0 (MQ below (QM G (some (.int (i32 res))) τ) args s 0 0 (AA G)) (F0 m 0 ls [])
set_option maxHeartbeats 4000000 in
theorem a_X11_clear_153 {p : Program} {l : Launch} {e : Env} {R : Room} {s : State} {m : MethodId} {args : Array Value} {below : List Frame} {meth : Method} {c : Code} {G : GT} {τ : Mem} {res : Int} {rec27 : Mem → Int → Int → Int → Int → Option (Int × Mem)} (X : CX p R s m args meth c cX11_clear 7 RX11 (some FieldType.int) 3 105 G) (h27 : S_X11_clear_27 rec27 p l e R s m args below meth c G τ res) : S_X11_clear_153 (X11_clear_B153 rec27) p l e R s m args below meth c G τ res := by
  intro σ H locs ls l1 l2 l3 l4 hP hS hf hl
  unfold X11_clear_B153 at hf
  obtain ⟨l4_1, el4_1, hf⟩ := lt_inv hf
  refine lv_iinc (v := i32 l4_1) (lv' := [(4, .int (i32 l4_1)), (0, .ref (gh G + 111)), (1, .int (i32 l1)), (2, .int (i32 l2)), (3, .int (i32 l3))]) X.1 X.2.1 dX11_clear_153 hl (k := 4) rfl (by rw [← el4_1]; exact i32_add _ _) (by decide) rfl (fun ls hl => ?_)
  refine lv_goto (tgt := 27) X.1 X.2.1 dX11_clear_156 (by decide) ?_
  exact h27 σ H locs ls l1 l2 l3 l4_1 hP hS hf (lv_sub hl [1, 2, 3, 4, 0] rfl)
set_option maxHeartbeats 4000000 in
theorem a_X11_clear_115 {p : Program} {l : Launch} {e : Env} {R : Room} {s : State} {m : MethodId} {args : Array Value} {below : List Frame} {meth : Method} {c : Code} {G : GT} {τ : Mem} {res : Int} {rec27 : Mem → Int → Int → Int → Int → Option (Int × Mem)} {rec115 : Mem → Int → Int → Int → Int → Int → Option (Int × Mem)} (X : CX p R s m args meth c cX11_clear 7 RX11 (some FieldType.int) 3 105 G) (h27 : S_X11_clear_27 rec27 p l e R s m args below meth c G τ res) (h115 : S_X11_clear_115 rec115 p l e R s m args below meth c G τ res) : S_X11_clear_115 (X11_clear_B115 rec27 rec115) p l e R s m args below meth c G τ res := by
  intro σ H locs ls l1 l2 l3 l4 l6 hP hS hf hl
  unfold X11_clear_B115 at hf
  refine lv_iload X.1 X.2.1 dX11_clear_115 (lv_at hl 5 rfl) ?_
  refine r_iconst X 3 dX11_clear_117 ?_
  refine r_icmp_ge (tgt := 150) X dX11_clear_118 (by decide) (fun q => ?_) (fun q => ?_)
  · replace hf := it_inv q hf
    obtain ⟨l2_1, el2_1, hf⟩ := lt_inv hf
    refine lv_iinc (v := i32 l2_1) (lv' := [(2, .int (i32 l2_1)), (0, .ref (gh G + 111)), (1, .int (i32 l1)), (3, .int (i32 l3)), (4, .int (i32 l4)), (6, .int (i32 l6))]) X.1 X.2.1 dX11_clear_150 hl (k := 2) rfl (by rw [← el2_1]; exact i32_add _ _) (by decide) rfl (fun ls hl => ?_)
    exact a_X11_clear_153 X h27 σ H locs ls l1 l2_1 l3 l4 hP hS hf (lv_sub hl [1, 2, 0, 3, 4] rfl)
  · replace hf := ie_inv q hf
    refine lv_aload_n X.1 X.2.1 dX11_clear_121 rfl (lv_at hl 0 rfl) ?_
    refine g_11_0 (r := 112) X hP ks_11 rfl (tb t_1087 rfl) dX11_clear_122 ?_
    refine r_sipush X 666 (by decide) dX11_clear_125 ?_
    refine r_iconst X 3 dX11_clear_128 ?_
    refine lv_iload_n X.1 X.2.1 dX11_clear_129 rfl (lv_at hl 2 rfl) ?_
    refine r_imul X dX11_clear_130 ?_
    refine r_iadd X dX11_clear_131 ?_
    refine lv_iload X.1 X.2.1 dX11_clear_132 (lv_at hl 5 rfl) ?_
    refine r_iadd X dX11_clear_134 ?_
    refine lv_aload_n X.1 X.2.1 dX11_clear_135 rfl (lv_at hl 0 rfl) ?_
    refine lv_iload X.1 X.2.1 dX11_clear_136 (lv_at hl 4 rfl) ?_
    refine lv_iload X.1 X.2.1 dX11_clear_138 (lv_at hl 5 rfl) ?_
    obtain ⟨r2, hr2, hf⟩ := bd_inv hf
    refine k_X11_of X hP hS hl.1  hr2 (tb t_1489 rfl) (by decide) (Nat.le_of_ble_eq_true rfl) dX11_clear_140 (fun H locs hP hS => ?_)
    obtain ⟨j3, hij3, hjj3, hlj3, hf⟩ := ag_inv hf
    refine r_iast X hP hS (ch_11_0 ks_11).1 (ch_11_0 ks_11).2 hij3 hjj3 dX11_clear_143 (fun H locs hP hS => ?_)
    obtain ⟨s4, es4, hf⟩ := lt_inv hf
    rw [es4] at hP
    obtain ⟨l6_5, el6_5, hf⟩ := lt_inv hf
    refine lv_iinc (v := i32 l6_5) (lv' := [(6, .int (i32 l6_5)), (0, .ref (gh G + 111)), (1, .int (i32 l1)), (2, .int (i32 l2)), (3, .int (i32 l3)), (4, .int (i32 l4))]) X.1 X.2.1 dX11_clear_144 hl (k := 5) rfl (by rw [← el6_5]; exact i32_add _ _) (by decide) rfl (fun ls hl => ?_)
    refine lv_goto (tgt := 115) X.1 X.2.1 dX11_clear_147 (by decide) ?_
    exact h115 s4 H locs ls l1 l2 l3 l4 l6_5 hP hS hf (lv_sub hl [1, 2, 3, 4, 5, 0] rfl)
theorem al_X11_clear_115 {p : Program} {l : Launch} {e : Env} {R : Room} {s : State} {m : MethodId} {args : Array Value} {below : List Frame} {meth : Method} {c : Code} {G : GT} {τ : Mem} {res : Int} {rec27 : Mem → Int → Int → Int → Int → Option (Int × Mem)} (X : CX p R s m args meth c cX11_clear 7 RX11 (some FieldType.int) 3 105 G) (h27 : S_X11_clear_27 rec27 p l e R s m args below meth c G τ res) : ∀ n, S_X11_clear_115 (X11_clear_L115 rec27 n) p l e R s m args below meth c G τ res := by
  intro n
  induction n with
  | zero =>
    intro σ H locs ls l1 l2 l3 l4 l6 hP hS hf hl
    cases hf
  | succ n ih => exact a_X11_clear_115 X h27 ih
set_option maxHeartbeats 4000000 in
theorem a_X11_clear_98 {p : Program} {l : Launch} {e : Env} {R : Room} {s : State} {m : MethodId} {args : Array Value} {below : List Frame} {meth : Method} {c : Code} {G : GT} {τ : Mem} {res : Int} {rec27 : Mem → Int → Int → Int → Int → Option (Int × Mem)} {rec54 : Mem → Int → Int → Int → Int → Int → Int → Option (Int × Mem)} (X : CX p R s m args meth c cX11_clear 7 RX11 (some FieldType.int) 3 105 G) (h27 : S_X11_clear_27 rec27 p l e R s m args below meth c G τ res) (h54 : S_X11_clear_54 rec54 p l e R s m args below meth c G τ res) : S_X11_clear_98 (X11_clear_B98 rec27 rec54) p l e R s m args below meth c G τ res := by
  intro σ H locs ls l1 l2 l3 l4 l5 l6 hP hS hf hl
  unfold X11_clear_B98 at hf
  obtain ⟨l6_1, el6_1, hf⟩ := lt_inv hf
  refine lv_iinc (v := i32 l6_1) (lv' := [(6, .int (i32 l6_1)), (0, .ref (gh G + 111)), (1, .int (i32 l1)), (2, .int (i32 l2)), (3, .int (i32 l3)), (4, .int (i32 l4)), (5, .int (i32 l5))]) X.1 X.2.1 dX11_clear_98 hl (k := 6) rfl (by rw [← el6_1]; exact i32_add _ _) (by decide) rfl (fun ls hl => ?_)
  refine lv_goto (tgt := 54) X.1 X.2.1 dX11_clear_101 (by decide) ?_
  exact h54 σ H locs ls l1 l2 l3 l4 l5 l6_1 hP hS hf (lv_sub hl [1, 2, 3, 4, 5, 6, 0] rfl)
set_option maxHeartbeats 4000000 in
theorem a_X11_clear_97 {p : Program} {l : Launch} {e : Env} {R : Room} {s : State} {m : MethodId} {args : Array Value} {below : List Frame} {meth : Method} {c : Code} {G : GT} {τ : Mem} {res : Int} {rec27 : Mem → Int → Int → Int → Int → Option (Int × Mem)} {rec54 : Mem → Int → Int → Int → Int → Int → Int → Option (Int × Mem)} (X : CX p R s m args meth c cX11_clear 7 RX11 (some FieldType.int) 3 105 G) (h27 : S_X11_clear_27 rec27 p l e R s m args below meth c G τ res) (h54 : S_X11_clear_54 rec54 p l e R s m args below meth c G τ res) : S_X11_clear_97 (X11_clear_B97 rec27 rec54) p l e R s m args below meth c G τ res := by
  intro σ H locs ls l1 l2 l3 l4 l5 l6 k0 k1 k2 hk_k0 hn_k0 hP hS hf hl
  unfold X11_clear_B97 at hf
  obtain ⟨j1, hij1, hjj1, hlj1, hf⟩ := ag_inv hf
  refine r_iast X hP hS hk_k0 hn_k0 hij1 hjj1 dX11_clear_97 (fun H locs hP hS => ?_)
  obtain ⟨s2, es2, hf⟩ := lt_inv hf
  rw [es2] at hP
  exact a_X11_clear_98 X h27 h54 s2 H locs ls l1 l2 l3 l4 l5 l6 hP hS hf hl
set_option maxHeartbeats 4000000 in
theorem a_X11_clear_54 {p : Program} {l : Launch} {e : Env} {R : Room} {s : State} {m : MethodId} {args : Array Value} {below : List Frame} {meth : Method} {c : Code} {G : GT} {τ : Mem} {res : Int} {rec27 : Mem → Int → Int → Int → Int → Option (Int × Mem)} {rec54 : Mem → Int → Int → Int → Int → Int → Int → Option (Int × Mem)} (X : CX p R s m args meth c cX11_clear 7 RX11 (some FieldType.int) 3 105 G) (h27 : S_X11_clear_27 rec27 p l e R s m args below meth c G τ res) (h54 : S_X11_clear_54 rec54 p l e R s m args below meth c G τ res) : S_X11_clear_54 (X11_clear_B54 rec27 rec54) p l e R s m args below meth c G τ res := by
  intro σ H locs ls l1 l2 l3 l4 l5 l6 hP hS hf hl
  unfold X11_clear_B54 at hf
  refine lv_iload X.1 X.2.1 dX11_clear_54 (lv_at hl 6 rfl) ?_
  refine r_bipush X 10 (by decide) dX11_clear_56 ?_
  refine r_icmp_ge (tgt := 104) X dX11_clear_58 (by decide) (fun q => ?_) (fun q => ?_)
  · replace hf := it_inv q hf
    refine lv_iload X.1 X.2.1 dX11_clear_104 (lv_at hl 5 rfl) ?_
    refine r_if_eq (tgt := 112) X dX11_clear_106 (by decide) (fun q => ?_) (fun q => ?_)
    · replace hf := it_inv q hf
      refine r_iconst X 0 dX11_clear_112 ?_
      refine lv_istore (lv' := [(6, .int (i32 0)), (0, .ref (gh G + 111)), (1, .int (i32 l1)), (2, .int (i32 l2)), (3, .int (i32 l3)), (4, .int (i32 l4)), (5, .int (i32 l5))]) X.1 X.2.1 dX11_clear_113 hl (by decide) rfl (fun ls hl => ?_)
      exact al_X11_clear_115 X h27 5000 σ H locs ls l1 l2 l3 l4 0 hP hS hf (lv_sub hl [1, 2, 3, 4, 5, 0] rfl)
    · replace hf := ie_inv q hf
      refine lv_goto (tgt := 153) X.1 X.2.1 dX11_clear_109 (by decide) ?_
      exact a_X11_clear_153 X h27 σ H locs ls l1 l2 l3 l4 hP hS hf (lv_sub hl [0, 1, 2, 3, 4] rfl)
  · replace hf := ie_inv q hf
    refine lv_aload_n X.1 X.2.1 dX11_clear_61 rfl (lv_at hl 0 rfl) ?_
    refine g_11_0 (r := 112) X hP ks_11 rfl (tb t_1087 rfl) dX11_clear_62 ?_
    refine r_sipush X 756 (by decide) dX11_clear_65 ?_
    refine lv_iload X.1 X.2.1 dX11_clear_68 (lv_at hl 6 rfl) ?_
    refine r_iadd X dX11_clear_70 ?_
    obtain ⟨j1, hij1, hjj1, hlj1, hf⟩ := ag_inv hf
    refine r_iald X hP (ch_11_0 ks_11).1 (ch_11_0 ks_11).2 hij1 hjj1 dX11_clear_71 ?_
    refine lv_iload X.1 X.2.1 dX11_clear_72 (lv_at hl 4 rfl) ?_
    refine r_icmp_ne (tgt := 98) X dX11_clear_74 (by decide) (fun q => ?_) (fun q => ?_)
    · replace hf := it_inv q hf
      exact a_X11_clear_98 X h27 h54 σ H locs ls l1 l2 l3 l4 l5 l6 hP hS hf hl
    · replace hf := ie_inv q hf
      refine lv_aload_n X.1 X.2.1 dX11_clear_77 rfl (lv_at hl 0 rfl) ?_
      refine g_11_0 (r := 112) X hP ks_11 rfl (tb t_1087 rfl) dX11_clear_78 ?_
      refine r_sipush X 756 (by decide) dX11_clear_81 ?_
      refine lv_iload X.1 X.2.1 dX11_clear_84 (lv_at hl 6 rfl) ?_
      refine r_iadd X dX11_clear_86 ?_
      refine lv_iload X.1 X.2.1 dX11_clear_87 (lv_at hl 5 rfl) ?_
      refine r_if_eq (tgt := 96) X dX11_clear_89 (by decide) (fun q => ?_) (fun q => ?_)
      · replace hf := it_inv q hf
        refine lv_iload_n X.1 X.2.1 dX11_clear_96 rfl (lv_at hl 2 rfl) ?_
        exact a_X11_clear_97 X h27 h54 σ H locs ls l1 l2 l3 l4 l5 l6 112 (756 + l6) l2 (ch_11_0 ks_11).1 (ch_11_0 ks_11).2 hP hS hf hl
      · replace hf := ie_inv q hf
        refine r_iconst X (-1) dX11_clear_92 ?_
        refine lv_goto (tgt := 97) X.1 X.2.1 dX11_clear_93 (by decide) ?_
        exact a_X11_clear_97 X h27 h54 σ H locs ls l1 l2 l3 l4 l5 l6 112 (756 + l6) (-1) (ch_11_0 ks_11).1 (ch_11_0 ks_11).2 hP hS hf hl
theorem al_X11_clear_54 {p : Program} {l : Launch} {e : Env} {R : Room} {s : State} {m : MethodId} {args : Array Value} {below : List Frame} {meth : Method} {c : Code} {G : GT} {τ : Mem} {res : Int} {rec27 : Mem → Int → Int → Int → Int → Option (Int × Mem)} (X : CX p R s m args meth c cX11_clear 7 RX11 (some FieldType.int) 3 105 G) (h27 : S_X11_clear_27 rec27 p l e R s m args below meth c G τ res) : ∀ n, S_X11_clear_54 (X11_clear_L54 rec27 n) p l e R s m args below meth c G τ res := by
  intro n
  induction n with
  | zero =>
    intro σ H locs ls l1 l2 l3 l4 l5 l6 hP hS hf hl
    cases hf
  | succ n ih => exact a_X11_clear_54 X h27 ih
set_option maxHeartbeats 4000000 in
theorem a_X11_clear_49 {p : Program} {l : Launch} {e : Env} {R : Room} {s : State} {m : MethodId} {args : Array Value} {below : List Frame} {meth : Method} {c : Code} {G : GT} {τ : Mem} {res : Int} {rec27 : Mem → Int → Int → Int → Int → Option (Int × Mem)} (X : CX p R s m args meth c cX11_clear 7 RX11 (some FieldType.int) 3 105 G) (h27 : S_X11_clear_27 rec27 p l e R s m args below meth c G τ res) : S_X11_clear_49 (X11_clear_B49 rec27) p l e R s m args below meth c G τ res := by
  intro σ H locs ls l1 l2 l3 l4 k0 hP hS hf hl
  unfold X11_clear_B49 at hf
  refine lv_istore (lv' := [(5, .int (i32 k0)), (0, .ref (gh G + 111)), (1, .int (i32 l1)), (2, .int (i32 l2)), (3, .int (i32 l3)), (4, .int (i32 l4))]) X.1 X.2.1 dX11_clear_49 hl (by decide) rfl (fun ls hl => ?_)
  refine r_iconst X 0 dX11_clear_51 ?_
  refine lv_istore (lv' := [(6, .int (i32 0)), (5, .int (i32 k0)), (0, .ref (gh G + 111)), (1, .int (i32 l1)), (2, .int (i32 l2)), (3, .int (i32 l3)), (4, .int (i32 l4))]) X.1 X.2.1 dX11_clear_52 hl (by decide) rfl (fun ls hl => ?_)
  exact al_X11_clear_54 X h27 5000 σ H locs ls l1 l2 l3 l4 k0 0 hP hS hf (lv_sub hl [2, 3, 4, 5, 6, 1, 0] rfl)
set_option maxHeartbeats 4000000 in
theorem a_X11_clear_27 {p : Program} {l : Launch} {e : Env} {R : Room} {s : State} {m : MethodId} {args : Array Value} {below : List Frame} {meth : Method} {c : Code} {G : GT} {τ : Mem} {res : Int} {rec27 : Mem → Int → Int → Int → Int → Option (Int × Mem)} (X : CX p R s m args meth c cX11_clear 7 RX11 (some FieldType.int) 3 105 G) (h27 : S_X11_clear_27 rec27 p l e R s m args below meth c G τ res) : S_X11_clear_27 (X11_clear_B27 rec27) p l e R s m args below meth c G τ res := by
  intro σ H locs ls l1 l2 l3 l4 hP hS hf hl
  unfold X11_clear_B27 at hf
  refine lv_iload X.1 X.2.1 dX11_clear_27 (lv_at hl 4 rfl) ?_
  refine lv_iload_n X.1 X.2.1 dX11_clear_29 rfl (lv_at hl 3 rfl) ?_
  refine r_icmp_ge (tgt := 159) X dX11_clear_30 (by decide) (fun q => ?_) (fun q => ?_)
  · replace hf := it_inv q hf
    refine lv_aload_n X.1 X.2.1 dX11_clear_159 rfl (lv_at hl 0 rfl) ?_
    refine g_11_0 (r := 112) X hP ks_11 rfl (tb t_1087 rfl) dX11_clear_160 ?_
    refine r_sipush X 665 (by decide) dX11_clear_163 ?_
    refine lv_iload_n X.1 X.2.1 dX11_clear_166 rfl (lv_at hl 2 rfl) ?_
    obtain ⟨j1, hij1, hjj1, hlj1, hf⟩ := ag_inv hf
    refine r_iast X hP hS (ch_11_0 ks_11).1 (ch_11_0 ks_11).2 hij1 hjj1 dX11_clear_167 (fun H locs hP hS => ?_)
    obtain ⟨s2, es2, hf⟩ := lt_inv hf
    rw [es2] at hP
    refine lv_iload_n X.1 X.2.1 dX11_clear_168 rfl (lv_at hl 3 rfl) ?_
    refine lv_iload_n X.1 X.2.1 dX11_clear_169 rfl (lv_at hl 2 rfl) ?_
    refine r_isub X dX11_clear_170 ?_
    obtain ⟨rfl, rfl⟩ := so2_inv hf
    exact r_iret X hP hS dX11_clear_171
  · replace hf := ie_inv q hf
    refine lv_aload_n X.1 X.2.1 dX11_clear_33 rfl (lv_at hl 0 rfl) ?_
    refine lv_iload X.1 X.2.1 dX11_clear_34 (lv_at hl 4 rfl) ?_
    refine r_iconst X 1 dX11_clear_36 ?_
    obtain ⟨r3, hr3, hf⟩ := bd_inv hf
    refine k_X11_of X hP hS hl.1  hr3 (tb t_1489 rfl) (by decide) (Nat.le_of_ble_eq_true rfl) dX11_clear_37 (fun H locs hP hS => ?_)
    refine lv_iload_n X.1 X.2.1 dX11_clear_40 rfl (lv_at hl 1 rfl) ?_
    refine r_icmp_ne (tgt := 48) X dX11_clear_41 (by decide) (fun q => ?_) (fun q => ?_)
    · replace hf := it_inv q hf
      refine r_iconst X 0 dX11_clear_48 ?_
      exact a_X11_clear_49 X h27 σ H locs ls l1 l2 l3 l4 0 hP hS hf hl
    · replace hf := ie_inv q hf
      refine r_iconst X 1 dX11_clear_44 ?_
      refine lv_goto (tgt := 49) X.1 X.2.1 dX11_clear_45 (by decide) ?_
      exact a_X11_clear_49 X h27 σ H locs ls l1 l2 l3 l4 1 hP hS hf hl
theorem al_X11_clear_27 {p : Program} {l : Launch} {e : Env} {R : Room} {s : State} {m : MethodId} {args : Array Value} {below : List Frame} {meth : Method} {c : Code} {G : GT} {τ : Mem} {res : Int} (X : CX p R s m args meth c cX11_clear 7 RX11 (some FieldType.int) 3 105 G) : ∀ n, S_X11_clear_27 (X11_clear_L27 n) p l e R s m args below meth c G τ res := by
  intro n
  induction n with
  | zero =>
    intro σ H locs ls l1 l2 l3 l4 hP hS hf hl
    cases hf
  | succ n ih => exact a_X11_clear_27 X ih
set_option maxHeartbeats 4000000 in
theorem a_X11_clear_0 {p : Program} {l : Launch} {e : Env} {R : Room} {s : State} {m : MethodId} {args : Array Value} {below : List Frame} {meth : Method} {c : Code} {G : GT} {τ : Mem} {res : Int} (X : CX p R s m args meth c cX11_clear 7 RX11 (some FieldType.int) 3 105 G) : S_X11_clear_0 (X11_clear) p l e R s m args below meth c G τ res := by
  intro σ H locs ls l1 hP hS hf hl
  unfold X11_clear at hf
  refine lv_iload_n X.1 X.2.1 dX11_clear_0 rfl (lv_at hl 1 rfl) ?_
  obtain ⟨r1, hr1, hf⟩ := bd_inv hf
  refine k_X11_isPart X hP hS hl.1  hr1 (tb t_1204 rfl) (by decide) (Nat.le_of_ble_eq_true rfl) dX11_clear_1 (fun H locs hP hS => ?_)
  refine r_if_ne (tgt := 13) X dX11_clear_4 (by decide) (fun q => ?_) (fun q => ?_)
  · replace hf := it_inv q hf
    refine r_iconst X 0 dX11_clear_13 ?_
    refine lv_istore_n (lv' := [(2, .int (i32 0)), (0, .ref (gh G + 111)), (1, .int (i32 l1))]) X.1 X.2.1 dX11_clear_14 rfl hl (by decide) rfl (fun ls hl => ?_)
    refine lv_aload_n X.1 X.2.1 dX11_clear_15 rfl (lv_at hl 1 rfl) ?_
    refine g_11_0 (r := 112) X hP ks_11 rfl (tb t_1087 rfl) dX11_clear_16 ?_
    refine r_sipush X 665 (by decide) dX11_clear_19 ?_
    obtain ⟨j2, hij2, hjj2, hlj2, hf⟩ := ag_inv hf
    refine r_iald X hP (ch_11_0 ks_11).1 (ch_11_0 ks_11).2 hij2 hjj2 dX11_clear_22 ?_
    obtain ⟨l3_3, el3_3, hf⟩ := lt_inv hf
    refine r_eqi el3_3 ?_
    refine lv_istore_n (lv' := [(3, .int (i32 l3_3)), (2, .int (i32 0)), (0, .ref (gh G + 111)), (1, .int (i32 l1))]) X.1 X.2.1 dX11_clear_23 rfl hl (by decide) rfl (fun ls hl => ?_)
    refine r_iconst X 0 dX11_clear_24 ?_
    refine lv_istore (lv' := [(4, .int (i32 0)), (3, .int (i32 l3_3)), (2, .int (i32 0)), (0, .ref (gh G + 111)), (1, .int (i32 l1))]) X.1 X.2.1 dX11_clear_25 hl (by decide) rfl (fun ls hl => ?_)
    exact al_X11_clear_27 X 5000 σ H locs ls l1 0 l3_3 0 hP hS hf (lv_sub hl [3, 4, 2, 1, 0] rfl)
  · replace hf := ie_inv q hf
    refine lv_aload_n X.1 X.2.1 dX11_clear_7 rfl (lv_at hl 0 rfl) ?_
    refine r_iconst X 0 dX11_clear_8 ?_
    obtain ⟨r4, s5, hr4, hf⟩ := bd2_inv hf
    refine k_X11_finds X hP hS hl.1  hr4 (tb t_1219 rfl) (by decide) (Nat.le_of_ble_eq_true rfl) dX11_clear_9 (fun H locs hP hS => ?_)
    obtain ⟨rfl, rfl⟩ := so2_inv hf
    exact r_iret X hP hS dX11_clear_12
set_option maxHeartbeats 4000000 in
theorem c_X11_clear {l : Launch} {G : GT} {σ τ : Mem} {res : Int} {l1 : Int} (hf : X11_clear σ l1 = some (res, τ)) : CT l yX11_clear cX11_clear 7 (some FieldType.int) 3 105 G [.ref (gh G + 111), .int (i32 l1)] σ τ (some (.int (i32 res))) := by
  refine CT.mk (own := RX11) (by decide) rfl (Nat.le_of_ble_eq_true rfl) ?_
  intro p e s m below meth c ls X hP hS hl
  have hl : lv_has ls 7 [(0, .ref (gh G + 111)), (1, .int (i32 l1))] := hl
  exact a_X11_clear_0 X σ s.heap [] ls l1 hP hS hf hl
theorem k_X11_clear {p : Program} {l : Launch} {e : Env} {R : Room} {s : State} {m : MethodId} {args : Array Value} {below : List Frame} {meth : Method} {c : Code} {H : Heap} {locs : List Loc} {Q : State → Prop} {cc : ByteArray} {nL : Nat} {own : String} {ret : Option FieldType} {fF fL : Nat} {G : GT} {pc idx : Nat} {ls : Array Slot} {rest : List Value} {σ τ : Mem} {res : Int} {l1 : Int} (X : CX p R s m args meth c cc nL own ret fF fL G) (hP : PW G σ H) (hS : va_S (AA G) s.heap H locs) (hls : ls.size = nL) (hf : X11_clear σ l1 = some (res, τ)) (h1 : Cond.methodLink own idx yX11_clear ∈ TB) (hR : 3 + 1 ≤ fF ∧ 8 + (7 + 11) + 105 ≤ fL) (hW : (rest.map fun v => v.category).sum ≤ 8) (hd : decode cc pc = .ok (.invokevirtual idx, 3)) (kk : ∀ (H1 : Heap) (locs1 : List Loc), PW G τ H1 → va_S (AA G) s.heap H1 locs1 → W p l e R s m args below meth c H1 locs1 0 0 Q (F0 m (pc + 3) ls (.int (i32 res) :: rest))) : W p l e R s m args below meth c H locs 0 0 Q (F0 m pc ls (.int (i32 l1) :: .ref (gh G + 111) :: rest)) := r_callV (n := 1) X hP hS hls (c_X11_clear hf) h1 (tb t_1502 rfl) (tb t_1503 rfl) (tb t_87 rfl) (tb t_1504 rfl) (by decide +kernel) hR (r_recv X hP (kd_lt ks_11 (by decide)) (cE_11 ks_11) rfl) rfl rfl hW hd kk
/-! X11_isSheet -/
theorem dX11_isSheet_0 : decode cX11_isSheet 0 = .ok (.iload_n 0, 1) := by decide +kernel
theorem dX11_isSheet_1 : decode cX11_isSheet 1 = .ok (.i2l, 1) := by decide +kernel
theorem dX11_isSheet_2 : decode cX11_isSheet 2 = .ok (.lconst 0, 1) := by decide +kernel
theorem dX11_isSheet_3 : decode cX11_isSheet 3 = .ok (.ldc2_w 91, 3) := by decide +kernel
theorem dX11_isSheet_6 : decode cX11_isSheet 6 = .ok (.invokestatic 93, 3) := by decide +kernel
theorem dX11_isSheet_9 : decode cX11_isSheet 9 = .ok (.ireturn, 1) := by decide +kernel
def X11_isSheet (σ : Mem) (l0 : Int) : Option (Int) :=
  bd (X11_in σ (w32 l0) 0 3) fun r1 =>
  bg r1 <|
  some r1
def S_X11_isSheet_0 (fn : Int → Option (Int)) (p : Program) (l : Launch) (e : Env) (R : Room) (s : State) (m : MethodId) (args : Array Value) (below : List Frame) (meth : Method) (c : Code) (G : GT) (σ : Mem) (res : Int) : Prop := ∀ (H : Heap) (locs : List Loc) (ls : Array Slot) (l0 : Int), PW G σ H → va_S (AA G) s.heap H locs → fn l0 = some res → lv_has ls 1 [(0, .int (i32 l0))] → W p l e R s m args below meth c H locs 0 0 (MQ below (QM G (some (.int (i32 res))) σ) args s 0 0 (AA G)) (F0 m 0 ls [])
set_option maxHeartbeats 4000000 in
theorem a_X11_isSheet_0 {p : Program} {l : Launch} {e : Env} {R : Room} {s : State} {m : MethodId} {args : Array Value} {below : List Frame} {meth : Method} {c : Code} {G : GT} {σ : Mem} {res : Int} (X : CX p R s m args meth c cX11_isSheet 1 RX11 (some FieldType.boolean) 2 85 G) : S_X11_isSheet_0 (X11_isSheet σ) p l e R s m args below meth c G σ res := by
  intro H locs ls l0 hP hS hf hl
  unfold X11_isSheet at hf
  refine lv_iload_n X.1 X.2.1 dX11_isSheet_0 rfl (lv_at hl 0 rfl) ?_
  refine r_i2l X dX11_isSheet_1 ?_
  refine r_lconst X 0 0 (by decide) dX11_isSheet_2 ?_
  refine r_ldc2 X 3 (tb t_1207 rfl) (by decide) dX11_isSheet_3 ?_
  obtain ⟨r1, hr1, hf⟩ := bd_inv hf
  refine k_X11_in X hP hS hl.1  hr1 (tb t_1208 rfl) (by decide) (Nat.le_of_ble_eq_true rfl) dX11_isSheet_6 (fun H locs hP hS => ?_)
  obtain ⟨hb2, hf⟩ := bg_inv hf
  cases so_inv hf
  exact r_zret X hP hS hb2 dX11_isSheet_9
set_option maxHeartbeats 4000000 in
theorem c_X11_isSheet {l : Launch} {G : GT} {σ : Mem} {res : Int} {l0 : Int} (hf : X11_isSheet σ l0 = some res) : CT l yX11_isSheet cX11_isSheet 1 (some FieldType.boolean) 2 85 G [.int (i32 l0)] σ σ (some (.int (i32 res))) := by
  refine CT.mk (own := RX11) (by decide) rfl (Nat.le_of_ble_eq_true rfl) ?_
  intro p e s m below meth c ls X hP hS hl
  have hl : lv_has ls 1 [(0, .int (i32 l0))] := hl
  exact a_X11_isSheet_0 X  s.heap [] ls l0 hP hS hf hl
theorem k_X11_isSheet {p : Program} {l : Launch} {e : Env} {R : Room} {s : State} {m : MethodId} {args : Array Value} {below : List Frame} {meth : Method} {c : Code} {H : Heap} {locs : List Loc} {Q : State → Prop} {cc : ByteArray} {nL : Nat} {own : String} {ret : Option FieldType} {fF fL : Nat} {G : GT} {pc idx : Nat} {ls : Array Slot} {rest : List Value} {σ : Mem} {res : Int} {l0 : Int} (X : CX p R s m args meth c cc nL own ret fF fL G) (hP : PW G σ H) (hS : va_S (AA G) s.heap H locs) (hls : ls.size = nL) (hf : X11_isSheet σ l0 = some res) (h1 : Cond.methodLink own idx yX11_isSheet ∈ TB) (hR : 2 + 1 ≤ fF ∧ 8 + (1 + 11) + 85 ≤ fL) (hW : (rest.map fun v => v.category).sum ≤ 8) (hd : decode cc pc = .ok (.invokestatic idx, 3)) (kk : ∀ (H1 : Heap) (locs1 : List Loc), PW G σ H1 → va_S (AA G) s.heap H1 locs1 → W p l e R s m args below meth c H1 locs1 0 0 Q (F0 m (pc + 3) ls (.int (i32 res) :: rest))) : W p l e R s m args below meth c H locs 0 0 Q (F0 m pc ls (.int (i32 l0) :: rest)) := r_callS (n := 1) X hP hS hls (c_X11_isSheet hf) h1 (tb t_1533 rfl) (tb t_87 rfl) (tb t_1534 rfl) (by decide +kernel) hR rfl rfl hW hd kk
theorem kn_X11_isSheet {p : Program} {l : Launch} {e : Env} {R : Room} {s : State} {m : MethodId} {args : Array Value} {below : List Frame} {meth : Method} {c : Code} {H : Heap} {locs : List Loc} {Q : State → Prop} {cc : ByteArray} {nL : Nat} {own : String} {ret : Option FieldType} {fF fL : Nat} {G : GT} {pc idx : Nat} {ls : Array Slot} {rest : List Value} {σ : Mem} {res : Int} {l0 : Int} (X : CX p R s m args meth c cc nL own ret fF fL G) (hP : PW G σ H) (hS : va_S (AA G) s.heap H locs) (hls : ls.size = nL) (hf : X11_isSheet σ l0 = some res) {host : String} (h1 : Cond.methodLinkNest own idx yX11_isSheet host ∈ NWl) (hR : 2 + 1 ≤ fF ∧ 8 + (1 + 11) + 85 ≤ fL) (hW : (rest.map fun v => v.category).sum ≤ 8) (hd : decode cc pc = .ok (.invokestatic idx, 3)) (kk : ∀ (H1 : Heap) (locs1 : List Loc), PW G σ H1 → va_S (AA G) s.heap H1 locs1 → W p l e R s m args below meth c H1 locs1 0 0 Q (F0 m (pc + 3) ls (.int (i32 res) :: rest))) : W p l e R s m args below meth c H locs 0 0 Q (F0 m pc ls (.int (i32 l0) :: rest)) := r_callSN (n := 1) X hP hS hls (c_X11_isSheet hf) h1 (tb t_1533 rfl) (tb t_87 rfl) (tb t_1534 rfl) (by decide +kernel) hR rfl rfl hW hd kk
/-! X11_copy -/
theorem dX11_copy_0 : decode cX11_copy 0 = .ok (.iload_n 1, 1) := by decide +kernel
theorem dX11_copy_1 : decode cX11_copy 1 = .ok (.invokestatic 338, 3) := by decide +kernel
theorem dX11_copy_4 : decode cX11_copy 4 = .ok (.ifCond .eq 10, 3) := by decide +kernel
theorem dX11_copy_7 : decode cX11_copy 7 = .ok (.iload_n 3, 1) := by decide +kernel
theorem dX11_copy_8 : decode cX11_copy 8 = .ok (.invokestatic 338, 3) := by decide +kernel
theorem dX11_copy_11 : decode cX11_copy 11 = .ok (.ifCond .ne 9, 3) := by decide +kernel
theorem dX11_copy_14 : decode cX11_copy 14 = .ok (.aload_n 0, 1) := by decide +kernel
theorem dX11_copy_15 : decode cX11_copy 15 = .ok (.iconst 0, 1) := by decide +kernel
theorem dX11_copy_16 : decode cX11_copy 16 = .ok (.invokevirtual 122, 3) := by decide +kernel
theorem dX11_copy_19 : decode cX11_copy 19 = .ok (.ireturn, 1) := by decide +kernel
theorem dX11_copy_20 : decode cX11_copy 20 = .ok (.aload_n 0, 1) := by decide +kernel
theorem dX11_copy_21 : decode cX11_copy 21 = .ok (.getfield 77, 3) := by decide +kernel
theorem dX11_copy_24 : decode cX11_copy 24 = .ok (.iload_n 1, 1) := by decide +kernel
theorem dX11_copy_25 : decode cX11_copy 25 = .ok (.iaload, 1) := by decide +kernel
theorem dX11_copy_26 : decode cX11_copy 26 = .ok (.ifCond .eq 12, 3) := by decide +kernel
theorem dX11_copy_29 : decode cX11_copy 29 = .ok (.aload_n 0, 1) := by decide +kernel
theorem dX11_copy_30 : decode cX11_copy 30 = .ok (.getfield 77, 3) := by decide +kernel
theorem dX11_copy_33 : decode cX11_copy 33 = .ok (.iload_n 3, 1) := by decide +kernel
theorem dX11_copy_34 : decode cX11_copy 34 = .ok (.iaload, 1) := by decide +kernel
theorem dX11_copy_35 : decode cX11_copy 35 = .ok (.ifCond .ne 9, 3) := by decide +kernel
theorem dX11_copy_38 : decode cX11_copy 38 = .ok (.aload_n 0, 1) := by decide +kernel
theorem dX11_copy_39 : decode cX11_copy 39 = .ok (.iconst 5, 1) := by decide +kernel
theorem dX11_copy_40 : decode cX11_copy 40 = .ok (.invokevirtual 122, 3) := by decide +kernel
theorem dX11_copy_43 : decode cX11_copy 43 = .ok (.ireturn, 1) := by decide +kernel
theorem dX11_copy_44 : decode cX11_copy 44 = .ok (.aload_n 0, 1) := by decide +kernel
theorem dX11_copy_45 : decode cX11_copy 45 = .ok (.getfield 77, 3) := by decide +kernel
theorem dX11_copy_48 : decode cX11_copy 48 = .ok (.iload_n 1, 1) := by decide +kernel
theorem dX11_copy_49 : decode cX11_copy 49 = .ok (.iaload, 1) := by decide +kernel
theorem dX11_copy_50 : decode cX11_copy 50 = .ok (.aload_n 0, 1) := by decide +kernel
theorem dX11_copy_51 : decode cX11_copy 51 = .ok (.getfield 77, 3) := by decide +kernel
theorem dX11_copy_54 : decode cX11_copy 54 = .ok (.iload_n 3, 1) := by decide +kernel
theorem dX11_copy_55 : decode cX11_copy 55 = .ok (.iaload, 1) := by decide +kernel
theorem dX11_copy_56 : decode cX11_copy 56 = .ok (.if_icmp .eq 9, 3) := by decide +kernel
theorem dX11_copy_59 : decode cX11_copy 59 = .ok (.aload_n 0, 1) := by decide +kernel
theorem dX11_copy_60 : decode cX11_copy 60 = .ok (.iconst 2, 1) := by decide +kernel
theorem dX11_copy_61 : decode cX11_copy 61 = .ok (.invokevirtual 122, 3) := by decide +kernel
theorem dX11_copy_64 : decode cX11_copy 64 = .ok (.ireturn, 1) := by decide +kernel
theorem dX11_copy_65 : decode cX11_copy 65 = .ok (.iload_n 2, 1) := by decide +kernel
theorem dX11_copy_66 : decode cX11_copy 66 = .ok (.ifCond .lt 40, 3) := by decide +kernel
theorem dX11_copy_69 : decode cX11_copy 69 = .ok (.iload 4, 2) := by decide +kernel
theorem dX11_copy_71 : decode cX11_copy 71 = .ok (.ifCond .lt 35, 3) := by decide +kernel
theorem dX11_copy_74 : decode cX11_copy 74 = .ok (.iload 5, 2) := by decide +kernel
theorem dX11_copy_76 : decode cX11_copy 76 = .ok (.ifCond .lt 30, 3) := by decide +kernel
theorem dX11_copy_79 : decode cX11_copy 79 = .ok (.iload 5, 2) := by decide +kernel
theorem dX11_copy_81 : decode cX11_copy 81 = .ok (.aload_n 0, 1) := by decide +kernel
theorem dX11_copy_82 : decode cX11_copy 82 = .ok (.getfield 80, 3) := by decide +kernel
theorem dX11_copy_85 : decode cX11_copy 85 = .ok (.iload_n 1, 1) := by decide +kernel
theorem dX11_copy_86 : decode cX11_copy 86 = .ok (.iaload, 1) := by decide +kernel
theorem dX11_copy_87 : decode cX11_copy 87 = .ok (.iload_n 2, 1) := by decide +kernel
theorem dX11_copy_88 : decode cX11_copy 88 = .ok (.isub, 1) := by decide +kernel
theorem dX11_copy_89 : decode cX11_copy 89 = .ok (.if_icmp .gt 17, 3) := by decide +kernel
theorem dX11_copy_92 : decode cX11_copy 92 = .ok (.iload 5, 2) := by decide +kernel
theorem dX11_copy_94 : decode cX11_copy 94 = .ok (.aload_n 0, 1) := by decide +kernel
theorem dX11_copy_95 : decode cX11_copy 95 = .ok (.getfield 80, 3) := by decide +kernel
theorem dX11_copy_98 : decode cX11_copy 98 = .ok (.iload_n 3, 1) := by decide +kernel
theorem dX11_copy_99 : decode cX11_copy 99 = .ok (.iaload, 1) := by decide +kernel
theorem dX11_copy_100 : decode cX11_copy 100 = .ok (.iload 4, 2) := by decide +kernel
theorem dX11_copy_102 : decode cX11_copy 102 = .ok (.isub, 1) := by decide +kernel
theorem dX11_copy_103 : decode cX11_copy 103 = .ok (.if_icmp .le 9, 3) := by decide +kernel
theorem dX11_copy_106 : decode cX11_copy 106 = .ok (.aload_n 0, 1) := by decide +kernel
theorem dX11_copy_107 : decode cX11_copy 107 = .ok (.iconst 0, 1) := by decide +kernel
theorem dX11_copy_108 : decode cX11_copy 108 = .ok (.invokevirtual 122, 3) := by decide +kernel
theorem dX11_copy_111 : decode cX11_copy 111 = .ok (.ireturn, 1) := by decide +kernel
theorem dX11_copy_112 : decode cX11_copy 112 = .ok (.iload_n 1, 1) := by decide +kernel
theorem dX11_copy_113 : decode cX11_copy 113 = .ok (.iload_n 3, 1) := by decide +kernel
theorem dX11_copy_114 : decode cX11_copy 114 = .ok (.if_icmp .ne 13, 3) := by decide +kernel
theorem dX11_copy_117 : decode cX11_copy 117 = .ok (.iload_n 2, 1) := by decide +kernel
theorem dX11_copy_118 : decode cX11_copy 118 = .ok (.iload 4, 2) := by decide +kernel
theorem dX11_copy_120 : decode cX11_copy 120 = .ok (.if_icmp .ge 7, 3) := by decide +kernel
theorem dX11_copy_123 : decode cX11_copy 123 = .ok (.iconst 1, 1) := by decide +kernel
theorem dX11_copy_124 : decode cX11_copy 124 = .ok (.goto 4, 3) := by decide +kernel
theorem dX11_copy_127 : decode cX11_copy 127 = .ok (.iconst 0, 1) := by decide +kernel
theorem dX11_copy_128 : decode cX11_copy 128 = .ok (.istore 6, 2) := by decide +kernel
theorem dX11_copy_130 : decode cX11_copy 130 = .ok (.iconst 0, 1) := by decide +kernel
theorem dX11_copy_131 : decode cX11_copy 131 = .ok (.istore 7, 2) := by decide +kernel
theorem dX11_copy_133 : decode cX11_copy 133 = .ok (.iload 7, 2) := by decide +kernel
theorem dX11_copy_135 : decode cX11_copy 135 = .ok (.iload 5, 2) := by decide +kernel
theorem dX11_copy_137 : decode cX11_copy 137 = .ok (.if_icmp .ge 57, 3) := by decide +kernel
theorem dX11_copy_140 : decode cX11_copy 140 = .ok (.iload 6, 2) := by decide +kernel
theorem dX11_copy_142 : decode cX11_copy 142 = .ok (.ifCond .eq 13, 3) := by decide +kernel
theorem dX11_copy_145 : decode cX11_copy 145 = .ok (.iload 5, 2) := by decide +kernel
theorem dX11_copy_147 : decode cX11_copy 147 = .ok (.iconst 1, 1) := by decide +kernel
theorem dX11_copy_148 : decode cX11_copy 148 = .ok (.isub, 1) := by decide +kernel
theorem dX11_copy_149 : decode cX11_copy 149 = .ok (.iload 7, 2) := by decide +kernel
theorem dX11_copy_151 : decode cX11_copy 151 = .ok (.isub, 1) := by decide +kernel
theorem dX11_copy_152 : decode cX11_copy 152 = .ok (.goto 5, 3) := by decide +kernel
theorem dX11_copy_155 : decode cX11_copy 155 = .ok (.iload 7, 2) := by decide +kernel
theorem dX11_copy_157 : decode cX11_copy 157 = .ok (.istore 8, 2) := by decide +kernel
theorem dX11_copy_159 : decode cX11_copy 159 = .ok (.aload_n 0, 1) := by decide +kernel
theorem dX11_copy_160 : decode cX11_copy 160 = .ok (.getfield 83, 3) := by decide +kernel
theorem dX11_copy_163 : decode cX11_copy 163 = .ok (.bipush 40, 2) := by decide +kernel
theorem dX11_copy_165 : decode cX11_copy 165 = .ok (.iload_n 3, 1) := by decide +kernel
theorem dX11_copy_166 : decode cX11_copy 166 = .ok (.imul, 1) := by decide +kernel
theorem dX11_copy_167 : decode cX11_copy 167 = .ok (.iload 4, 2) := by decide +kernel
theorem dX11_copy_169 : decode cX11_copy 169 = .ok (.iadd, 1) := by decide +kernel
theorem dX11_copy_170 : decode cX11_copy 170 = .ok (.iload 8, 2) := by decide +kernel
theorem dX11_copy_172 : decode cX11_copy 172 = .ok (.iadd, 1) := by decide +kernel
theorem dX11_copy_173 : decode cX11_copy 173 = .ok (.aload_n 0, 1) := by decide +kernel
theorem dX11_copy_174 : decode cX11_copy 174 = .ok (.getfield 83, 3) := by decide +kernel
theorem dX11_copy_177 : decode cX11_copy 177 = .ok (.bipush 40, 2) := by decide +kernel
theorem dX11_copy_179 : decode cX11_copy 179 = .ok (.iload_n 1, 1) := by decide +kernel
theorem dX11_copy_180 : decode cX11_copy 180 = .ok (.imul, 1) := by decide +kernel
theorem dX11_copy_181 : decode cX11_copy 181 = .ok (.iload_n 2, 1) := by decide +kernel
theorem dX11_copy_182 : decode cX11_copy 182 = .ok (.iadd, 1) := by decide +kernel
theorem dX11_copy_183 : decode cX11_copy 183 = .ok (.iload 8, 2) := by decide +kernel
theorem dX11_copy_185 : decode cX11_copy 185 = .ok (.iadd, 1) := by decide +kernel
theorem dX11_copy_186 : decode cX11_copy 186 = .ok (.iaload, 1) := by decide +kernel
theorem dX11_copy_187 : decode cX11_copy 187 = .ok (.iastore, 1) := by decide +kernel
theorem dX11_copy_188 : decode cX11_copy 188 = .ok (.iinc 7 1, 3) := by decide +kernel
theorem dX11_copy_191 : decode cX11_copy 191 = .ok (.goto (-58), 3) := by decide +kernel
theorem dX11_copy_194 : decode cX11_copy 194 = .ok (.iload 5, 2) := by decide +kernel
theorem dX11_copy_196 : decode cX11_copy 196 = .ok (.ireturn, 1) := by decide +kernel
def S_X11_copy_133 (fn : Mem → Int → Int → Int → Int → Int → Int → Int → Option (Int × Mem)) (p : Program) (l : Launch) (e : Env) (R : Room) (s : State) (m : MethodId) (args : Array Value) (below : List Frame) (meth : Method) (c : Code) (G : GT) (τ : Mem) (res : Int) : Prop := ∀ (σ : Mem) (H : Heap) (locs : List Loc) (ls : Array Slot) (l1 : Int) (l2 : Int) (l3 : Int) (l4 : Int) (l5 : Int) (l6 : Int) (l7 : Int), PW G σ H → va_S (AA G) s.heap H locs → fn σ l1 l2 l3 l4 l5 l6 l7 = some (res, τ) → lv_has ls 9 [(0, .ref (gh G + 111)), (1, .int (i32 l1)), (2, .int (i32 l2)), (3, .int (i32 l3)), (4, .int (i32 l4)), (5, .int (i32 l5)), (6, .int (i32 l6)), (7, .int (i32 l7))] → W p l e R s m args below meth c H locs 0 0 (MQ below (QM G (some (.int (i32 res))) τ) args s 0 0 (AA G)) (F0 m 133 ls [])
def X11_copy_B157 (rec133 : Mem → Int → Int → Int → Int → Int → Int → Int → Option (Int × Mem)) (σ : Mem) (l1 : Int) (l2 : Int) (l3 : Int) (l4 : Int) (l5 : Int) (l6 : Int) (l7 : Int) (k0 : Int) : Option (Int × Mem) :=
  ag 160 (((40 * l1) + l2) + k0) fun j1 =>
  ag 160 (((40 * l3) + l4) + k0) fun j2 =>
  lt (st σ 136 j2 (σ 136 j1)) fun s3 =>
  lt (l7 + 1) fun l7_4 =>
  rec133 s3 l1 l2 l3 l4 l5 l6 l7_4
def S_X11_copy_157 (fn : Mem → Int → Int → Int → Int → Int → Int → Int → Int → Option (Int × Mem)) (p : Program) (l : Launch) (e : Env) (R : Room) (s : State) (m : MethodId) (args : Array Value) (below : List Frame) (meth : Method) (c : Code) (G : GT) (τ : Mem) (res : Int) : Prop := ∀ (σ : Mem) (H : Heap) (locs : List Loc) (ls : Array Slot) (l1 : Int) (l2 : Int) (l3 : Int) (l4 : Int) (l5 : Int) (l6 : Int) (l7 : Int) (k0 : Int), PW G σ H → va_S (AA G) s.heap H locs → fn σ l1 l2 l3 l4 l5 l6 l7 k0 = some (res, τ) → lv_has ls 9 [(0, .ref (gh G + 111)), (1, .int (i32 l1)), (2, .int (i32 l2)), (3, .int (i32 l3)), (4, .int (i32 l4)), (5, .int (i32 l5)), (6, .int (i32 l6)), (7, .int (i32 l7))] → W p l e R s m args below meth c H locs 0 0 (MQ below (QM G (some (.int (i32 res))) τ) args s 0 0 (AA G)) (F0 m 157 ls [.int (i32 k0)])
def X11_copy_B133 (rec133 : Mem → Int → Int → Int → Int → Int → Int → Int → Option (Int × Mem)) (σ : Mem) (l1 : Int) (l2 : Int) (l3 : Int) (l4 : Int) (l5 : Int) (l6 : Int) (l7 : Int) : Option (Int × Mem) :=
  if w32 l5 ≤ w32 l7 then
    some (l5, σ)
  else
  if w32 l6 = 0 then
    X11_copy_B157 rec133 σ l1 l2 l3 l4 l5 l6 l7 l7
  else
  X11_copy_B157 rec133 σ l1 l2 l3 l4 l5 l6 l7 ((l5 - 1) - l7)
def X11_copy_L133 : Nat → Mem → Int → Int → Int → Int → Int → Int → Int → Option (Int × Mem)
  | 0 => fun _ _ _ _ _ _ _ _ => none
  | n + 1 => X11_copy_B133 (X11_copy_L133 n)
def X11_copy_B128 (σ : Mem) (l1 : Int) (l2 : Int) (l3 : Int) (l4 : Int) (l5 : Int) (k0 : Int) : Option (Int × Mem) :=
  X11_copy_L133 5000 σ l1 l2 l3 l4 l5 k0 0
def S_X11_copy_128 (fn : Mem → Int → Int → Int → Int → Int → Int → Option (Int × Mem)) (p : Program) (l : Launch) (e : Env) (R : Room) (s : State) (m : MethodId) (args : Array Value) (below : List Frame) (meth : Method) (c : Code) (G : GT) (τ : Mem) (res : Int) : Prop := ∀ (σ : Mem) (H : Heap) (locs : List Loc) (ls : Array Slot) (l1 : Int) (l2 : Int) (l3 : Int) (l4 : Int) (l5 : Int) (k0 : Int), PW G σ H → va_S (AA G) s.heap H locs → fn σ l1 l2 l3 l4 l5 k0 = some (res, τ) → lv_has ls 9 [(0, .ref (gh G + 111)), (1, .int (i32 l1)), (2, .int (i32 l2)), (3, .int (i32 l3)), (4, .int (i32 l4)), (5, .int (i32 l5))] → W p l e R s m args below meth c H locs 0 0 (MQ below (QM G (some (.int (i32 res))) τ) args s 0 0 (AA G)) (F0 m 128 ls [.int (i32 k0)])
def X11_copy_B127 (σ : Mem) (l1 : Int) (l2 : Int) (l3 : Int) (l4 : Int) (l5 : Int) : Option (Int × Mem) :=
  X11_copy_B128 σ l1 l2 l3 l4 l5 0
def S_X11_copy_127 (fn : Mem → Int → Int → Int → Int → Int → Option (Int × Mem)) (p : Program) (l : Launch) (e : Env) (R : Room) (s : State) (m : MethodId) (args : Array Value) (below : List Frame) (meth : Method) (c : Code) (G : GT) (τ : Mem) (res : Int) : Prop := ∀ (σ : Mem) (H : Heap) (locs : List Loc) (ls : Array Slot) (l1 : Int) (l2 : Int) (l3 : Int) (l4 : Int) (l5 : Int), PW G σ H → va_S (AA G) s.heap H locs → fn σ l1 l2 l3 l4 l5 = some (res, τ) → lv_has ls 9 [(0, .ref (gh G + 111)), (1, .int (i32 l1)), (2, .int (i32 l2)), (3, .int (i32 l3)), (4, .int (i32 l4)), (5, .int (i32 l5))] → W p l e R s m args below meth c H locs 0 0 (MQ below (QM G (some (.int (i32 res))) τ) args s 0 0 (AA G)) (F0 m 127 ls [])
def X11_copy_B106 (σ : Mem) : Option (Int × Mem) :=
  bd2 (X11_finds σ 0) fun r1 s2 =>
  some (r1, s2)
def S_X11_copy_106 (fn : Mem → Option (Int × Mem)) (p : Program) (l : Launch) (e : Env) (R : Room) (s : State) (m : MethodId) (args : Array Value) (below : List Frame) (meth : Method) (c : Code) (G : GT) (τ : Mem) (res : Int) : Prop := ∀ (σ : Mem) (H : Heap) (locs : List Loc) (ls : Array Slot), PW G σ H → va_S (AA G) s.heap H locs → fn σ = some (res, τ) → lv_has ls 9 [(0, .ref (gh G + 111))] → W p l e R s m args below meth c H locs 0 0 (MQ below (QM G (some (.int (i32 res))) τ) args s 0 0 (AA G)) (F0 m 106 ls [])
def X11_copy_B38 (σ : Mem) : Option (Int × Mem) :=
  bd2 (X11_finds σ 5) fun r1 s2 =>
  some (r1, s2)
def S_X11_copy_38 (fn : Mem → Option (Int × Mem)) (p : Program) (l : Launch) (e : Env) (R : Room) (s : State) (m : MethodId) (args : Array Value) (below : List Frame) (meth : Method) (c : Code) (G : GT) (τ : Mem) (res : Int) : Prop := ∀ (σ : Mem) (H : Heap) (locs : List Loc) (ls : Array Slot), PW G σ H → va_S (AA G) s.heap H locs → fn σ = some (res, τ) → lv_has ls 9 [(0, .ref (gh G + 111))] → W p l e R s m args below meth c H locs 0 0 (MQ below (QM G (some (.int (i32 res))) τ) args s 0 0 (AA G)) (F0 m 38 ls [])
def X11_copy_B14 (σ : Mem) : Option (Int × Mem) :=
  bd2 (X11_finds σ 0) fun r1 s2 =>
  some (r1, s2)
def S_X11_copy_14 (fn : Mem → Option (Int × Mem)) (p : Program) (l : Launch) (e : Env) (R : Room) (s : State) (m : MethodId) (args : Array Value) (below : List Frame) (meth : Method) (c : Code) (G : GT) (τ : Mem) (res : Int) : Prop := ∀ (σ : Mem) (H : Heap) (locs : List Loc) (ls : Array Slot), PW G σ H → va_S (AA G) s.heap H locs → fn σ = some (res, τ) → lv_has ls 9 [(0, .ref (gh G + 111))] → W p l e R s m args below meth c H locs 0 0 (MQ below (QM G (some (.int (i32 res))) τ) args s 0 0 (AA G)) (F0 m 14 ls [])
def X11_copy (σ : Mem) (l1 : Int) (l2 : Int) (l3 : Int) (l4 : Int) (l5 : Int) : Option (Int × Mem) :=
  bd (X11_isSheet σ l1) fun r1 =>
  if w32 r1 = 0 then
    X11_copy_B14 σ
  else
  bd (X11_isSheet σ l3) fun r2 =>
  if w32 r2 ≠ 0 then
    ag 4 l1 fun j3 =>
    if w32 (σ 134 j3) = 0 then
      X11_copy_B38 σ
    else
    ag 4 l3 fun j4 =>
    if w32 (σ 134 j4) ≠ 0 then
      ag 4 l1 fun j5 =>
      ag 4 l3 fun j6 =>
      if w32 (σ 134 j5) = w32 (σ 134 j6) then
        if w32 l2 < 0 then
          X11_copy_B106 σ
        else
        if w32 l4 < 0 then
          X11_copy_B106 σ
        else
        if w32 l5 < 0 then
          X11_copy_B106 σ
        else
        ag 4 l1 fun j7 =>
        if w32 ((σ 135 j7) - l2) < w32 l5 then
          X11_copy_B106 σ
        else
        ag 4 l3 fun j8 =>
        if w32 l5 ≤ w32 ((σ 135 j8) - l4) then
          if w32 l1 ≠ w32 l3 then
            X11_copy_B127 σ l1 l2 l3 l4 l5
          else
          if w32 l4 ≤ w32 l2 then
            X11_copy_B127 σ l1 l2 l3 l4 l5
          else
          X11_copy_B128 σ l1 l2 l3 l4 l5 1
        else
        X11_copy_B106 σ
      else
      bd2 (X11_finds σ 2) fun r9 s10 =>
      some (r9, s10)
    else
    X11_copy_B38 σ
  else
  X11_copy_B14 σ
def S_X11_copy_0 (fn : Mem → Int → Int → Int → Int → Int → Option (Int × Mem)) (p : Program) (l : Launch) (e : Env) (R : Room) (s : State) (m : MethodId) (args : Array Value) (below : List Frame) (meth : Method) (c : Code) (G : GT) (τ : Mem) (res : Int) : Prop := ∀ (σ : Mem) (H : Heap) (locs : List Loc) (ls : Array Slot) (l1 : Int) (l2 : Int) (l3 : Int) (l4 : Int) (l5 : Int), PW G σ H → va_S (AA G) s.heap H locs → fn σ l1 l2 l3 l4 l5 = some (res, τ) → lv_has ls 9 [(0, .ref (gh G + 111)), (1, .int (i32 l1)), (2, .int (i32 l2)), (3, .int (i32 l3)), (4, .int (i32 l4)), (5, .int (i32 l5))] → W p l e R s m args below meth c H locs 0 0 (MQ below (QM G (some (.int (i32 res))) τ) args s 0 0 (AA G)) (F0 m 0 ls [])
set_option maxHeartbeats 4000000 in
theorem a_X11_copy_157 {p : Program} {l : Launch} {e : Env} {R : Room} {s : State} {m : MethodId} {args : Array Value} {below : List Frame} {meth : Method} {c : Code} {G : GT} {τ : Mem} {res : Int} {rec133 : Mem → Int → Int → Int → Int → Int → Int → Int → Option (Int × Mem)} (X : CX p R s m args meth c cX11_copy 9 RX11 (some FieldType.int) 3 105 G) (h133 : S_X11_copy_133 rec133 p l e R s m args below meth c G τ res) : S_X11_copy_157 (X11_copy_B157 rec133) p l e R s m args below meth c G τ res := by
  intro σ H locs ls l1 l2 l3 l4 l5 l6 l7 k0 hP hS hf hl
  unfold X11_copy_B157 at hf
  refine lv_istore (lv' := [(8, .int (i32 k0)), (0, .ref (gh G + 111)), (1, .int (i32 l1)), (2, .int (i32 l2)), (3, .int (i32 l3)), (4, .int (i32 l4)), (5, .int (i32 l5)), (6, .int (i32 l6)), (7, .int (i32 l7))]) X.1 X.2.1 dX11_copy_157 hl (by decide) rfl (fun ls hl => ?_)
  refine lv_aload_n X.1 X.2.1 dX11_copy_159 rfl (lv_at hl 1 rfl) ?_
  refine g_11_36 (r := 136) X hP ks_11 rfl (tb t_1123 rfl) dX11_copy_160 ?_
  refine r_bipush X 40 (by decide) dX11_copy_163 ?_
  refine lv_iload_n X.1 X.2.1 dX11_copy_165 rfl (lv_at hl 4 rfl) ?_
  refine r_imul X dX11_copy_166 ?_
  refine lv_iload X.1 X.2.1 dX11_copy_167 (lv_at hl 5 rfl) ?_
  refine r_iadd X dX11_copy_169 ?_
  refine lv_iload X.1 X.2.1 dX11_copy_170 (lv_at hl 0 rfl) ?_
  refine r_iadd X dX11_copy_172 ?_
  refine lv_aload_n X.1 X.2.1 dX11_copy_173 rfl (lv_at hl 1 rfl) ?_
  refine g_11_36 (r := 136) X hP ks_11 rfl (tb t_1123 rfl) dX11_copy_174 ?_
  refine r_bipush X 40 (by decide) dX11_copy_177 ?_
  refine lv_iload_n X.1 X.2.1 dX11_copy_179 rfl (lv_at hl 2 rfl) ?_
  refine r_imul X dX11_copy_180 ?_
  refine lv_iload_n X.1 X.2.1 dX11_copy_181 rfl (lv_at hl 3 rfl) ?_
  refine r_iadd X dX11_copy_182 ?_
  refine lv_iload X.1 X.2.1 dX11_copy_183 (lv_at hl 0 rfl) ?_
  refine r_iadd X dX11_copy_185 ?_
  obtain ⟨j1, hij1, hjj1, hlj1, hf⟩ := ag_inv hf
  refine r_iald X hP (ch_11_36 ks_11).1 (ch_11_36 ks_11).2 hij1 hjj1 dX11_copy_186 ?_
  obtain ⟨j2, hij2, hjj2, hlj2, hf⟩ := ag_inv hf
  refine r_iast X hP hS (ch_11_36 ks_11).1 (ch_11_36 ks_11).2 hij2 hjj2 dX11_copy_187 (fun H locs hP hS => ?_)
  obtain ⟨s3, es3, hf⟩ := lt_inv hf
  rw [es3] at hP
  obtain ⟨l7_4, el7_4, hf⟩ := lt_inv hf
  refine lv_iinc (v := i32 l7_4) (lv' := [(7, .int (i32 l7_4)), (8, .int (i32 k0)), (0, .ref (gh G + 111)), (1, .int (i32 l1)), (2, .int (i32 l2)), (3, .int (i32 l3)), (4, .int (i32 l4)), (5, .int (i32 l5)), (6, .int (i32 l6))]) X.1 X.2.1 dX11_copy_188 hl (k := 8) rfl (by rw [← el7_4]; exact i32_add _ _) (by decide) rfl (fun ls hl => ?_)
  refine lv_goto (tgt := 133) X.1 X.2.1 dX11_copy_191 (by decide) ?_
  exact h133 s3 H locs ls l1 l2 l3 l4 l5 l6 l7_4 hP hS hf (lv_sub hl [2, 3, 4, 5, 6, 7, 8, 0] rfl)
set_option maxHeartbeats 4000000 in
theorem a_X11_copy_133 {p : Program} {l : Launch} {e : Env} {R : Room} {s : State} {m : MethodId} {args : Array Value} {below : List Frame} {meth : Method} {c : Code} {G : GT} {τ : Mem} {res : Int} {rec133 : Mem → Int → Int → Int → Int → Int → Int → Int → Option (Int × Mem)} (X : CX p R s m args meth c cX11_copy 9 RX11 (some FieldType.int) 3 105 G) (h133 : S_X11_copy_133 rec133 p l e R s m args below meth c G τ res) : S_X11_copy_133 (X11_copy_B133 rec133) p l e R s m args below meth c G τ res := by
  intro σ H locs ls l1 l2 l3 l4 l5 l6 l7 hP hS hf hl
  unfold X11_copy_B133 at hf
  refine lv_iload X.1 X.2.1 dX11_copy_133 (lv_at hl 7 rfl) ?_
  refine lv_iload X.1 X.2.1 dX11_copy_135 (lv_at hl 5 rfl) ?_
  refine r_icmp_ge (tgt := 194) X dX11_copy_137 (by decide) (fun q => ?_) (fun q => ?_)
  · replace hf := it_inv q hf
    refine lv_iload X.1 X.2.1 dX11_copy_194 (lv_at hl 5 rfl) ?_
    obtain ⟨rfl, rfl⟩ := so2_inv hf
    exact r_iret X hP hS dX11_copy_196
  · replace hf := ie_inv q hf
    refine lv_iload X.1 X.2.1 dX11_copy_140 (lv_at hl 6 rfl) ?_
    refine r_if_eq (tgt := 155) X dX11_copy_142 (by decide) (fun q => ?_) (fun q => ?_)
    · replace hf := it_inv q hf
      refine lv_iload X.1 X.2.1 dX11_copy_155 (lv_at hl 7 rfl) ?_
      exact a_X11_copy_157 X h133 σ H locs ls l1 l2 l3 l4 l5 l6 l7 l7 hP hS hf hl
    · replace hf := ie_inv q hf
      refine lv_iload X.1 X.2.1 dX11_copy_145 (lv_at hl 5 rfl) ?_
      refine r_iconst X 1 dX11_copy_147 ?_
      refine r_isub X dX11_copy_148 ?_
      refine lv_iload X.1 X.2.1 dX11_copy_149 (lv_at hl 7 rfl) ?_
      refine r_isub X dX11_copy_151 ?_
      refine lv_goto (tgt := 157) X.1 X.2.1 dX11_copy_152 (by decide) ?_
      exact a_X11_copy_157 X h133 σ H locs ls l1 l2 l3 l4 l5 l6 l7 ((l5 - 1) - l7) hP hS hf hl
theorem al_X11_copy_133 {p : Program} {l : Launch} {e : Env} {R : Room} {s : State} {m : MethodId} {args : Array Value} {below : List Frame} {meth : Method} {c : Code} {G : GT} {τ : Mem} {res : Int} (X : CX p R s m args meth c cX11_copy 9 RX11 (some FieldType.int) 3 105 G) : ∀ n, S_X11_copy_133 (X11_copy_L133 n) p l e R s m args below meth c G τ res := by
  intro n
  induction n with
  | zero =>
    intro σ H locs ls l1 l2 l3 l4 l5 l6 l7 hP hS hf hl
    cases hf
  | succ n ih => exact a_X11_copy_133 X ih
set_option maxHeartbeats 4000000 in
theorem a_X11_copy_128 {p : Program} {l : Launch} {e : Env} {R : Room} {s : State} {m : MethodId} {args : Array Value} {below : List Frame} {meth : Method} {c : Code} {G : GT} {τ : Mem} {res : Int} (X : CX p R s m args meth c cX11_copy 9 RX11 (some FieldType.int) 3 105 G) : S_X11_copy_128 (X11_copy_B128) p l e R s m args below meth c G τ res := by
  intro σ H locs ls l1 l2 l3 l4 l5 k0 hP hS hf hl
  unfold X11_copy_B128 at hf
  refine lv_istore (lv' := [(6, .int (i32 k0)), (0, .ref (gh G + 111)), (1, .int (i32 l1)), (2, .int (i32 l2)), (3, .int (i32 l3)), (4, .int (i32 l4)), (5, .int (i32 l5))]) X.1 X.2.1 dX11_copy_128 hl (by decide) rfl (fun ls hl => ?_)
  refine r_iconst X 0 dX11_copy_130 ?_
  refine lv_istore (lv' := [(7, .int (i32 0)), (6, .int (i32 k0)), (0, .ref (gh G + 111)), (1, .int (i32 l1)), (2, .int (i32 l2)), (3, .int (i32 l3)), (4, .int (i32 l4)), (5, .int (i32 l5))]) X.1 X.2.1 dX11_copy_131 hl (by decide) rfl (fun ls hl => ?_)
  exact al_X11_copy_133 X 5000 σ H locs ls l1 l2 l3 l4 l5 k0 0 hP hS hf (lv_sub hl [2, 3, 4, 5, 6, 7, 1, 0] rfl)
set_option maxHeartbeats 4000000 in
theorem a_X11_copy_127 {p : Program} {l : Launch} {e : Env} {R : Room} {s : State} {m : MethodId} {args : Array Value} {below : List Frame} {meth : Method} {c : Code} {G : GT} {τ : Mem} {res : Int} (X : CX p R s m args meth c cX11_copy 9 RX11 (some FieldType.int) 3 105 G) : S_X11_copy_127 (X11_copy_B127) p l e R s m args below meth c G τ res := by
  intro σ H locs ls l1 l2 l3 l4 l5 hP hS hf hl
  unfold X11_copy_B127 at hf
  refine r_iconst X 0 dX11_copy_127 ?_
  exact a_X11_copy_128 X σ H locs ls l1 l2 l3 l4 l5 0 hP hS hf hl
set_option maxHeartbeats 4000000 in
theorem a_X11_copy_106 {p : Program} {l : Launch} {e : Env} {R : Room} {s : State} {m : MethodId} {args : Array Value} {below : List Frame} {meth : Method} {c : Code} {G : GT} {τ : Mem} {res : Int} (X : CX p R s m args meth c cX11_copy 9 RX11 (some FieldType.int) 3 105 G) : S_X11_copy_106 (X11_copy_B106) p l e R s m args below meth c G τ res := by
  intro σ H locs ls hP hS hf hl
  unfold X11_copy_B106 at hf
  refine lv_aload_n X.1 X.2.1 dX11_copy_106 rfl (lv_at hl 0 rfl) ?_
  refine r_iconst X 0 dX11_copy_107 ?_
  obtain ⟨r1, s2, hr1, hf⟩ := bd2_inv hf
  refine k_X11_finds X hP hS hl.1  hr1 (tb t_1219 rfl) (by decide) (Nat.le_of_ble_eq_true rfl) dX11_copy_108 (fun H locs hP hS => ?_)
  obtain ⟨rfl, rfl⟩ := so2_inv hf
  exact r_iret X hP hS dX11_copy_111
set_option maxHeartbeats 4000000 in
theorem a_X11_copy_38 {p : Program} {l : Launch} {e : Env} {R : Room} {s : State} {m : MethodId} {args : Array Value} {below : List Frame} {meth : Method} {c : Code} {G : GT} {τ : Mem} {res : Int} (X : CX p R s m args meth c cX11_copy 9 RX11 (some FieldType.int) 3 105 G) : S_X11_copy_38 (X11_copy_B38) p l e R s m args below meth c G τ res := by
  intro σ H locs ls hP hS hf hl
  unfold X11_copy_B38 at hf
  refine lv_aload_n X.1 X.2.1 dX11_copy_38 rfl (lv_at hl 0 rfl) ?_
  refine r_iconst X 5 dX11_copy_39 ?_
  obtain ⟨r1, s2, hr1, hf⟩ := bd2_inv hf
  refine k_X11_finds X hP hS hl.1  hr1 (tb t_1219 rfl) (by decide) (Nat.le_of_ble_eq_true rfl) dX11_copy_40 (fun H locs hP hS => ?_)
  obtain ⟨rfl, rfl⟩ := so2_inv hf
  exact r_iret X hP hS dX11_copy_43
set_option maxHeartbeats 4000000 in
theorem a_X11_copy_14 {p : Program} {l : Launch} {e : Env} {R : Room} {s : State} {m : MethodId} {args : Array Value} {below : List Frame} {meth : Method} {c : Code} {G : GT} {τ : Mem} {res : Int} (X : CX p R s m args meth c cX11_copy 9 RX11 (some FieldType.int) 3 105 G) : S_X11_copy_14 (X11_copy_B14) p l e R s m args below meth c G τ res := by
  intro σ H locs ls hP hS hf hl
  unfold X11_copy_B14 at hf
  refine lv_aload_n X.1 X.2.1 dX11_copy_14 rfl (lv_at hl 0 rfl) ?_
  refine r_iconst X 0 dX11_copy_15 ?_
  obtain ⟨r1, s2, hr1, hf⟩ := bd2_inv hf
  refine k_X11_finds X hP hS hl.1  hr1 (tb t_1219 rfl) (by decide) (Nat.le_of_ble_eq_true rfl) dX11_copy_16 (fun H locs hP hS => ?_)
  obtain ⟨rfl, rfl⟩ := so2_inv hf
  exact r_iret X hP hS dX11_copy_19
set_option maxHeartbeats 4000000 in
theorem a_X11_copy_0 {p : Program} {l : Launch} {e : Env} {R : Room} {s : State} {m : MethodId} {args : Array Value} {below : List Frame} {meth : Method} {c : Code} {G : GT} {τ : Mem} {res : Int} (X : CX p R s m args meth c cX11_copy 9 RX11 (some FieldType.int) 3 105 G) : S_X11_copy_0 (X11_copy) p l e R s m args below meth c G τ res := by
  intro σ H locs ls l1 l2 l3 l4 l5 hP hS hf hl
  unfold X11_copy at hf
  refine lv_iload_n X.1 X.2.1 dX11_copy_0 rfl (lv_at hl 1 rfl) ?_
  obtain ⟨r1, hr1, hf⟩ := bd_inv hf
  refine k_X11_isSheet X hP hS hl.1  hr1 (tb t_1532 rfl) (by decide) (Nat.le_of_ble_eq_true rfl) dX11_copy_1 (fun H locs hP hS => ?_)
  refine r_if_eq (tgt := 14) X dX11_copy_4 (by decide) (fun q => ?_) (fun q => ?_)
  · replace hf := it_inv q hf
    exact a_X11_copy_14 X σ H locs ls  hP hS hf (lv_sub hl [0] rfl)
  · replace hf := ie_inv q hf
    refine lv_iload_n X.1 X.2.1 dX11_copy_7 rfl (lv_at hl 3 rfl) ?_
    obtain ⟨r2, hr2, hf⟩ := bd_inv hf
    refine k_X11_isSheet X hP hS hl.1  hr2 (tb t_1532 rfl) (by decide) (Nat.le_of_ble_eq_true rfl) dX11_copy_8 (fun H locs hP hS => ?_)
    refine r_if_ne (tgt := 20) X dX11_copy_11 (by decide) (fun q => ?_) (fun q => ?_)
    · replace hf := it_inv q hf
      refine lv_aload_n X.1 X.2.1 dX11_copy_20 rfl (lv_at hl 0 rfl) ?_
      refine g_11_34 (r := 134) X hP ks_11 rfl (tb t_1121 rfl) dX11_copy_21 ?_
      refine lv_iload_n X.1 X.2.1 dX11_copy_24 rfl (lv_at hl 1 rfl) ?_
      obtain ⟨j3, hij3, hjj3, hlj3, hf⟩ := ag_inv hf
      refine r_iald X hP (ch_11_34 ks_11).1 (ch_11_34 ks_11).2 hij3 hjj3 dX11_copy_25 ?_
      refine r_if_eq (tgt := 38) X dX11_copy_26 (by decide) (fun q => ?_) (fun q => ?_)
      · replace hf := it_inv q hf
        exact a_X11_copy_38 X σ H locs ls  hP hS hf (lv_sub hl [0] rfl)
      · replace hf := ie_inv q hf
        refine lv_aload_n X.1 X.2.1 dX11_copy_29 rfl (lv_at hl 0 rfl) ?_
        refine g_11_34 (r := 134) X hP ks_11 rfl (tb t_1121 rfl) dX11_copy_30 ?_
        refine lv_iload_n X.1 X.2.1 dX11_copy_33 rfl (lv_at hl 3 rfl) ?_
        obtain ⟨j4, hij4, hjj4, hlj4, hf⟩ := ag_inv hf
        refine r_iald X hP (ch_11_34 ks_11).1 (ch_11_34 ks_11).2 hij4 hjj4 dX11_copy_34 ?_
        refine r_if_ne (tgt := 44) X dX11_copy_35 (by decide) (fun q => ?_) (fun q => ?_)
        · replace hf := it_inv q hf
          refine lv_aload_n X.1 X.2.1 dX11_copy_44 rfl (lv_at hl 0 rfl) ?_
          refine g_11_34 (r := 134) X hP ks_11 rfl (tb t_1121 rfl) dX11_copy_45 ?_
          refine lv_iload_n X.1 X.2.1 dX11_copy_48 rfl (lv_at hl 1 rfl) ?_
          obtain ⟨j5, hij5, hjj5, hlj5, hf⟩ := ag_inv hf
          refine r_iald X hP (ch_11_34 ks_11).1 (ch_11_34 ks_11).2 hij5 hjj5 dX11_copy_49 ?_
          refine lv_aload_n X.1 X.2.1 dX11_copy_50 rfl (lv_at hl 0 rfl) ?_
          refine g_11_34 (r := 134) X hP ks_11 rfl (tb t_1121 rfl) dX11_copy_51 ?_
          refine lv_iload_n X.1 X.2.1 dX11_copy_54 rfl (lv_at hl 3 rfl) ?_
          obtain ⟨j6, hij6, hjj6, hlj6, hf⟩ := ag_inv hf
          refine r_iald X hP (ch_11_34 ks_11).1 (ch_11_34 ks_11).2 hij6 hjj6 dX11_copy_55 ?_
          refine r_icmp_eq (tgt := 65) X dX11_copy_56 (by decide) (fun q => ?_) (fun q => ?_)
          · replace hf := it_inv q hf
            refine lv_iload_n X.1 X.2.1 dX11_copy_65 rfl (lv_at hl 2 rfl) ?_
            refine r_if_lt (tgt := 106) X dX11_copy_66 (by decide) (fun q => ?_) (fun q => ?_)
            · replace hf := it_inv q hf
              exact a_X11_copy_106 X σ H locs ls  hP hS hf (lv_sub hl [0] rfl)
            · replace hf := ie_inv q hf
              refine lv_iload X.1 X.2.1 dX11_copy_69 (lv_at hl 4 rfl) ?_
              refine r_if_lt (tgt := 106) X dX11_copy_71 (by decide) (fun q => ?_) (fun q => ?_)
              · replace hf := it_inv q hf
                exact a_X11_copy_106 X σ H locs ls  hP hS hf (lv_sub hl [0] rfl)
              · replace hf := ie_inv q hf
                refine lv_iload X.1 X.2.1 dX11_copy_74 (lv_at hl 5 rfl) ?_
                refine r_if_lt (tgt := 106) X dX11_copy_76 (by decide) (fun q => ?_) (fun q => ?_)
                · replace hf := it_inv q hf
                  exact a_X11_copy_106 X σ H locs ls  hP hS hf (lv_sub hl [0] rfl)
                · replace hf := ie_inv q hf
                  refine lv_iload X.1 X.2.1 dX11_copy_79 (lv_at hl 5 rfl) ?_
                  refine lv_aload_n X.1 X.2.1 dX11_copy_81 rfl (lv_at hl 0 rfl) ?_
                  refine g_11_35 (r := 135) X hP ks_11 rfl (tb t_1122 rfl) dX11_copy_82 ?_
                  refine lv_iload_n X.1 X.2.1 dX11_copy_85 rfl (lv_at hl 1 rfl) ?_
                  obtain ⟨j7, hij7, hjj7, hlj7, hf⟩ := ag_inv hf
                  refine r_iald X hP (ch_11_35 ks_11).1 (ch_11_35 ks_11).2 hij7 hjj7 dX11_copy_86 ?_
                  refine lv_iload_n X.1 X.2.1 dX11_copy_87 rfl (lv_at hl 2 rfl) ?_
                  refine r_isub X dX11_copy_88 ?_
                  refine r_icmp_gt (tgt := 106) X dX11_copy_89 (by decide) (fun q => ?_) (fun q => ?_)
                  · replace hf := it_inv q hf
                    exact a_X11_copy_106 X σ H locs ls  hP hS hf (lv_sub hl [0] rfl)
                  · replace hf := ie_inv q hf
                    refine lv_iload X.1 X.2.1 dX11_copy_92 (lv_at hl 5 rfl) ?_
                    refine lv_aload_n X.1 X.2.1 dX11_copy_94 rfl (lv_at hl 0 rfl) ?_
                    refine g_11_35 (r := 135) X hP ks_11 rfl (tb t_1122 rfl) dX11_copy_95 ?_
                    refine lv_iload_n X.1 X.2.1 dX11_copy_98 rfl (lv_at hl 3 rfl) ?_
                    obtain ⟨j8, hij8, hjj8, hlj8, hf⟩ := ag_inv hf
                    refine r_iald X hP (ch_11_35 ks_11).1 (ch_11_35 ks_11).2 hij8 hjj8 dX11_copy_99 ?_
                    refine lv_iload X.1 X.2.1 dX11_copy_100 (lv_at hl 4 rfl) ?_
                    refine r_isub X dX11_copy_102 ?_
                    refine r_icmp_le (tgt := 112) X dX11_copy_103 (by decide) (fun q => ?_) (fun q => ?_)
                    · replace hf := it_inv q hf
                      refine lv_iload_n X.1 X.2.1 dX11_copy_112 rfl (lv_at hl 1 rfl) ?_
                      refine lv_iload_n X.1 X.2.1 dX11_copy_113 rfl (lv_at hl 3 rfl) ?_
                      refine r_icmp_ne (tgt := 127) X dX11_copy_114 (by decide) (fun q => ?_) (fun q => ?_)
                      · replace hf := it_inv q hf
                        exact a_X11_copy_127 X σ H locs ls l1 l2 l3 l4 l5 hP hS hf hl
                      · replace hf := ie_inv q hf
                        refine lv_iload_n X.1 X.2.1 dX11_copy_117 rfl (lv_at hl 2 rfl) ?_
                        refine lv_iload X.1 X.2.1 dX11_copy_118 (lv_at hl 4 rfl) ?_
                        refine r_icmp_ge (tgt := 127) X dX11_copy_120 (by decide) (fun q => ?_) (fun q => ?_)
                        · replace hf := it_inv q hf
                          exact a_X11_copy_127 X σ H locs ls l1 l2 l3 l4 l5 hP hS hf hl
                        · replace hf := ie_inv q hf
                          refine r_iconst X 1 dX11_copy_123 ?_
                          refine lv_goto (tgt := 128) X.1 X.2.1 dX11_copy_124 (by decide) ?_
                          exact a_X11_copy_128 X σ H locs ls l1 l2 l3 l4 l5 1 hP hS hf hl
                    · replace hf := ie_inv q hf
                      exact a_X11_copy_106 X σ H locs ls  hP hS hf (lv_sub hl [0] rfl)
          · replace hf := ie_inv q hf
            refine lv_aload_n X.1 X.2.1 dX11_copy_59 rfl (lv_at hl 0 rfl) ?_
            refine r_iconst X 2 dX11_copy_60 ?_
            obtain ⟨r9, s10, hr9, hf⟩ := bd2_inv hf
            refine k_X11_finds X hP hS hl.1  hr9 (tb t_1219 rfl) (by decide) (Nat.le_of_ble_eq_true rfl) dX11_copy_61 (fun H locs hP hS => ?_)
            obtain ⟨rfl, rfl⟩ := so2_inv hf
            exact r_iret X hP hS dX11_copy_64
        · replace hf := ie_inv q hf
          exact a_X11_copy_38 X σ H locs ls  hP hS hf (lv_sub hl [0] rfl)
    · replace hf := ie_inv q hf
      exact a_X11_copy_14 X σ H locs ls  hP hS hf (lv_sub hl [0] rfl)
set_option maxHeartbeats 4000000 in
theorem c_X11_copy {l : Launch} {G : GT} {σ τ : Mem} {res : Int} {l1 : Int} {l2 : Int} {l3 : Int} {l4 : Int} {l5 : Int} (hf : X11_copy σ l1 l2 l3 l4 l5 = some (res, τ)) : CT l yX11_copy cX11_copy 9 (some FieldType.int) 3 105 G [.ref (gh G + 111), .int (i32 l1), .int (i32 l2), .int (i32 l3), .int (i32 l4), .int (i32 l5)] σ τ (some (.int (i32 res))) := by
  refine CT.mk (own := RX11) (by decide) rfl (Nat.le_of_ble_eq_true rfl) ?_
  intro p e s m below meth c ls X hP hS hl
  have hl : lv_has ls 9 [(0, .ref (gh G + 111)), (1, .int (i32 l1)), (2, .int (i32 l2)), (3, .int (i32 l3)), (4, .int (i32 l4)), (5, .int (i32 l5))] := hl
  exact a_X11_copy_0 X σ s.heap [] ls l1 l2 l3 l4 l5 hP hS hf hl
theorem k_X11_copy {p : Program} {l : Launch} {e : Env} {R : Room} {s : State} {m : MethodId} {args : Array Value} {below : List Frame} {meth : Method} {c : Code} {H : Heap} {locs : List Loc} {Q : State → Prop} {cc : ByteArray} {nL : Nat} {own : String} {ret : Option FieldType} {fF fL : Nat} {G : GT} {pc idx : Nat} {ls : Array Slot} {rest : List Value} {σ τ : Mem} {res : Int} {l1 : Int} {l2 : Int} {l3 : Int} {l4 : Int} {l5 : Int} (X : CX p R s m args meth c cc nL own ret fF fL G) (hP : PW G σ H) (hS : va_S (AA G) s.heap H locs) (hls : ls.size = nL) (hf : X11_copy σ l1 l2 l3 l4 l5 = some (res, τ)) (h1 : Cond.methodLink own idx yX11_copy ∈ TB) (hR : 3 + 1 ≤ fF ∧ 8 + (9 + 11) + 105 ≤ fL) (hW : (rest.map fun v => v.category).sum ≤ 8) (hd : decode cc pc = .ok (.invokevirtual idx, 3)) (kk : ∀ (H1 : Heap) (locs1 : List Loc), PW G τ H1 → va_S (AA G) s.heap H1 locs1 → W p l e R s m args below meth c H1 locs1 0 0 Q (F0 m (pc + 3) ls (.int (i32 res) :: rest))) : W p l e R s m args below meth c H locs 0 0 Q (F0 m pc ls (.int (i32 l5) :: .int (i32 l4) :: .int (i32 l3) :: .int (i32 l2) :: .int (i32 l1) :: .ref (gh G + 111) :: rest)) := r_callV (n := 5) X hP hS hls (c_X11_copy hf) h1 (tb t_1540 rfl) (tb t_1541 rfl) (tb t_87 rfl) (tb t_1542 rfl) (by decide +kernel) hR (r_recv X hP (kd_lt ks_11 (by decide)) (cE_11 ks_11) rfl) rfl rfl hW hd kk
/-! X11_count -/
theorem dX11_count_0 : decode cX11_count 0 = .ok (.iconst 0, 1) := by decide +kernel
theorem dX11_count_1 : decode cX11_count 1 = .ok (.istore_n 2, 1) := by decide +kernel
theorem dX11_count_2 : decode cX11_count 2 = .ok (.iload_n 1, 1) := by decide +kernel
theorem dX11_count_3 : decode cX11_count 3 = .ok (.tableswitch 85 0 3 #[29, 34, 43, 48], 29) := by decide +kernel
theorem dX11_count_32 : decode cX11_count 32 = .ok (.aload_n 0, 1) := by decide +kernel
theorem dX11_count_33 : decode cX11_count 33 = .ok (.invokevirtual 346, 3) := by decide +kernel
theorem dX11_count_36 : decode cX11_count 36 = .ok (.ireturn, 1) := by decide +kernel
theorem dX11_count_37 : decode cX11_count 37 = .ok (.aload_n 0, 1) := by decide +kernel
theorem dX11_count_38 : decode cX11_count 38 = .ok (.getfield 9, 3) := by decide +kernel
theorem dX11_count_41 : decode cX11_count 41 = .ok (.sipush 665, 3) := by decide +kernel
theorem dX11_count_44 : decode cX11_count 44 = .ok (.iaload, 1) := by decide +kernel
theorem dX11_count_45 : decode cX11_count 45 = .ok (.ireturn, 1) := by decide +kernel
theorem dX11_count_46 : decode cX11_count 46 = .ok (.aload_n 0, 1) := by decide +kernel
theorem dX11_count_47 : decode cX11_count 47 = .ok (.getfield 137, 3) := by decide +kernel
theorem dX11_count_50 : decode cX11_count 50 = .ok (.ireturn, 1) := by decide +kernel
theorem dX11_count_51 : decode cX11_count 51 = .ok (.iconst 0, 1) := by decide +kernel
theorem dX11_count_52 : decode cX11_count 52 = .ok (.istore_n 3, 1) := by decide +kernel
theorem dX11_count_53 : decode cX11_count 53 = .ok (.iload_n 3, 1) := by decide +kernel
theorem dX11_count_54 : decode cX11_count 54 = .ok (.bipush 10, 2) := by decide +kernel
theorem dX11_count_56 : decode cX11_count 56 = .ok (.if_icmp .ge 30, 3) := by decide +kernel
theorem dX11_count_59 : decode cX11_count 59 = .ok (.iload_n 2, 1) := by decide +kernel
theorem dX11_count_60 : decode cX11_count 60 = .ok (.aload_n 0, 1) := by decide +kernel
theorem dX11_count_61 : decode cX11_count 61 = .ok (.getfield 9, 3) := by decide +kernel
theorem dX11_count_64 : decode cX11_count 64 = .ok (.sipush 756, 3) := by decide +kernel
theorem dX11_count_67 : decode cX11_count 67 = .ok (.iload_n 3, 1) := by decide +kernel
theorem dX11_count_68 : decode cX11_count 68 = .ok (.iadd, 1) := by decide +kernel
theorem dX11_count_69 : decode cX11_count 69 = .ok (.iaload, 1) := by decide +kernel
theorem dX11_count_70 : decode cX11_count 70 = .ok (.ifCond .lt 7, 3) := by decide +kernel
theorem dX11_count_73 : decode cX11_count 73 = .ok (.iconst 1, 1) := by decide +kernel
theorem dX11_count_74 : decode cX11_count 74 = .ok (.goto 4, 3) := by decide +kernel
theorem dX11_count_77 : decode cX11_count 77 = .ok (.iconst 0, 1) := by decide +kernel
theorem dX11_count_78 : decode cX11_count 78 = .ok (.iadd, 1) := by decide +kernel
theorem dX11_count_79 : decode cX11_count 79 = .ok (.istore_n 2, 1) := by decide +kernel
theorem dX11_count_80 : decode cX11_count 80 = .ok (.iinc 3 1, 3) := by decide +kernel
theorem dX11_count_83 : decode cX11_count 83 = .ok (.goto (-30), 3) := by decide +kernel
theorem dX11_count_86 : decode cX11_count 86 = .ok (.iload_n 2, 1) := by decide +kernel
theorem dX11_count_87 : decode cX11_count 87 = .ok (.ireturn, 1) := by decide +kernel
theorem dX11_count_88 : decode cX11_count 88 = .ok (.aload_n 0, 1) := by decide +kernel
theorem dX11_count_89 : decode cX11_count 89 = .ok (.iconst 0, 1) := by decide +kernel
theorem dX11_count_90 : decode cX11_count 90 = .ok (.invokevirtual 122, 3) := by decide +kernel
theorem dX11_count_93 : decode cX11_count 93 = .ok (.ireturn, 1) := by decide +kernel
def S_X11_count_53 (fn : Mem → Int → Int → Option (Int × Mem)) (p : Program) (l : Launch) (e : Env) (R : Room) (s : State) (m : MethodId) (args : Array Value) (below : List Frame) (meth : Method) (c : Code) (G : GT) (τ : Mem) (res : Int) : Prop := ∀ (σ : Mem) (H : Heap) (locs : List Loc) (ls : Array Slot) (l2 : Int) (l3 : Int), PW G σ H → va_S (AA G) s.heap H locs → fn σ l2 l3 = some (res, τ) → lv_has ls 4 [(0, .ref (gh G + 111)), (2, .int (i32 l2)), (3, .int (i32 l3))] → W p l e R s m args below meth c H locs 0 0 (MQ below (QM G (some (.int (i32 res))) τ) args s 0 0 (AA G)) (F0 m 53 ls [])
def X11_count_B78 (rec53 : Mem → Int → Int → Option (Int × Mem)) (σ : Mem) (l3 : Int) (k0 : Int) (k1 : Int) : Option (Int × Mem) :=
  lt (k0 + k1) fun l2_1 =>
  lt (l3 + 1) fun l3_2 =>
  rec53 σ l2_1 l3_2
def S_X11_count_78 (fn : Mem → Int → Int → Int → Option (Int × Mem)) (p : Program) (l : Launch) (e : Env) (R : Room) (s : State) (m : MethodId) (args : Array Value) (below : List Frame) (meth : Method) (c : Code) (G : GT) (τ : Mem) (res : Int) : Prop := ∀ (σ : Mem) (H : Heap) (locs : List Loc) (ls : Array Slot) (l3 : Int) (k0 : Int) (k1 : Int), PW G σ H → va_S (AA G) s.heap H locs → fn σ l3 k0 k1 = some (res, τ) → lv_has ls 4 [(0, .ref (gh G + 111)), (3, .int (i32 l3))] → W p l e R s m args below meth c H locs 0 0 (MQ below (QM G (some (.int (i32 res))) τ) args s 0 0 (AA G)) (F0 m 78 ls [.int (i32 k1), .int (i32 k0)])
def X11_count_B53 (rec53 : Mem → Int → Int → Option (Int × Mem)) (σ : Mem) (l2 : Int) (l3 : Int) : Option (Int × Mem) :=
  if w32 10 ≤ w32 l3 then
    some (l2, σ)
  else
  ag 766 (756 + l3) fun j1 =>
  if w32 (σ 112 j1) < 0 then
    X11_count_B78 rec53 σ l3 l2 0
  else
  X11_count_B78 rec53 σ l3 l2 1
def X11_count_L53 : Nat → Mem → Int → Int → Option (Int × Mem)
  | 0 => fun _ _ _ => none
  | n + 1 => X11_count_B53 (X11_count_L53 n)
def X11_count (σ : Mem) (l1 : Int) : Option (Int × Mem) :=
  if w32 l1 = 0 then
    bd (X11_barsInAll σ) fun r1 =>
    some (r1, σ)
  else
  if w32 l1 = 1 then
    ag 766 665 fun j2 =>
    some (σ 112 j2, σ)
  else
  if w32 l1 = 2 then
    some (σ 111 5, σ)
  else
  if w32 l1 = 3 then
    X11_count_L53 5000 σ 0 0
  else
  bd2 (X11_finds σ 0) fun r3 s4 =>
  some (r3, s4)
def S_X11_count_0 (fn : Mem → Int → Option (Int × Mem)) (p : Program) (l : Launch) (e : Env) (R : Room) (s : State) (m : MethodId) (args : Array Value) (below : List Frame) (meth : Method) (c : Code) (G : GT) (τ : Mem) (res : Int) : Prop := ∀ (σ : Mem) (H : Heap) (locs : List Loc) (ls : Array Slot) (l1 : Int), PW G σ H → va_S (AA G) s.heap H locs → fn σ l1 = some (res, τ) → lv_has ls 4 [(0, .ref (gh G + 111)), (1, .int (i32 l1))] → W p l e R s m args below meth c H locs 0 0 (MQ below (QM G (some (.int (i32 res))) τ) args s 0 0 (AA G)) (F0 m 0 ls [])
set_option maxHeartbeats 4000000 in
theorem a_X11_count_78 {p : Program} {l : Launch} {e : Env} {R : Room} {s : State} {m : MethodId} {args : Array Value} {below : List Frame} {meth : Method} {c : Code} {G : GT} {τ : Mem} {res : Int} {rec53 : Mem → Int → Int → Option (Int × Mem)} (X : CX p R s m args meth c cX11_count 4 RX11 (some FieldType.int) 4 123 G) (h53 : S_X11_count_53 rec53 p l e R s m args below meth c G τ res) : S_X11_count_78 (X11_count_B78 rec53) p l e R s m args below meth c G τ res := by
  intro σ H locs ls l3 k0 k1 hP hS hf hl
  unfold X11_count_B78 at hf
  refine r_iadd X dX11_count_78 ?_
  obtain ⟨l2_1, el2_1, hf⟩ := lt_inv hf
  refine r_eqi el2_1 ?_
  refine lv_istore_n (lv' := [(2, .int (i32 l2_1)), (0, .ref (gh G + 111)), (3, .int (i32 l3))]) X.1 X.2.1 dX11_count_79 rfl hl (by decide) rfl (fun ls hl => ?_)
  obtain ⟨l3_2, el3_2, hf⟩ := lt_inv hf
  refine lv_iinc (v := i32 l3_2) (lv' := [(3, .int (i32 l3_2)), (2, .int (i32 l2_1)), (0, .ref (gh G + 111))]) X.1 X.2.1 dX11_count_80 hl (k := 2) rfl (by rw [← el3_2]; exact i32_add _ _) (by decide) rfl (fun ls hl => ?_)
  refine lv_goto (tgt := 53) X.1 X.2.1 dX11_count_83 (by decide) ?_
  exact h53 σ H locs ls l2_1 l3_2 hP hS hf (lv_sub hl [2, 1, 0] rfl)
set_option maxHeartbeats 4000000 in
theorem a_X11_count_53 {p : Program} {l : Launch} {e : Env} {R : Room} {s : State} {m : MethodId} {args : Array Value} {below : List Frame} {meth : Method} {c : Code} {G : GT} {τ : Mem} {res : Int} {rec53 : Mem → Int → Int → Option (Int × Mem)} (X : CX p R s m args meth c cX11_count 4 RX11 (some FieldType.int) 4 123 G) (h53 : S_X11_count_53 rec53 p l e R s m args below meth c G τ res) : S_X11_count_53 (X11_count_B53 rec53) p l e R s m args below meth c G τ res := by
  intro σ H locs ls l2 l3 hP hS hf hl
  unfold X11_count_B53 at hf
  refine lv_iload_n X.1 X.2.1 dX11_count_53 rfl (lv_at hl 2 rfl) ?_
  refine r_bipush X 10 (by decide) dX11_count_54 ?_
  refine r_icmp_ge (tgt := 86) X dX11_count_56 (by decide) (fun q => ?_) (fun q => ?_)
  · replace hf := it_inv q hf
    refine lv_iload_n X.1 X.2.1 dX11_count_86 rfl (lv_at hl 1 rfl) ?_
    obtain ⟨rfl, rfl⟩ := so2_inv hf
    exact r_iret X hP hS dX11_count_87
  · replace hf := ie_inv q hf
    refine lv_iload_n X.1 X.2.1 dX11_count_59 rfl (lv_at hl 1 rfl) ?_
    refine lv_aload_n X.1 X.2.1 dX11_count_60 rfl (lv_at hl 0 rfl) ?_
    refine g_11_0 (r := 112) X hP ks_11 rfl (tb t_1087 rfl) dX11_count_61 ?_
    refine r_sipush X 756 (by decide) dX11_count_64 ?_
    refine lv_iload_n X.1 X.2.1 dX11_count_67 rfl (lv_at hl 2 rfl) ?_
    refine r_iadd X dX11_count_68 ?_
    obtain ⟨j1, hij1, hjj1, hlj1, hf⟩ := ag_inv hf
    refine r_iald X hP (ch_11_0 ks_11).1 (ch_11_0 ks_11).2 hij1 hjj1 dX11_count_69 ?_
    refine r_if_lt (tgt := 77) X dX11_count_70 (by decide) (fun q => ?_) (fun q => ?_)
    · replace hf := it_inv q hf
      refine r_iconst X 0 dX11_count_77 ?_
      exact a_X11_count_78 X h53 σ H locs ls l3 l2 0 hP hS hf (lv_sub hl [0, 2] rfl)
    · replace hf := ie_inv q hf
      refine r_iconst X 1 dX11_count_73 ?_
      refine lv_goto (tgt := 78) X.1 X.2.1 dX11_count_74 (by decide) ?_
      exact a_X11_count_78 X h53 σ H locs ls l3 l2 1 hP hS hf (lv_sub hl [0, 2] rfl)
theorem al_X11_count_53 {p : Program} {l : Launch} {e : Env} {R : Room} {s : State} {m : MethodId} {args : Array Value} {below : List Frame} {meth : Method} {c : Code} {G : GT} {τ : Mem} {res : Int} (X : CX p R s m args meth c cX11_count 4 RX11 (some FieldType.int) 4 123 G) : ∀ n, S_X11_count_53 (X11_count_L53 n) p l e R s m args below meth c G τ res := by
  intro n
  induction n with
  | zero =>
    intro σ H locs ls l2 l3 hP hS hf hl
    cases hf
  | succ n ih => exact a_X11_count_53 X ih
set_option maxHeartbeats 4000000 in
theorem a_X11_count_0 {p : Program} {l : Launch} {e : Env} {R : Room} {s : State} {m : MethodId} {args : Array Value} {below : List Frame} {meth : Method} {c : Code} {G : GT} {τ : Mem} {res : Int} (X : CX p R s m args meth c cX11_count 4 RX11 (some FieldType.int) 4 123 G) : S_X11_count_0 (X11_count) p l e R s m args below meth c G τ res := by
  intro σ H locs ls l1 hP hS hf hl
  unfold X11_count at hf
  refine r_iconst X 0 dX11_count_0 ?_
  refine lv_istore_n (lv' := [(2, .int (i32 0)), (0, .ref (gh G + 111)), (1, .int (i32 l1))]) X.1 X.2.1 dX11_count_1 rfl hl (by decide) rfl (fun ls hl => ?_)
  refine lv_iload_n X.1 X.2.1 dX11_count_2 rfl (lv_at hl 2 rfl) ?_
  by_cases q0 : w32 l1 = 0
  · replace hf := it_inv q0 hf
    refine r_tsI (tgt := 32) (off := 29) X 0 dX11_count_3 q0 (by decide) (by decide) ?_
    refine lv_aload_n X.1 X.2.1 dX11_count_32 rfl (lv_at hl 1 rfl) ?_
    obtain ⟨r1, hr1, hf⟩ := bd_inv hf
    refine k_X11_barsInAll X hP hS hl.1  hr1 (tb t_1560 rfl) (by decide) (Nat.le_of_ble_eq_true rfl) dX11_count_33 (fun H locs hP hS => ?_)
    obtain ⟨rfl, rfl⟩ := so2_inv hf
    exact r_iret X hP hS dX11_count_36
  replace hf := ie_inv q0 hf
  by_cases q1 : w32 l1 = 1
  · replace hf := it_inv q1 hf
    refine r_tsI (tgt := 37) (off := 34) X 1 dX11_count_3 q1 (by decide) (by decide) ?_
    refine lv_aload_n X.1 X.2.1 dX11_count_37 rfl (lv_at hl 1 rfl) ?_
    refine g_11_0 (r := 112) X hP ks_11 rfl (tb t_1087 rfl) dX11_count_38 ?_
    refine r_sipush X 665 (by decide) dX11_count_41 ?_
    obtain ⟨j2, hij2, hjj2, hlj2, hf⟩ := ag_inv hf
    refine r_iald X hP (ch_11_0 ks_11).1 (ch_11_0 ks_11).2 hij2 hjj2 dX11_count_44 ?_
    obtain ⟨rfl, rfl⟩ := so2_inv hf
    exact r_iret X hP hS dX11_count_45
  replace hf := ie_inv q1 hf
  by_cases q2 : w32 l1 = 2
  · replace hf := it_inv q2 hf
    refine r_tsI (tgt := 46) (off := 43) X 2 dX11_count_3 q2 (by decide) (by decide) ?_
    refine lv_aload_n X.1 X.2.1 dX11_count_46 rfl (lv_at hl 1 rfl) ?_
    refine g_11_5 X hP ks_11 (tb t_1092 rfl) dX11_count_47 ?_
    obtain ⟨rfl, rfl⟩ := so2_inv hf
    exact r_iret X hP hS dX11_count_50
  replace hf := ie_inv q2 hf
  by_cases q3 : w32 l1 = 3
  · replace hf := it_inv q3 hf
    refine r_tsI (tgt := 51) (off := 48) X 3 dX11_count_3 q3 (by decide) (by decide) ?_
    refine r_iconst X 0 dX11_count_51 ?_
    refine lv_istore_n (lv' := [(3, .int (i32 0)), (2, .int (i32 0)), (0, .ref (gh G + 111)), (1, .int (i32 l1))]) X.1 X.2.1 dX11_count_52 rfl hl (by decide) rfl (fun ls hl => ?_)
    exact al_X11_count_53 X 5000 σ H locs ls 0 0 hP hS hf (lv_sub hl [2, 1, 0] rfl)
  replace hf := ie_inv q3 hf
  refine r_tsO (tgt := 88) X dX11_count_3 (by omega) (by decide) ?_
  refine lv_aload_n X.1 X.2.1 dX11_count_88 rfl (lv_at hl 1 rfl) ?_
  refine r_iconst X 0 dX11_count_89 ?_
  obtain ⟨r3, s4, hr3, hf⟩ := bd2_inv hf
  refine k_X11_finds X hP hS hl.1  hr3 (tb t_1219 rfl) (by decide) (Nat.le_of_ble_eq_true rfl) dX11_count_90 (fun H locs hP hS => ?_)
  obtain ⟨rfl, rfl⟩ := so2_inv hf
  exact r_iret X hP hS dX11_count_93
set_option maxHeartbeats 4000000 in
theorem c_X11_count {l : Launch} {G : GT} {σ τ : Mem} {res : Int} {l1 : Int} (hf : X11_count σ l1 = some (res, τ)) : CT l yX11_count cX11_count 4 (some FieldType.int) 4 123 G [.ref (gh G + 111), .int (i32 l1)] σ τ (some (.int (i32 res))) := by
  refine CT.mk (own := RX11) (by decide) rfl (Nat.le_of_ble_eq_true rfl) ?_
  intro p e s m below meth c ls X hP hS hl
  have hl : lv_has ls 4 [(0, .ref (gh G + 111)), (1, .int (i32 l1))] := hl
  exact a_X11_count_0 X σ s.heap [] ls l1 hP hS hf hl
theorem k_X11_count {p : Program} {l : Launch} {e : Env} {R : Room} {s : State} {m : MethodId} {args : Array Value} {below : List Frame} {meth : Method} {c : Code} {H : Heap} {locs : List Loc} {Q : State → Prop} {cc : ByteArray} {nL : Nat} {own : String} {ret : Option FieldType} {fF fL : Nat} {G : GT} {pc idx : Nat} {ls : Array Slot} {rest : List Value} {σ τ : Mem} {res : Int} {l1 : Int} (X : CX p R s m args meth c cc nL own ret fF fL G) (hP : PW G σ H) (hS : va_S (AA G) s.heap H locs) (hls : ls.size = nL) (hf : X11_count σ l1 = some (res, τ)) (h1 : Cond.methodLink own idx yX11_count ∈ TB) (hR : 4 + 1 ≤ fF ∧ 8 + (4 + 11) + 123 ≤ fL) (hW : (rest.map fun v => v.category).sum ≤ 8) (hd : decode cc pc = .ok (.invokevirtual idx, 3)) (kk : ∀ (H1 : Heap) (locs1 : List Loc), PW G τ H1 → va_S (AA G) s.heap H1 locs1 → W p l e R s m args below meth c H1 locs1 0 0 Q (F0 m (pc + 3) ls (.int (i32 res) :: rest))) : W p l e R s m args below meth c H locs 0 0 Q (F0 m pc ls (.int (i32 l1) :: .ref (gh G + 111) :: rest)) := r_callV (n := 1) X hP hS hls (c_X11_count hf) h1 (tb t_1569 rfl) (tb t_1570 rfl) (tb t_87 rfl) (tb t_1571 rfl) (by decide +kernel) hR (r_recv X hP (kd_lt ks_11 (by decide)) (cE_11 ks_11) rfl) rfl rfl hW hd kk
/-! X11_cut -/
theorem dX11_cut_0 : decode cX11_cut 0 = .ok (.aload_n 0, 1) := by decide +kernel
theorem dX11_cut_1 : decode cX11_cut 1 = .ok (.iload_n 1, 1) := by decide +kernel
theorem dX11_cut_2 : decode cX11_cut 2 = .ok (.iload_n 2, 1) := by decide +kernel
theorem dX11_cut_3 : decode cX11_cut 3 = .ok (.invokevirtual 211, 3) := by decide +kernel
theorem dX11_cut_6 : decode cX11_cut 6 = .ok (.ifCond .eq 20, 3) := by decide +kernel
theorem dX11_cut_9 : decode cX11_cut 9 = .ok (.iload_n 3, 1) := by decide +kernel
theorem dX11_cut_10 : decode cX11_cut 10 = .ok (.i2l, 1) := by decide +kernel
theorem dX11_cut_11 : decode cX11_cut 11 = .ok (.lconst 1, 1) := by decide +kernel
theorem dX11_cut_12 : decode cX11_cut 12 = .ok (.aload_n 0, 1) := by decide +kernel
theorem dX11_cut_13 : decode cX11_cut 13 = .ok (.iload_n 1, 1) := by decide +kernel
theorem dX11_cut_14 : decode cX11_cut 14 = .ok (.invokevirtual 101, 3) := by decide +kernel
theorem dX11_cut_17 : decode cX11_cut 17 = .ok (.iload_n 2, 1) := by decide +kernel
theorem dX11_cut_18 : decode cX11_cut 18 = .ok (.isub, 1) := by decide +kernel
theorem dX11_cut_19 : decode cX11_cut 19 = .ok (.i2l, 1) := by decide +kernel
theorem dX11_cut_20 : decode cX11_cut 20 = .ok (.invokestatic 93, 3) := by decide +kernel
theorem dX11_cut_23 : decode cX11_cut 23 = .ok (.ifCond .ne 9, 3) := by decide +kernel
theorem dX11_cut_26 : decode cX11_cut 26 = .ok (.aload_n 0, 1) := by decide +kernel
theorem dX11_cut_27 : decode cX11_cut 27 = .ok (.iconst 0, 1) := by decide +kernel
theorem dX11_cut_28 : decode cX11_cut 28 = .ok (.invokevirtual 122, 3) := by decide +kernel
theorem dX11_cut_31 : decode cX11_cut 31 = .ok (.ireturn, 1) := by decide +kernel
theorem dX11_cut_32 : decode cX11_cut 32 = .ok (.iconst 0, 1) := by decide +kernel
theorem dX11_cut_33 : decode cX11_cut 33 = .ok (.istore 4, 2) := by decide +kernel
theorem dX11_cut_35 : decode cX11_cut 35 = .ok (.iload 4, 2) := by decide +kernel
theorem dX11_cut_37 : decode cX11_cut 37 = .ok (.aload_n 0, 1) := by decide +kernel
theorem dX11_cut_38 : decode cX11_cut 38 = .ok (.getfield 9, 3) := by decide +kernel
theorem dX11_cut_41 : decode cX11_cut 41 = .ok (.sipush 665, 3) := by decide +kernel
theorem dX11_cut_44 : decode cX11_cut 44 = .ok (.iaload, 1) := by decide +kernel
theorem dX11_cut_45 : decode cX11_cut 45 = .ok (.if_icmp .ge 34, 3) := by decide +kernel
theorem dX11_cut_48 : decode cX11_cut 48 = .ok (.aload_n 0, 1) := by decide +kernel
theorem dX11_cut_49 : decode cX11_cut 49 = .ok (.getfield 9, 3) := by decide +kernel
theorem dX11_cut_52 : decode cX11_cut 52 = .ok (.sipush 666, 3) := by decide +kernel
theorem dX11_cut_55 : decode cX11_cut 55 = .ok (.iconst 3, 1) := by decide +kernel
theorem dX11_cut_56 : decode cX11_cut 56 = .ok (.iload 4, 2) := by decide +kernel
theorem dX11_cut_58 : decode cX11_cut 58 = .ok (.imul, 1) := by decide +kernel
theorem dX11_cut_59 : decode cX11_cut 59 = .ok (.iadd, 1) := by decide +kernel
theorem dX11_cut_60 : decode cX11_cut 60 = .ok (.iconst 1, 1) := by decide +kernel
theorem dX11_cut_61 : decode cX11_cut 61 = .ok (.iadd, 1) := by decide +kernel
theorem dX11_cut_62 : decode cX11_cut 62 = .ok (.iaload, 1) := by decide +kernel
theorem dX11_cut_63 : decode cX11_cut 63 = .ok (.iload_n 1, 1) := by decide +kernel
theorem dX11_cut_64 : decode cX11_cut 64 = .ok (.if_icmp .ne 9, 3) := by decide +kernel
theorem dX11_cut_67 : decode cX11_cut 67 = .ok (.aload_n 0, 1) := by decide +kernel
theorem dX11_cut_68 : decode cX11_cut 68 = .ok (.iconst 4, 1) := by decide +kernel
theorem dX11_cut_69 : decode cX11_cut 69 = .ok (.invokevirtual 122, 3) := by decide +kernel
theorem dX11_cut_72 : decode cX11_cut 72 = .ok (.ireturn, 1) := by decide +kernel
theorem dX11_cut_73 : decode cX11_cut 73 = .ok (.iinc 4 1, 3) := by decide +kernel
theorem dX11_cut_76 : decode cX11_cut 76 = .ok (.goto (-41), 3) := by decide +kernel
theorem dX11_cut_79 : decode cX11_cut 79 = .ok (.aload_n 0, 1) := by decide +kernel
theorem dX11_cut_80 : decode cX11_cut 80 = .ok (.iload_n 1, 1) := by decide +kernel
theorem dX11_cut_81 : decode cX11_cut 81 = .ok (.invokevirtual 101, 3) := by decide +kernel
theorem dX11_cut_84 : decode cX11_cut 84 = .ok (.iload_n 3, 1) := by decide +kernel
theorem dX11_cut_85 : decode cX11_cut 85 = .ok (.isub, 1) := by decide +kernel
theorem dX11_cut_86 : decode cX11_cut 86 = .ok (.istore 4, 2) := by decide +kernel
theorem dX11_cut_88 : decode cX11_cut 88 = .ok (.iload_n 2, 1) := by decide +kernel
theorem dX11_cut_89 : decode cX11_cut 89 = .ok (.istore 5, 2) := by decide +kernel
theorem dX11_cut_91 : decode cX11_cut 91 = .ok (.iload 5, 2) := by decide +kernel
theorem dX11_cut_93 : decode cX11_cut 93 = .ok (.iload 4, 2) := by decide +kernel
theorem dX11_cut_95 : decode cX11_cut 95 = .ok (.if_icmp .ge 52, 3) := by decide +kernel
theorem dX11_cut_98 : decode cX11_cut 98 = .ok (.iconst 0, 1) := by decide +kernel
theorem dX11_cut_99 : decode cX11_cut 99 = .ok (.istore 6, 2) := by decide +kernel
theorem dX11_cut_101 : decode cX11_cut 101 = .ok (.iload 6, 2) := by decide +kernel
theorem dX11_cut_103 : decode cX11_cut 103 = .ok (.iconst 4, 1) := by decide +kernel
theorem dX11_cut_104 : decode cX11_cut 104 = .ok (.if_icmp .ge 37, 3) := by decide +kernel
theorem dX11_cut_107 : decode cX11_cut 107 = .ok (.aload_n 0, 1) := by decide +kernel
theorem dX11_cut_108 : decode cX11_cut 108 = .ok (.getfield 9, 3) := by decide +kernel
theorem dX11_cut_111 : decode cX11_cut 111 = .ok (.iload_n 1, 1) := by decide +kernel
theorem dX11_cut_112 : decode cX11_cut 112 = .ok (.iload 5, 2) := by decide +kernel
theorem dX11_cut_114 : decode cX11_cut 114 = .ok (.iload 6, 2) := by decide +kernel
theorem dX11_cut_116 : decode cX11_cut 116 = .ok (.invokestatic 104, 3) := by decide +kernel
theorem dX11_cut_119 : decode cX11_cut 119 = .ok (.aload_n 0, 1) := by decide +kernel
theorem dX11_cut_120 : decode cX11_cut 120 = .ok (.getfield 9, 3) := by decide +kernel
theorem dX11_cut_123 : decode cX11_cut 123 = .ok (.iload_n 1, 1) := by decide +kernel
theorem dX11_cut_124 : decode cX11_cut 124 = .ok (.iload 5, 2) := by decide +kernel
theorem dX11_cut_126 : decode cX11_cut 126 = .ok (.iload_n 3, 1) := by decide +kernel
theorem dX11_cut_127 : decode cX11_cut 127 = .ok (.iadd, 1) := by decide +kernel
theorem dX11_cut_128 : decode cX11_cut 128 = .ok (.iload 6, 2) := by decide +kernel
theorem dX11_cut_130 : decode cX11_cut 130 = .ok (.invokestatic 104, 3) := by decide +kernel
theorem dX11_cut_133 : decode cX11_cut 133 = .ok (.iaload, 1) := by decide +kernel
theorem dX11_cut_134 : decode cX11_cut 134 = .ok (.iastore, 1) := by decide +kernel
theorem dX11_cut_135 : decode cX11_cut 135 = .ok (.iinc 6 1, 3) := by decide +kernel
theorem dX11_cut_138 : decode cX11_cut 138 = .ok (.goto (-37), 3) := by decide +kernel
theorem dX11_cut_141 : decode cX11_cut 141 = .ok (.iinc 5 1, 3) := by decide +kernel
theorem dX11_cut_144 : decode cX11_cut 144 = .ok (.goto (-53), 3) := by decide +kernel
theorem dX11_cut_147 : decode cX11_cut 147 = .ok (.aload_n 0, 1) := by decide +kernel
theorem dX11_cut_148 : decode cX11_cut 148 = .ok (.getfield 9, 3) := by decide +kernel
theorem dX11_cut_151 : decode cX11_cut 151 = .ok (.iload_n 1, 1) := by decide +kernel
theorem dX11_cut_152 : decode cX11_cut 152 = .ok (.invokestatic 86, 3) := by decide +kernel
theorem dX11_cut_155 : decode cX11_cut 155 = .ok (.iconst 4, 1) := by decide +kernel
theorem dX11_cut_156 : decode cX11_cut 156 = .ok (.iadd, 1) := by decide +kernel
theorem dX11_cut_157 : decode cX11_cut 157 = .ok (.iload 4, 2) := by decide +kernel
theorem dX11_cut_159 : decode cX11_cut 159 = .ok (.iastore, 1) := by decide +kernel
theorem dX11_cut_160 : decode cX11_cut 160 = .ok (.iload 4, 2) := by decide +kernel
theorem dX11_cut_162 : decode cX11_cut 162 = .ok (.ireturn, 1) := by decide +kernel
def S_X11_cut_35 (fn : Mem → Int → Int → Int → Int → Option (Int × Mem)) (p : Program) (l : Launch) (e : Env) (R : Room) (s : State) (m : MethodId) (args : Array Value) (below : List Frame) (meth : Method) (c : Code) (G : GT) (τ : Mem) (res : Int) : Prop := ∀ (σ : Mem) (H : Heap) (locs : List Loc) (ls : Array Slot) (l1 : Int) (l2 : Int) (l3 : Int) (l4 : Int), PW G σ H → va_S (AA G) s.heap H locs → fn σ l1 l2 l3 l4 = some (res, τ) → lv_has ls 7 [(0, .ref (gh G + 111)), (1, .int (i32 l1)), (2, .int (i32 l2)), (3, .int (i32 l3)), (4, .int (i32 l4))] → W p l e R s m args below meth c H locs 0 0 (MQ below (QM G (some (.int (i32 res))) τ) args s 0 0 (AA G)) (F0 m 35 ls [])
def S_X11_cut_91 (fn : Mem → Int → Int → Int → Int → Option (Int × Mem)) (p : Program) (l : Launch) (e : Env) (R : Room) (s : State) (m : MethodId) (args : Array Value) (below : List Frame) (meth : Method) (c : Code) (G : GT) (τ : Mem) (res : Int) : Prop := ∀ (σ : Mem) (H : Heap) (locs : List Loc) (ls : Array Slot) (l1 : Int) (l3 : Int) (l4 : Int) (l5 : Int), PW G σ H → va_S (AA G) s.heap H locs → fn σ l1 l3 l4 l5 = some (res, τ) → lv_has ls 7 [(0, .ref (gh G + 111)), (1, .int (i32 l1)), (3, .int (i32 l3)), (4, .int (i32 l4)), (5, .int (i32 l5))] → W p l e R s m args below meth c H locs 0 0 (MQ below (QM G (some (.int (i32 res))) τ) args s 0 0 (AA G)) (F0 m 91 ls [])
def S_X11_cut_101 (fn : Mem → Int → Int → Int → Int → Int → Option (Int × Mem)) (p : Program) (l : Launch) (e : Env) (R : Room) (s : State) (m : MethodId) (args : Array Value) (below : List Frame) (meth : Method) (c : Code) (G : GT) (τ : Mem) (res : Int) : Prop := ∀ (σ : Mem) (H : Heap) (locs : List Loc) (ls : Array Slot) (l1 : Int) (l3 : Int) (l4 : Int) (l5 : Int) (l6 : Int), PW G σ H → va_S (AA G) s.heap H locs → fn σ l1 l3 l4 l5 l6 = some (res, τ) → lv_has ls 7 [(0, .ref (gh G + 111)), (1, .int (i32 l1)), (3, .int (i32 l3)), (4, .int (i32 l4)), (5, .int (i32 l5)), (6, .int (i32 l6))] → W p l e R s m args below meth c H locs 0 0 (MQ below (QM G (some (.int (i32 res))) τ) args s 0 0 (AA G)) (F0 m 101 ls [])
def X11_cut_B101 (rec91 : Mem → Int → Int → Int → Int → Option (Int × Mem)) (rec101 : Mem → Int → Int → Int → Int → Int → Option (Int × Mem)) (σ : Mem) (l1 : Int) (l3 : Int) (l4 : Int) (l5 : Int) (l6 : Int) : Option (Int × Mem) :=
  if w32 4 ≤ w32 l6 then
    lt (l5 + 1) fun l5_1 =>
    rec91 σ l1 l3 l4 l5_1
  else
  bd (X11_at σ l1 l5 l6) fun r2 =>
  bd (X11_at σ l1 (l5 + l3) l6) fun r3 =>
  ag 766 r3 fun j4 =>
  ag 766 r2 fun j5 =>
  lt (st σ 112 j5 (σ 112 j4)) fun s6 =>
  lt (l6 + 1) fun l6_7 =>
  rec101 s6 l1 l3 l4 l5 l6_7
def X11_cut_L101 (rec91 : Mem → Int → Int → Int → Int → Option (Int × Mem)) : Nat → Mem → Int → Int → Int → Int → Int → Option (Int × Mem)
  | 0 => fun _ _ _ _ _ _ => none
  | n + 1 => X11_cut_B101 rec91 (X11_cut_L101 rec91 n)
def X11_cut_B91 (rec91 : Mem → Int → Int → Int → Int → Option (Int × Mem)) (σ : Mem) (l1 : Int) (l3 : Int) (l4 : Int) (l5 : Int) : Option (Int × Mem) :=
  if w32 l4 ≤ w32 l5 then
    bd (X11_part σ l1) fun r1 =>
    ag 766 (r1 + 4) fun j2 =>
    lt (st σ 112 j2 l4) fun s3 =>
    some (l4, s3)
  else
  X11_cut_L101 rec91 5000 σ l1 l3 l4 l5 0
def X11_cut_L91 : Nat → Mem → Int → Int → Int → Int → Option (Int × Mem)
  | 0 => fun _ _ _ _ _ => none
  | n + 1 => X11_cut_B91 (X11_cut_L91 n)
def X11_cut_B35 (rec35 : Mem → Int → Int → Int → Int → Option (Int × Mem)) (σ : Mem) (l1 : Int) (l2 : Int) (l3 : Int) (l4 : Int) : Option (Int × Mem) :=
  ag 766 665 fun j1 =>
  if w32 (σ 112 j1) ≤ w32 l4 then
    bd (X11_bars σ l1) fun r2 =>
    lt (r2 - l3) fun l4_3 =>
    X11_cut_L91 5000 σ l1 l3 l4_3 l2
  else
  ag 766 ((666 + (3 * l4)) + 1) fun j4 =>
  if w32 (σ 112 j4) ≠ w32 l1 then
    lt (l4 + 1) fun l4_5 =>
    rec35 σ l1 l2 l3 l4_5
  else
  bd2 (X11_finds σ 4) fun r6 s7 =>
  some (r6, s7)
def X11_cut_L35 : Nat → Mem → Int → Int → Int → Int → Option (Int × Mem)
  | 0 => fun _ _ _ _ _ => none
  | n + 1 => X11_cut_B35 (X11_cut_L35 n)
def X11_cut_B26 (σ : Mem) : Option (Int × Mem) :=
  bd2 (X11_finds σ 0) fun r1 s2 =>
  some (r1, s2)
def S_X11_cut_26 (fn : Mem → Option (Int × Mem)) (p : Program) (l : Launch) (e : Env) (R : Room) (s : State) (m : MethodId) (args : Array Value) (below : List Frame) (meth : Method) (c : Code) (G : GT) (τ : Mem) (res : Int) : Prop := ∀ (σ : Mem) (H : Heap) (locs : List Loc) (ls : Array Slot), PW G σ H → va_S (AA G) s.heap H locs → fn σ = some (res, τ) → lv_has ls 7 [(0, .ref (gh G + 111))] → W p l e R s m args below meth c H locs 0 0 (MQ below (QM G (some (.int (i32 res))) τ) args s 0 0 (AA G)) (F0 m 26 ls [])
def X11_cut (σ : Mem) (l1 : Int) (l2 : Int) (l3 : Int) : Option (Int × Mem) :=
  bd (X11_isBar σ l1 l2) fun r1 =>
  if w32 r1 = 0 then
    X11_cut_B26 σ
  else
  bd (X11_bars σ l1) fun r2 =>
  bd (X11_in σ (w32 l3) 1 (w32 (r2 - l2))) fun r3 =>
  if w32 r3 ≠ 0 then
    X11_cut_L35 5000 σ l1 l2 l3 0
  else
  X11_cut_B26 σ
def S_X11_cut_0 (fn : Mem → Int → Int → Int → Option (Int × Mem)) (p : Program) (l : Launch) (e : Env) (R : Room) (s : State) (m : MethodId) (args : Array Value) (below : List Frame) (meth : Method) (c : Code) (G : GT) (τ : Mem) (res : Int) : Prop := ∀ (σ : Mem) (H : Heap) (locs : List Loc) (ls : Array Slot) (l1 : Int) (l2 : Int) (l3 : Int), PW G σ H → va_S (AA G) s.heap H locs → fn σ l1 l2 l3 = some (res, τ) → lv_has ls 7 [(0, .ref (gh G + 111)), (1, .int (i32 l1)), (2, .int (i32 l2)), (3, .int (i32 l3))] → W p l e R s m args below meth c H locs 0 0 (MQ below (QM G (some (.int (i32 res))) τ) args s 0 0 (AA G)) (F0 m 0 ls [])
set_option maxHeartbeats 4000000 in
theorem a_X11_cut_101 {p : Program} {l : Launch} {e : Env} {R : Room} {s : State} {m : MethodId} {args : Array Value} {below : List Frame} {meth : Method} {c : Code} {G : GT} {τ : Mem} {res : Int} {rec91 : Mem → Int → Int → Int → Int → Option (Int × Mem)} {rec101 : Mem → Int → Int → Int → Int → Int → Option (Int × Mem)} (X : CX p R s m args meth c cX11_cut 7 RX11 (some FieldType.int) 4 127 G) (h91 : S_X11_cut_91 rec91 p l e R s m args below meth c G τ res) (h101 : S_X11_cut_101 rec101 p l e R s m args below meth c G τ res) : S_X11_cut_101 (X11_cut_B101 rec91 rec101) p l e R s m args below meth c G τ res := by
  intro σ H locs ls l1 l3 l4 l5 l6 hP hS hf hl
  unfold X11_cut_B101 at hf
  refine lv_iload X.1 X.2.1 dX11_cut_101 (lv_at hl 5 rfl) ?_
  refine r_iconst X 4 dX11_cut_103 ?_
  refine r_icmp_ge (tgt := 141) X dX11_cut_104 (by decide) (fun q => ?_) (fun q => ?_)
  · replace hf := it_inv q hf
    obtain ⟨l5_1, el5_1, hf⟩ := lt_inv hf
    refine lv_iinc (v := i32 l5_1) (lv' := [(5, .int (i32 l5_1)), (0, .ref (gh G + 111)), (1, .int (i32 l1)), (3, .int (i32 l3)), (4, .int (i32 l4)), (6, .int (i32 l6))]) X.1 X.2.1 dX11_cut_141 hl (k := 4) rfl (by rw [← el5_1]; exact i32_add _ _) (by decide) rfl (fun ls hl => ?_)
    refine lv_goto (tgt := 91) X.1 X.2.1 dX11_cut_144 (by decide) ?_
    exact h91 σ H locs ls l1 l3 l4 l5_1 hP hS hf (lv_sub hl [1, 2, 3, 4, 0] rfl)
  · replace hf := ie_inv q hf
    refine lv_aload_n X.1 X.2.1 dX11_cut_107 rfl (lv_at hl 0 rfl) ?_
    refine g_11_0 (r := 112) X hP ks_11 rfl (tb t_1087 rfl) dX11_cut_108 ?_
    refine lv_iload_n X.1 X.2.1 dX11_cut_111 rfl (lv_at hl 1 rfl) ?_
    refine lv_iload X.1 X.2.1 dX11_cut_112 (lv_at hl 4 rfl) ?_
    refine lv_iload X.1 X.2.1 dX11_cut_114 (lv_at hl 5 rfl) ?_
    obtain ⟨r2, hr2, hf⟩ := bd_inv hf
    refine k_X11_at X hP hS hl.1  hr2 (tb t_1300 rfl) (by decide) (Nat.le_of_ble_eq_true rfl) dX11_cut_116 (fun H locs hP hS => ?_)
    refine lv_aload_n X.1 X.2.1 dX11_cut_119 rfl (lv_at hl 0 rfl) ?_
    refine g_11_0 (r := 112) X hP ks_11 rfl (tb t_1087 rfl) dX11_cut_120 ?_
    refine lv_iload_n X.1 X.2.1 dX11_cut_123 rfl (lv_at hl 1 rfl) ?_
    refine lv_iload X.1 X.2.1 dX11_cut_124 (lv_at hl 4 rfl) ?_
    refine lv_iload_n X.1 X.2.1 dX11_cut_126 rfl (lv_at hl 2 rfl) ?_
    refine r_iadd X dX11_cut_127 ?_
    refine lv_iload X.1 X.2.1 dX11_cut_128 (lv_at hl 5 rfl) ?_
    obtain ⟨r3, hr3, hf⟩ := bd_inv hf
    refine k_X11_at X hP hS hl.1  hr3 (tb t_1300 rfl) (by decide) (Nat.le_of_ble_eq_true rfl) dX11_cut_130 (fun H locs hP hS => ?_)
    obtain ⟨j4, hij4, hjj4, hlj4, hf⟩ := ag_inv hf
    refine r_iald X hP (ch_11_0 ks_11).1 (ch_11_0 ks_11).2 hij4 hjj4 dX11_cut_133 ?_
    obtain ⟨j5, hij5, hjj5, hlj5, hf⟩ := ag_inv hf
    refine r_iast X hP hS (ch_11_0 ks_11).1 (ch_11_0 ks_11).2 hij5 hjj5 dX11_cut_134 (fun H locs hP hS => ?_)
    obtain ⟨s6, es6, hf⟩ := lt_inv hf
    rw [es6] at hP
    obtain ⟨l6_7, el6_7, hf⟩ := lt_inv hf
    refine lv_iinc (v := i32 l6_7) (lv' := [(6, .int (i32 l6_7)), (0, .ref (gh G + 111)), (1, .int (i32 l1)), (3, .int (i32 l3)), (4, .int (i32 l4)), (5, .int (i32 l5))]) X.1 X.2.1 dX11_cut_135 hl (k := 5) rfl (by rw [← el6_7]; exact i32_add _ _) (by decide) rfl (fun ls hl => ?_)
    refine lv_goto (tgt := 101) X.1 X.2.1 dX11_cut_138 (by decide) ?_
    exact h101 s6 H locs ls l1 l3 l4 l5 l6_7 hP hS hf (lv_sub hl [1, 2, 3, 4, 5, 0] rfl)
theorem al_X11_cut_101 {p : Program} {l : Launch} {e : Env} {R : Room} {s : State} {m : MethodId} {args : Array Value} {below : List Frame} {meth : Method} {c : Code} {G : GT} {τ : Mem} {res : Int} {rec91 : Mem → Int → Int → Int → Int → Option (Int × Mem)} (X : CX p R s m args meth c cX11_cut 7 RX11 (some FieldType.int) 4 127 G) (h91 : S_X11_cut_91 rec91 p l e R s m args below meth c G τ res) : ∀ n, S_X11_cut_101 (X11_cut_L101 rec91 n) p l e R s m args below meth c G τ res := by
  intro n
  induction n with
  | zero =>
    intro σ H locs ls l1 l3 l4 l5 l6 hP hS hf hl
    cases hf
  | succ n ih => exact a_X11_cut_101 X h91 ih
set_option maxHeartbeats 4000000 in
theorem a_X11_cut_91 {p : Program} {l : Launch} {e : Env} {R : Room} {s : State} {m : MethodId} {args : Array Value} {below : List Frame} {meth : Method} {c : Code} {G : GT} {τ : Mem} {res : Int} {rec91 : Mem → Int → Int → Int → Int → Option (Int × Mem)} (X : CX p R s m args meth c cX11_cut 7 RX11 (some FieldType.int) 4 127 G) (h91 : S_X11_cut_91 rec91 p l e R s m args below meth c G τ res) : S_X11_cut_91 (X11_cut_B91 rec91) p l e R s m args below meth c G τ res := by
  intro σ H locs ls l1 l3 l4 l5 hP hS hf hl
  unfold X11_cut_B91 at hf
  refine lv_iload X.1 X.2.1 dX11_cut_91 (lv_at hl 4 rfl) ?_
  refine lv_iload X.1 X.2.1 dX11_cut_93 (lv_at hl 3 rfl) ?_
  refine r_icmp_ge (tgt := 147) X dX11_cut_95 (by decide) (fun q => ?_) (fun q => ?_)
  · replace hf := it_inv q hf
    refine lv_aload_n X.1 X.2.1 dX11_cut_147 rfl (lv_at hl 0 rfl) ?_
    refine g_11_0 (r := 112) X hP ks_11 rfl (tb t_1087 rfl) dX11_cut_148 ?_
    refine lv_iload_n X.1 X.2.1 dX11_cut_151 rfl (lv_at hl 1 rfl) ?_
    obtain ⟨r1, hr1, hf⟩ := bd_inv hf
    refine k_X11_part X hP hS hl.1  hr1 (tb t_1084 rfl) (by decide) (Nat.le_of_ble_eq_true rfl) dX11_cut_152 (fun H locs hP hS => ?_)
    refine r_iconst X 4 dX11_cut_155 ?_
    refine r_iadd X dX11_cut_156 ?_
    refine lv_iload X.1 X.2.1 dX11_cut_157 (lv_at hl 3 rfl) ?_
    obtain ⟨j2, hij2, hjj2, hlj2, hf⟩ := ag_inv hf
    refine r_iast X hP hS (ch_11_0 ks_11).1 (ch_11_0 ks_11).2 hij2 hjj2 dX11_cut_159 (fun H locs hP hS => ?_)
    obtain ⟨s3, es3, hf⟩ := lt_inv hf
    rw [es3] at hP
    refine lv_iload X.1 X.2.1 dX11_cut_160 (lv_at hl 3 rfl) ?_
    obtain ⟨rfl, rfl⟩ := so2_inv hf
    exact r_iret X hP hS dX11_cut_162
  · replace hf := ie_inv q hf
    refine r_iconst X 0 dX11_cut_98 ?_
    refine lv_istore (lv' := [(6, .int (i32 0)), (0, .ref (gh G + 111)), (1, .int (i32 l1)), (3, .int (i32 l3)), (4, .int (i32 l4)), (5, .int (i32 l5))]) X.1 X.2.1 dX11_cut_99 hl (by decide) rfl (fun ls hl => ?_)
    exact al_X11_cut_101 X h91 5000 σ H locs ls l1 l3 l4 l5 0 hP hS hf (lv_sub hl [1, 2, 3, 4, 5, 0] rfl)
theorem al_X11_cut_91 {p : Program} {l : Launch} {e : Env} {R : Room} {s : State} {m : MethodId} {args : Array Value} {below : List Frame} {meth : Method} {c : Code} {G : GT} {τ : Mem} {res : Int} (X : CX p R s m args meth c cX11_cut 7 RX11 (some FieldType.int) 4 127 G) : ∀ n, S_X11_cut_91 (X11_cut_L91 n) p l e R s m args below meth c G τ res := by
  intro n
  induction n with
  | zero =>
    intro σ H locs ls l1 l3 l4 l5 hP hS hf hl
    cases hf
  | succ n ih => exact a_X11_cut_91 X ih
set_option maxHeartbeats 4000000 in
theorem a_X11_cut_35 {p : Program} {l : Launch} {e : Env} {R : Room} {s : State} {m : MethodId} {args : Array Value} {below : List Frame} {meth : Method} {c : Code} {G : GT} {τ : Mem} {res : Int} {rec35 : Mem → Int → Int → Int → Int → Option (Int × Mem)} (X : CX p R s m args meth c cX11_cut 7 RX11 (some FieldType.int) 4 127 G) (h35 : S_X11_cut_35 rec35 p l e R s m args below meth c G τ res) : S_X11_cut_35 (X11_cut_B35 rec35) p l e R s m args below meth c G τ res := by
  intro σ H locs ls l1 l2 l3 l4 hP hS hf hl
  unfold X11_cut_B35 at hf
  refine lv_iload X.1 X.2.1 dX11_cut_35 (lv_at hl 4 rfl) ?_
  refine lv_aload_n X.1 X.2.1 dX11_cut_37 rfl (lv_at hl 0 rfl) ?_
  refine g_11_0 (r := 112) X hP ks_11 rfl (tb t_1087 rfl) dX11_cut_38 ?_
  refine r_sipush X 665 (by decide) dX11_cut_41 ?_
  obtain ⟨j1, hij1, hjj1, hlj1, hf⟩ := ag_inv hf
  refine r_iald X hP (ch_11_0 ks_11).1 (ch_11_0 ks_11).2 hij1 hjj1 dX11_cut_44 ?_
  refine r_icmp_ge (tgt := 79) X dX11_cut_45 (by decide) (fun q => ?_) (fun q => ?_)
  · replace hf := it_inv q hf
    refine lv_aload_n X.1 X.2.1 dX11_cut_79 rfl (lv_at hl 0 rfl) ?_
    refine lv_iload_n X.1 X.2.1 dX11_cut_80 rfl (lv_at hl 1 rfl) ?_
    obtain ⟨r2, hr2, hf⟩ := bd_inv hf
    refine k_X11_bars X hP hS hl.1  hr2 (tb t_1296 rfl) (by decide) (Nat.le_of_ble_eq_true rfl) dX11_cut_81 (fun H locs hP hS => ?_)
    refine lv_iload_n X.1 X.2.1 dX11_cut_84 rfl (lv_at hl 3 rfl) ?_
    refine r_isub X dX11_cut_85 ?_
    obtain ⟨l4_3, el4_3, hf⟩ := lt_inv hf
    refine r_eqi el4_3 ?_
    refine lv_istore (lv' := [(4, .int (i32 l4_3)), (0, .ref (gh G + 111)), (1, .int (i32 l1)), (2, .int (i32 l2)), (3, .int (i32 l3))]) X.1 X.2.1 dX11_cut_86 hl (by decide) rfl (fun ls hl => ?_)
    refine lv_iload_n X.1 X.2.1 dX11_cut_88 rfl (lv_at hl 3 rfl) ?_
    refine lv_istore (lv' := [(5, .int (i32 l2)), (4, .int (i32 l4_3)), (0, .ref (gh G + 111)), (1, .int (i32 l1)), (2, .int (i32 l2)), (3, .int (i32 l3))]) X.1 X.2.1 dX11_cut_89 hl (by decide) rfl (fun ls hl => ?_)
    exact al_X11_cut_91 X 5000 σ H locs ls l1 l3 l4_3 l2 hP hS hf (lv_sub hl [2, 3, 5, 1, 0] rfl)
  · replace hf := ie_inv q hf
    refine lv_aload_n X.1 X.2.1 dX11_cut_48 rfl (lv_at hl 0 rfl) ?_
    refine g_11_0 (r := 112) X hP ks_11 rfl (tb t_1087 rfl) dX11_cut_49 ?_
    refine r_sipush X 666 (by decide) dX11_cut_52 ?_
    refine r_iconst X 3 dX11_cut_55 ?_
    refine lv_iload X.1 X.2.1 dX11_cut_56 (lv_at hl 4 rfl) ?_
    refine r_imul X dX11_cut_58 ?_
    refine r_iadd X dX11_cut_59 ?_
    refine r_iconst X 1 dX11_cut_60 ?_
    refine r_iadd X dX11_cut_61 ?_
    obtain ⟨j4, hij4, hjj4, hlj4, hf⟩ := ag_inv hf
    refine r_iald X hP (ch_11_0 ks_11).1 (ch_11_0 ks_11).2 hij4 hjj4 dX11_cut_62 ?_
    refine lv_iload_n X.1 X.2.1 dX11_cut_63 rfl (lv_at hl 1 rfl) ?_
    refine r_icmp_ne (tgt := 73) X dX11_cut_64 (by decide) (fun q => ?_) (fun q => ?_)
    · replace hf := it_inv q hf
      obtain ⟨l4_5, el4_5, hf⟩ := lt_inv hf
      refine lv_iinc (v := i32 l4_5) (lv' := [(4, .int (i32 l4_5)), (0, .ref (gh G + 111)), (1, .int (i32 l1)), (2, .int (i32 l2)), (3, .int (i32 l3))]) X.1 X.2.1 dX11_cut_73 hl (k := 4) rfl (by rw [← el4_5]; exact i32_add _ _) (by decide) rfl (fun ls hl => ?_)
      refine lv_goto (tgt := 35) X.1 X.2.1 dX11_cut_76 (by decide) ?_
      exact h35 σ H locs ls l1 l2 l3 l4_5 hP hS hf (lv_sub hl [1, 2, 3, 4, 0] rfl)
    · replace hf := ie_inv q hf
      refine lv_aload_n X.1 X.2.1 dX11_cut_67 rfl (lv_at hl 0 rfl) ?_
      refine r_iconst X 4 dX11_cut_68 ?_
      obtain ⟨r6, s7, hr6, hf⟩ := bd2_inv hf
      refine k_X11_finds X hP hS hl.1  hr6 (tb t_1219 rfl) (by decide) (Nat.le_of_ble_eq_true rfl) dX11_cut_69 (fun H locs hP hS => ?_)
      obtain ⟨rfl, rfl⟩ := so2_inv hf
      exact r_iret X hP hS dX11_cut_72
theorem al_X11_cut_35 {p : Program} {l : Launch} {e : Env} {R : Room} {s : State} {m : MethodId} {args : Array Value} {below : List Frame} {meth : Method} {c : Code} {G : GT} {τ : Mem} {res : Int} (X : CX p R s m args meth c cX11_cut 7 RX11 (some FieldType.int) 4 127 G) : ∀ n, S_X11_cut_35 (X11_cut_L35 n) p l e R s m args below meth c G τ res := by
  intro n
  induction n with
  | zero =>
    intro σ H locs ls l1 l2 l3 l4 hP hS hf hl
    cases hf
  | succ n ih => exact a_X11_cut_35 X ih
set_option maxHeartbeats 4000000 in
theorem a_X11_cut_26 {p : Program} {l : Launch} {e : Env} {R : Room} {s : State} {m : MethodId} {args : Array Value} {below : List Frame} {meth : Method} {c : Code} {G : GT} {τ : Mem} {res : Int} (X : CX p R s m args meth c cX11_cut 7 RX11 (some FieldType.int) 4 127 G) : S_X11_cut_26 (X11_cut_B26) p l e R s m args below meth c G τ res := by
  intro σ H locs ls hP hS hf hl
  unfold X11_cut_B26 at hf
  refine lv_aload_n X.1 X.2.1 dX11_cut_26 rfl (lv_at hl 0 rfl) ?_
  refine r_iconst X 0 dX11_cut_27 ?_
  obtain ⟨r1, s2, hr1, hf⟩ := bd2_inv hf
  refine k_X11_finds X hP hS hl.1  hr1 (tb t_1219 rfl) (by decide) (Nat.le_of_ble_eq_true rfl) dX11_cut_28 (fun H locs hP hS => ?_)
  obtain ⟨rfl, rfl⟩ := so2_inv hf
  exact r_iret X hP hS dX11_cut_31
set_option maxHeartbeats 4000000 in
theorem a_X11_cut_0 {p : Program} {l : Launch} {e : Env} {R : Room} {s : State} {m : MethodId} {args : Array Value} {below : List Frame} {meth : Method} {c : Code} {G : GT} {τ : Mem} {res : Int} (X : CX p R s m args meth c cX11_cut 7 RX11 (some FieldType.int) 4 127 G) : S_X11_cut_0 (X11_cut) p l e R s m args below meth c G τ res := by
  intro σ H locs ls l1 l2 l3 hP hS hf hl
  unfold X11_cut at hf
  refine lv_aload_n X.1 X.2.1 dX11_cut_0 rfl (lv_at hl 0 rfl) ?_
  refine lv_iload_n X.1 X.2.1 dX11_cut_1 rfl (lv_at hl 1 rfl) ?_
  refine lv_iload_n X.1 X.2.1 dX11_cut_2 rfl (lv_at hl 2 rfl) ?_
  obtain ⟨r1, hr1, hf⟩ := bd_inv hf
  refine k_X11_isBar X hP hS hl.1  hr1 (tb t_1307 rfl) (by decide) (Nat.le_of_ble_eq_true rfl) dX11_cut_3 (fun H locs hP hS => ?_)
  refine r_if_eq (tgt := 26) X dX11_cut_6 (by decide) (fun q => ?_) (fun q => ?_)
  · replace hf := it_inv q hf
    exact a_X11_cut_26 X σ H locs ls  hP hS hf (lv_sub hl [0] rfl)
  · replace hf := ie_inv q hf
    refine lv_iload_n X.1 X.2.1 dX11_cut_9 rfl (lv_at hl 3 rfl) ?_
    refine r_i2l X dX11_cut_10 ?_
    refine r_lconst X 1 1 (by decide) dX11_cut_11 ?_
    refine lv_aload_n X.1 X.2.1 dX11_cut_12 rfl (lv_at hl 0 rfl) ?_
    refine lv_iload_n X.1 X.2.1 dX11_cut_13 rfl (lv_at hl 1 rfl) ?_
    obtain ⟨r2, hr2, hf⟩ := bd_inv hf
    refine k_X11_bars X hP hS hl.1  hr2 (tb t_1296 rfl) (by decide) (Nat.le_of_ble_eq_true rfl) dX11_cut_14 (fun H locs hP hS => ?_)
    refine lv_iload_n X.1 X.2.1 dX11_cut_17 rfl (lv_at hl 2 rfl) ?_
    refine r_isub X dX11_cut_18 ?_
    refine r_i2l X dX11_cut_19 ?_
    obtain ⟨r3, hr3, hf⟩ := bd_inv hf
    refine k_X11_in X hP hS hl.1  hr3 (tb t_1208 rfl) (by decide) (Nat.le_of_ble_eq_true rfl) dX11_cut_20 (fun H locs hP hS => ?_)
    refine r_if_ne (tgt := 32) X dX11_cut_23 (by decide) (fun q => ?_) (fun q => ?_)
    · replace hf := it_inv q hf
      refine r_iconst X 0 dX11_cut_32 ?_
      refine lv_istore (lv' := [(4, .int (i32 0)), (0, .ref (gh G + 111)), (1, .int (i32 l1)), (2, .int (i32 l2)), (3, .int (i32 l3))]) X.1 X.2.1 dX11_cut_33 hl (by decide) rfl (fun ls hl => ?_)
      exact al_X11_cut_35 X 5000 σ H locs ls l1 l2 l3 0 hP hS hf (lv_sub hl [1, 2, 3, 4, 0] rfl)
    · replace hf := ie_inv q hf
      exact a_X11_cut_26 X σ H locs ls  hP hS hf (lv_sub hl [0] rfl)
set_option maxHeartbeats 4000000 in
theorem c_X11_cut {l : Launch} {G : GT} {σ τ : Mem} {res : Int} {l1 : Int} {l2 : Int} {l3 : Int} (hf : X11_cut σ l1 l2 l3 = some (res, τ)) : CT l yX11_cut cX11_cut 7 (some FieldType.int) 4 127 G [.ref (gh G + 111), .int (i32 l1), .int (i32 l2), .int (i32 l3)] σ τ (some (.int (i32 res))) := by
  refine CT.mk (own := RX11) (by decide) rfl (Nat.le_of_ble_eq_true rfl) ?_
  intro p e s m below meth c ls X hP hS hl
  have hl : lv_has ls 7 [(0, .ref (gh G + 111)), (1, .int (i32 l1)), (2, .int (i32 l2)), (3, .int (i32 l3))] := hl
  exact a_X11_cut_0 X σ s.heap [] ls l1 l2 l3 hP hS hf hl
theorem k_X11_cut {p : Program} {l : Launch} {e : Env} {R : Room} {s : State} {m : MethodId} {args : Array Value} {below : List Frame} {meth : Method} {c : Code} {H : Heap} {locs : List Loc} {Q : State → Prop} {cc : ByteArray} {nL : Nat} {own : String} {ret : Option FieldType} {fF fL : Nat} {G : GT} {pc idx : Nat} {ls : Array Slot} {rest : List Value} {σ τ : Mem} {res : Int} {l1 : Int} {l2 : Int} {l3 : Int} (X : CX p R s m args meth c cc nL own ret fF fL G) (hP : PW G σ H) (hS : va_S (AA G) s.heap H locs) (hls : ls.size = nL) (hf : X11_cut σ l1 l2 l3 = some (res, τ)) (h1 : Cond.methodLink own idx yX11_cut ∈ TB) (hR : 4 + 1 ≤ fF ∧ 8 + (7 + 11) + 127 ≤ fL) (hW : (rest.map fun v => v.category).sum ≤ 8) (hd : decode cc pc = .ok (.invokevirtual idx, 3)) (kk : ∀ (H1 : Heap) (locs1 : List Loc), PW G τ H1 → va_S (AA G) s.heap H1 locs1 → W p l e R s m args below meth c H1 locs1 0 0 Q (F0 m (pc + 3) ls (.int (i32 res) :: rest))) : W p l e R s m args below meth c H locs 0 0 Q (F0 m pc ls (.int (i32 l3) :: .int (i32 l2) :: .int (i32 l1) :: .ref (gh G + 111) :: rest)) := r_callV (n := 3) X hP hS hls (c_X11_cut hf) h1 (tb t_1318 rfl) (tb t_1319 rfl) (tb t_87 rfl) (tb t_1320 rfl) (by decide +kernel) hR (r_recv X hP (kd_lt ks_11 (by decide)) (cE_11 ks_11) rfl) rfl rfl hW hd kk
