/-! X11_ends -/
theorem dX11_ends_0 : decode cX11_ends 0 = .ok (.iload_n 1, 1) := by decide +kernel
theorem dX11_ends_1 : decode cX11_ends 1 = .ok (.invokestatic 97, 3) := by decide +kernel
theorem dX11_ends_4 : decode cX11_ends 4 = .ok (.ifCond .eq 7, 3) := by decide +kernel
theorem dX11_ends_7 : decode cX11_ends 7 = .ok (.iload_n 2, 1) := by decide +kernel
theorem dX11_ends_8 : decode cX11_ends 8 = .ok (.ifCond .ge 9, 3) := by decide +kernel
theorem dX11_ends_11 : decode cX11_ends 11 = .ok (.aload_n 0, 1) := by decide +kernel
theorem dX11_ends_12 : decode cX11_ends 12 = .ok (.iconst 0, 1) := by decide +kernel
theorem dX11_ends_13 : decode cX11_ends 13 = .ok (.invokevirtual 122, 3) := by decide +kernel
theorem dX11_ends_16 : decode cX11_ends 16 = .ok (.ireturn, 1) := by decide +kernel
theorem dX11_ends_17 : decode cX11_ends 17 = .ok (.aload_n 0, 1) := by decide +kernel
theorem dX11_ends_18 : decode cX11_ends 18 = .ok (.iload_n 1, 1) := by decide +kernel
theorem dX11_ends_19 : decode cX11_ends 19 = .ok (.invokevirtual 298, 3) := by decide +kernel
theorem dX11_ends_22 : decode cX11_ends 22 = .ok (.ifCond .eq 20, 3) := by decide +kernel
theorem dX11_ends_25 : decode cX11_ends 25 = .ok (.iload_n 2, 1) := by decide +kernel
theorem dX11_ends_26 : decode cX11_ends 26 = .ok (.aload_n 0, 1) := by decide +kernel
theorem dX11_ends_27 : decode cX11_ends 27 = .ok (.getfield 280, 3) := by decide +kernel
theorem dX11_ends_30 : decode cX11_ends 30 = .ok (.if_icmp .ge 12, 3) := by decide +kernel
theorem dX11_ends_33 : decode cX11_ends 33 = .ok (.aload_n 0, 1) := by decide +kernel
theorem dX11_ends_34 : decode cX11_ends 34 = .ok (.getfield 71, 3) := by decide +kernel
theorem dX11_ends_37 : decode cX11_ends 37 = .ok (.iload_n 2, 1) := by decide +kernel
theorem dX11_ends_38 : decode cX11_ends 38 = .ok (.iaload, 1) := by decide +kernel
theorem dX11_ends_39 : decode cX11_ends 39 = .ok (.goto 8, 3) := by decide +kernel
theorem dX11_ends_42 : decode cX11_ends 42 = .ok (.aload_n 0, 1) := by decide +kernel
theorem dX11_ends_43 : decode cX11_ends 43 = .ok (.iconst 3, 1) := by decide +kernel
theorem dX11_ends_44 : decode cX11_ends 44 = .ok (.invokevirtual 122, 3) := by decide +kernel
theorem dX11_ends_47 : decode cX11_ends 47 = .ok (.ireturn, 1) := by decide +kernel
def X11_ends_B42 (σ : Mem) : Option (Int × Mem) :=
  bd2 (X11_finds σ 3) fun r1 s2 =>
  some (r1, s2)
def S_X11_ends_42 (fn : Mem → Option (Int × Mem)) (p : Program) (l : Launch) (e : Env) (R : Room) (s : State) (m : MethodId) (args : Array Value) (below : List Frame) (meth : Method) (c : Code) (G : GT) (τ : Mem) (res : Int) : Prop := ∀ (σ : Mem) (H : Heap) (locs : List Loc) (ls : Array Slot), PW G σ H → va_S (AA G) s.heap H locs → fn σ = some (res, τ) → lv_has ls 3 [(0, .ref (gh G + 111))] → W p l e R s m args below meth c H locs 0 0 (MQ below (QM G (some (.int (i32 res))) τ) args s 0 0 (AA G)) (F0 m 42 ls [])
def X11_ends_B11 (σ : Mem) : Option (Int × Mem) :=
  bd2 (X11_finds σ 0) fun r1 s2 =>
  some (r1, s2)
def S_X11_ends_11 (fn : Mem → Option (Int × Mem)) (p : Program) (l : Launch) (e : Env) (R : Room) (s : State) (m : MethodId) (args : Array Value) (below : List Frame) (meth : Method) (c : Code) (G : GT) (τ : Mem) (res : Int) : Prop := ∀ (σ : Mem) (H : Heap) (locs : List Loc) (ls : Array Slot), PW G σ H → va_S (AA G) s.heap H locs → fn σ = some (res, τ) → lv_has ls 3 [(0, .ref (gh G + 111))] → W p l e R s m args below meth c H locs 0 0 (MQ below (QM G (some (.int (i32 res))) τ) args s 0 0 (AA G)) (F0 m 11 ls [])
def X11_ends (σ : Mem) (l1 : Int) (l2 : Int) : Option (Int × Mem) :=
  bd (X11_isPart σ l1) fun r1 =>
  if w32 r1 = 0 then
    X11_ends_B11 σ
  else
  if 0 ≤ w32 l2 then
    bd2 (X11_laysOut σ l1) fun r2 s3 =>
    if w32 r2 = 0 then
      X11_ends_B42 s3
    else
    if w32 (s3 111 24) ≤ w32 l2 then
      X11_ends_B42 s3
    else
    ag 40 l2 fun j4 =>
    some (s3 132 j4, s3)
  else
  X11_ends_B11 σ
def S_X11_ends_0 (fn : Mem → Int → Int → Option (Int × Mem)) (p : Program) (l : Launch) (e : Env) (R : Room) (s : State) (m : MethodId) (args : Array Value) (below : List Frame) (meth : Method) (c : Code) (G : GT) (τ : Mem) (res : Int) : Prop := ∀ (σ : Mem) (H : Heap) (locs : List Loc) (ls : Array Slot) (l1 : Int) (l2 : Int), PW G σ H → va_S (AA G) s.heap H locs → fn σ l1 l2 = some (res, τ) → lv_has ls 3 [(0, .ref (gh G + 111)), (1, .int (i32 l1)), (2, .int (i32 l2))] → W p l e R s m args below meth c H locs 0 0 (MQ below (QM G (some (.int (i32 res))) τ) args s 0 0 (AA G)) (F0 m 0 ls [])
set_option maxHeartbeats 4000000 in
theorem a_X11_ends_42 {p : Program} {l : Launch} {e : Env} {R : Room} {s : State} {m : MethodId} {args : Array Value} {below : List Frame} {meth : Method} {c : Code} {G : GT} {τ : Mem} {res : Int} (X : CX p R s m args meth c cX11_ends 3 RX11 (some FieldType.int) 10 270 G) : S_X11_ends_42 (X11_ends_B42) p l e R s m args below meth c G τ res := by
  intro σ H locs ls hP hS hf hl
  unfold X11_ends_B42 at hf
  refine lv_aload_n X.1 X.2.1 dX11_ends_42 rfl (lv_at hl 0 rfl) ?_
  refine r_iconst X 3 dX11_ends_43 ?_
  obtain ⟨r1, s2, hr1, hf⟩ := bd2_inv hf
  refine k_X11_finds X hP hS hl.1  hr1 (tb t_1219 rfl) (by decide) (Nat.le_of_ble_eq_true rfl) dX11_ends_44 (fun H locs hP hS => ?_)
  obtain ⟨rfl, rfl⟩ := so2_inv hf
  exact r_iret X hP hS dX11_ends_47
set_option maxHeartbeats 4000000 in
theorem a_X11_ends_11 {p : Program} {l : Launch} {e : Env} {R : Room} {s : State} {m : MethodId} {args : Array Value} {below : List Frame} {meth : Method} {c : Code} {G : GT} {τ : Mem} {res : Int} (X : CX p R s m args meth c cX11_ends 3 RX11 (some FieldType.int) 10 270 G) : S_X11_ends_11 (X11_ends_B11) p l e R s m args below meth c G τ res := by
  intro σ H locs ls hP hS hf hl
  unfold X11_ends_B11 at hf
  refine lv_aload_n X.1 X.2.1 dX11_ends_11 rfl (lv_at hl 0 rfl) ?_
  refine r_iconst X 0 dX11_ends_12 ?_
  obtain ⟨r1, s2, hr1, hf⟩ := bd2_inv hf
  refine k_X11_finds X hP hS hl.1  hr1 (tb t_1219 rfl) (by decide) (Nat.le_of_ble_eq_true rfl) dX11_ends_13 (fun H locs hP hS => ?_)
  obtain ⟨rfl, rfl⟩ := so2_inv hf
  exact r_iret X hP hS dX11_ends_16
set_option maxHeartbeats 4000000 in
theorem a_X11_ends_0 {p : Program} {l : Launch} {e : Env} {R : Room} {s : State} {m : MethodId} {args : Array Value} {below : List Frame} {meth : Method} {c : Code} {G : GT} {τ : Mem} {res : Int} (X : CX p R s m args meth c cX11_ends 3 RX11 (some FieldType.int) 10 270 G) : S_X11_ends_0 (X11_ends) p l e R s m args below meth c G τ res := by
  intro σ H locs ls l1 l2 hP hS hf hl
  unfold X11_ends at hf
  refine lv_iload_n X.1 X.2.1 dX11_ends_0 rfl (lv_at hl 1 rfl) ?_
  obtain ⟨r1, hr1, hf⟩ := bd_inv hf
  refine k_X11_isPart X hP hS hl.1  hr1 (tb t_1204 rfl) (by decide) (Nat.le_of_ble_eq_true rfl) dX11_ends_1 (fun H locs hP hS => ?_)
  refine r_if_eq (tgt := 11) X dX11_ends_4 (by decide) (fun q => ?_) (fun q => ?_)
  · replace hf := it_inv q hf
    exact a_X11_ends_11 X σ H locs ls  hP hS hf (lv_sub hl [0] rfl)
  · replace hf := ie_inv q hf
    refine lv_iload_n X.1 X.2.1 dX11_ends_7 rfl (lv_at hl 2 rfl) ?_
    refine r_if_ge (tgt := 17) X dX11_ends_8 (by decide) (fun q => ?_) (fun q => ?_)
    · replace hf := it_inv q hf
      refine lv_aload_n X.1 X.2.1 dX11_ends_17 rfl (lv_at hl 0 rfl) ?_
      refine lv_iload_n X.1 X.2.1 dX11_ends_18 rfl (lv_at hl 1 rfl) ?_
      obtain ⟨r2, s3, hr2, hf⟩ := bd2_inv hf
      refine k_X11_laysOut X hP hS hl.1  hr2 (tb t_1393 rfl) (by decide) (Nat.le_of_ble_eq_true rfl) dX11_ends_19 (fun H locs hP hS => ?_)
      refine r_if_eq (tgt := 42) X dX11_ends_22 (by decide) (fun q => ?_) (fun q => ?_)
      · replace hf := it_inv q hf
        exact a_X11_ends_42 X s3 H locs ls  hP hS hf (lv_sub hl [0] rfl)
      · replace hf := ie_inv q hf
        refine lv_iload_n X.1 X.2.1 dX11_ends_25 rfl (lv_at hl 2 rfl) ?_
        refine lv_aload_n X.1 X.2.1 dX11_ends_26 rfl (lv_at hl 0 rfl) ?_
        refine g_11_24 X hP ks_11 (tb t_1111 rfl) dX11_ends_27 ?_
        refine r_icmp_ge (tgt := 42) X dX11_ends_30 (by decide) (fun q => ?_) (fun q => ?_)
        · replace hf := it_inv q hf
          exact a_X11_ends_42 X s3 H locs ls  hP hS hf (lv_sub hl [0] rfl)
        · replace hf := ie_inv q hf
          refine lv_aload_n X.1 X.2.1 dX11_ends_33 rfl (lv_at hl 0 rfl) ?_
          refine g_11_32 (r := 132) X hP ks_11 rfl (tb t_1119 rfl) dX11_ends_34 ?_
          refine lv_iload_n X.1 X.2.1 dX11_ends_37 rfl (lv_at hl 2 rfl) ?_
          obtain ⟨j4, hij4, hjj4, hlj4, hf⟩ := ag_inv hf
          refine r_iald X hP (ch_11_32 ks_11).1 (ch_11_32 ks_11).2 hij4 hjj4 dX11_ends_38 ?_
          refine lv_goto (tgt := 47) X.1 X.2.1 dX11_ends_39 (by decide) ?_
          obtain ⟨rfl, rfl⟩ := so2_inv hf
          exact r_iret X hP hS dX11_ends_47
    · replace hf := ie_inv q hf
      exact a_X11_ends_11 X σ H locs ls  hP hS hf (lv_sub hl [0] rfl)
set_option maxHeartbeats 4000000 in
theorem c_X11_ends {l : Launch} {G : GT} {σ τ : Mem} {res : Int} {l1 : Int} {l2 : Int} (hf : X11_ends σ l1 l2 = some (res, τ)) : CT l yX11_ends cX11_ends 3 (some FieldType.int) 10 270 G [.ref (gh G + 111), .int (i32 l1), .int (i32 l2)] σ τ (some (.int (i32 res))) := by
  refine CT.mk (own := RX11) (by decide) rfl (Nat.le_of_ble_eq_true rfl) ?_
  intro p e s m below meth c ls X hP hS hl
  have hl : lv_has ls 3 [(0, .ref (gh G + 111)), (1, .int (i32 l1)), (2, .int (i32 l2))] := hl
  exact a_X11_ends_0 X σ s.heap [] ls l1 l2 hP hS hf hl
theorem k_X11_ends {p : Program} {l : Launch} {e : Env} {R : Room} {s : State} {m : MethodId} {args : Array Value} {below : List Frame} {meth : Method} {c : Code} {H : Heap} {locs : List Loc} {Q : State → Prop} {cc : ByteArray} {nL : Nat} {own : String} {ret : Option FieldType} {fF fL : Nat} {G : GT} {pc idx : Nat} {ls : Array Slot} {rest : List Value} {σ τ : Mem} {res : Int} {l1 : Int} {l2 : Int} (X : CX p R s m args meth c cc nL own ret fF fL G) (hP : PW G σ H) (hS : va_S (AA G) s.heap H locs) (hls : ls.size = nL) (hf : X11_ends σ l1 l2 = some (res, τ)) (h1 : Cond.methodLink own idx yX11_ends ∈ TB) (hR : 10 + 1 ≤ fF ∧ 8 + (3 + 11) + 270 ≤ fL) (hW : (rest.map fun v => v.category).sum ≤ 8) (hd : decode cc pc = .ok (.invokevirtual idx, 3)) (kk : ∀ (H1 : Heap) (locs1 : List Loc), PW G τ H1 → va_S (AA G) s.heap H1 locs1 → W p l e R s m args below meth c H1 locs1 0 0 Q (F0 m (pc + 3) ls (.int (i32 res) :: rest))) : W p l e R s m args below meth c H locs 0 0 Q (F0 m pc ls (.int (i32 l2) :: .int (i32 l1) :: .ref (gh G + 111) :: rest)) := r_callV (n := 2) X hP hS hls (c_X11_ends hf) h1 (tb t_1431 rfl) (tb t_1432 rfl) (tb t_87 rfl) (tb t_1433 rfl) (by decide +kernel) hR (r_recv X hP (kd_lt ks_11 (by decide)) (cE_11 ks_11) rfl) rfl rfl hW hd kk
/-! X11_feed -/
theorem dX11_feed_0 : decode cX11_feed 0 = .ok (.iload_n 2, 1) := by decide +kernel
theorem dX11_feed_1 : decode cX11_feed 1 = .ok (.i2l, 1) := by decide +kernel
theorem dX11_feed_2 : decode cX11_feed 2 = .ok (.lconst 1, 1) := by decide +kernel
theorem dX11_feed_3 : decode cX11_feed 3 = .ok (.ldc2_w 135, 3) := by decide +kernel
theorem dX11_feed_6 : decode cX11_feed 6 = .ok (.invokestatic 93, 3) := by decide +kernel
theorem dX11_feed_9 : decode cX11_feed 9 = .ok (.ifCond .ne 9, 3) := by decide +kernel
theorem dX11_feed_12 : decode cX11_feed 12 = .ok (.aload_n 0, 1) := by decide +kernel
theorem dX11_feed_13 : decode cX11_feed 13 = .ok (.iconst 0, 1) := by decide +kernel
theorem dX11_feed_14 : decode cX11_feed 14 = .ok (.invokevirtual 122, 3) := by decide +kernel
theorem dX11_feed_17 : decode cX11_feed 17 = .ok (.ireturn, 1) := by decide +kernel
theorem dX11_feed_18 : decode cX11_feed 18 = .ok (.aload_n 0, 1) := by decide +kernel
theorem dX11_feed_19 : decode cX11_feed 19 = .ok (.getfield 137, 3) := by decide +kernel
theorem dX11_feed_22 : decode cX11_feed 22 = .ok (.iload_n 2, 1) := by decide +kernel
theorem dX11_feed_23 : decode cX11_feed 23 = .ok (.iadd, 1) := by decide +kernel
theorem dX11_feed_24 : decode cX11_feed 24 = .ok (.bipush 120, 2) := by decide +kernel
theorem dX11_feed_26 : decode cX11_feed 26 = .ok (.if_icmp .le 9, 3) := by decide +kernel
theorem dX11_feed_29 : decode cX11_feed 29 = .ok (.aload_n 0, 1) := by decide +kernel
theorem dX11_feed_30 : decode cX11_feed 30 = .ok (.iconst 1, 1) := by decide +kernel
theorem dX11_feed_31 : decode cX11_feed 31 = .ok (.invokevirtual 122, 3) := by decide +kernel
theorem dX11_feed_34 : decode cX11_feed 34 = .ok (.ireturn, 1) := by decide +kernel
theorem dX11_feed_35 : decode cX11_feed 35 = .ok (.iload_n 2, 1) := by decide +kernel
theorem dX11_feed_36 : decode cX11_feed 36 = .ok (.iconst 1, 1) := by decide +kernel
theorem dX11_feed_37 : decode cX11_feed 37 = .ok (.isub, 1) := by decide +kernel
theorem dX11_feed_38 : decode cX11_feed 38 = .ok (.istore_n 3, 1) := by decide +kernel
theorem dX11_feed_39 : decode cX11_feed 39 = .ok (.iload_n 3, 1) := by decide +kernel
theorem dX11_feed_40 : decode cX11_feed 40 = .ok (.ifCond .lt 38, 3) := by decide +kernel
theorem dX11_feed_43 : decode cX11_feed 43 = .ok (.aload_n 0, 1) := by decide +kernel
theorem dX11_feed_44 : decode cX11_feed 44 = .ok (.getfield 19, 3) := by decide +kernel
theorem dX11_feed_47 : decode cX11_feed 47 = .ok (.aload_n 0, 1) := by decide +kernel
theorem dX11_feed_48 : decode cX11_feed 48 = .ok (.getfield 137, 3) := by decide +kernel
theorem dX11_feed_51 : decode cX11_feed 51 = .ok (.iload_n 1, 1) := by decide +kernel
theorem dX11_feed_52 : decode cX11_feed 52 = .ok (.bipush 8, 2) := by decide +kernel
theorem dX11_feed_54 : decode cX11_feed 54 = .ok (.iload_n 3, 1) := by decide +kernel
theorem dX11_feed_55 : decode cX11_feed 55 = .ok (.imul, 1) := by decide +kernel
theorem dX11_feed_56 : decode cX11_feed 56 = .ok (.ishr, 1) := by decide +kernel
theorem dX11_feed_57 : decode cX11_feed 57 = .ok (.sipush 255, 3) := by decide +kernel
theorem dX11_feed_60 : decode cX11_feed 60 = .ok (.iand, 1) := by decide +kernel
theorem dX11_feed_61 : decode cX11_feed 61 = .ok (.iastore, 1) := by decide +kernel
theorem dX11_feed_62 : decode cX11_feed 62 = .ok (.aload_n 0, 1) := by decide +kernel
theorem dX11_feed_63 : decode cX11_feed 63 = .ok (.dup, 1) := by decide +kernel
theorem dX11_feed_64 : decode cX11_feed 64 = .ok (.getfield 137, 3) := by decide +kernel
theorem dX11_feed_67 : decode cX11_feed 67 = .ok (.iconst 1, 1) := by decide +kernel
theorem dX11_feed_68 : decode cX11_feed 68 = .ok (.iadd, 1) := by decide +kernel
theorem dX11_feed_69 : decode cX11_feed 69 = .ok (.putfield 137, 3) := by decide +kernel
theorem dX11_feed_72 : decode cX11_feed 72 = .ok (.iinc 3 (-1), 3) := by decide +kernel
theorem dX11_feed_75 : decode cX11_feed 75 = .ok (.goto (-36), 3) := by decide +kernel
theorem dX11_feed_78 : decode cX11_feed 78 = .ok (.aload_n 0, 1) := by decide +kernel
theorem dX11_feed_79 : decode cX11_feed 79 = .ok (.getfield 137, 3) := by decide +kernel
theorem dX11_feed_82 : decode cX11_feed 82 = .ok (.ireturn, 1) := by decide +kernel
def S_X11_feed_39 (fn : Mem → Int → Int → Option (Int × Mem)) (p : Program) (l : Launch) (e : Env) (R : Room) (s : State) (m : MethodId) (args : Array Value) (below : List Frame) (meth : Method) (c : Code) (G : GT) (τ : Mem) (res : Int) : Prop := ∀ (σ : Mem) (H : Heap) (locs : List Loc) (ls : Array Slot) (l1 : Int) (l3 : Int), PW G σ H → va_S (AA G) s.heap H locs → fn σ l1 l3 = some (res, τ) → lv_has ls 4 [(0, .ref (gh G + 111)), (1, .int (i32 l1)), (3, .int (i32 l3))] → W p l e R s m args below meth c H locs 0 0 (MQ below (QM G (some (.int (i32 res))) τ) args s 0 0 (AA G)) (F0 m 39 ls [])
def X11_feed_B39 (rec39 : Mem → Int → Int → Option (Int × Mem)) (σ : Mem) (l1 : Int) (l3 : Int) : Option (Int × Mem) :=
  if w32 l3 < 0 then
    some (σ 111 5, σ)
  else
  ag 120 (σ 111 5) fun j1 =>
  lt (st σ 115 j1 (ian (isr l1 (8 * l3)) 255)) fun s2 =>
  lt (st s2 111 5 ((s2 111 5) + 1)) fun s3 =>
  lt (l3 + (-1)) fun l3_4 =>
  rec39 s3 l1 l3_4
def X11_feed_L39 : Nat → Mem → Int → Int → Option (Int × Mem)
  | 0 => fun _ _ _ => none
  | n + 1 => X11_feed_B39 (X11_feed_L39 n)
def X11_feed (σ : Mem) (l1 : Int) (l2 : Int) : Option (Int × Mem) :=
  bd (X11_in σ (w32 l2) 1 4) fun r1 =>
  if w32 r1 ≠ 0 then
    if w32 ((σ 111 5) + l2) ≤ w32 120 then
      lt (l2 - 1) fun l3_2 =>
      X11_feed_L39 5000 σ l1 l3_2
    else
    bd2 (X11_finds σ 1) fun r3 s4 =>
    some (r3, s4)
  else
  bd2 (X11_finds σ 0) fun r5 s6 =>
  some (r5, s6)
def S_X11_feed_0 (fn : Mem → Int → Int → Option (Int × Mem)) (p : Program) (l : Launch) (e : Env) (R : Room) (s : State) (m : MethodId) (args : Array Value) (below : List Frame) (meth : Method) (c : Code) (G : GT) (τ : Mem) (res : Int) : Prop := ∀ (σ : Mem) (H : Heap) (locs : List Loc) (ls : Array Slot) (l1 : Int) (l2 : Int), PW G σ H → va_S (AA G) s.heap H locs → fn σ l1 l2 = some (res, τ) → lv_has ls 4 [(0, .ref (gh G + 111)), (1, .int (i32 l1)), (2, .int (i32 l2))] → W p l e R s m args below meth c H locs 0 0 (MQ below (QM G (some (.int (i32 res))) τ) args s 0 0 (AA G)) (F0 m 0 ls [])
set_option maxHeartbeats 4000000 in
theorem a_X11_feed_39 {p : Program} {l : Launch} {e : Env} {R : Room} {s : State} {m : MethodId} {args : Array Value} {below : List Frame} {meth : Method} {c : Code} {G : GT} {τ : Mem} {res : Int} {rec39 : Mem → Int → Int → Option (Int × Mem)} (X : CX p R s m args meth c cX11_feed 4 RX11 (some FieldType.int) 2 85 G) (h39 : S_X11_feed_39 rec39 p l e R s m args below meth c G τ res) : S_X11_feed_39 (X11_feed_B39 rec39) p l e R s m args below meth c G τ res := by
  intro σ H locs ls l1 l3 hP hS hf hl
  unfold X11_feed_B39 at hf
  refine lv_iload_n X.1 X.2.1 dX11_feed_39 rfl (lv_at hl 2 rfl) ?_
  refine r_if_lt (tgt := 78) X dX11_feed_40 (by decide) (fun q => ?_) (fun q => ?_)
  · replace hf := it_inv q hf
    refine lv_aload_n X.1 X.2.1 dX11_feed_78 rfl (lv_at hl 0 rfl) ?_
    refine g_11_5 X hP ks_11 (tb t_1092 rfl) dX11_feed_79 ?_
    obtain ⟨rfl, rfl⟩ := so2_inv hf
    exact r_iret X hP hS dX11_feed_82
  · replace hf := ie_inv q hf
    refine lv_aload_n X.1 X.2.1 dX11_feed_43 rfl (lv_at hl 0 rfl) ?_
    refine g_11_4 (r := 115) X hP ks_11 rfl (tb t_1091 rfl) dX11_feed_44 ?_
    refine lv_aload_n X.1 X.2.1 dX11_feed_47 rfl (lv_at hl 0 rfl) ?_
    refine g_11_5 X hP ks_11 (tb t_1092 rfl) dX11_feed_48 ?_
    refine lv_iload_n X.1 X.2.1 dX11_feed_51 rfl (lv_at hl 1 rfl) ?_
    refine r_bipush X 8 (by decide) dX11_feed_52 ?_
    refine lv_iload_n X.1 X.2.1 dX11_feed_54 rfl (lv_at hl 2 rfl) ?_
    refine r_imul X dX11_feed_55 ?_
    refine r_ishr X dX11_feed_56 ?_
    refine r_sipush X 255 (by decide) dX11_feed_57 ?_
    refine r_iand X dX11_feed_60 ?_
    obtain ⟨j1, hij1, hjj1, hlj1, hf⟩ := ag_inv hf
    refine r_iast X hP hS (ch_11_4 ks_11).1 (ch_11_4 ks_11).2 hij1 hjj1 dX11_feed_61 (fun H locs hP hS => ?_)
    obtain ⟨s2, es2, hf⟩ := lt_inv hf
    rw [es2] at hP
    refine lv_aload_n X.1 X.2.1 dX11_feed_62 rfl (lv_at hl 0 rfl) ?_
    refine lv_dup X.1 X.2.1 dX11_feed_63 rfl ?_
    refine g_11_5 X hP ks_11 (tb t_1092 rfl) dX11_feed_64 ?_
    refine r_iconst X 1 dX11_feed_67 ?_
    refine r_iadd X dX11_feed_68 ?_
    refine p_11_5 X hP hS ks_11 (tb t_1092 rfl) dX11_feed_69 (fun H locs hP hS => ?_)
    obtain ⟨s3, es3, hf⟩ := lt_inv hf
    rw [es3] at hP
    obtain ⟨l3_4, el3_4, hf⟩ := lt_inv hf
    refine lv_iinc (v := i32 l3_4) (lv' := [(3, .int (i32 l3_4)), (0, .ref (gh G + 111)), (1, .int (i32 l1))]) X.1 X.2.1 dX11_feed_72 hl (k := 2) rfl (by rw [← el3_4]; exact i32_add _ _) (by decide) rfl (fun ls hl => ?_)
    refine lv_goto (tgt := 39) X.1 X.2.1 dX11_feed_75 (by decide) ?_
    exact h39 s3 H locs ls l1 l3_4 hP hS hf (lv_sub hl [1, 2, 0] rfl)
theorem al_X11_feed_39 {p : Program} {l : Launch} {e : Env} {R : Room} {s : State} {m : MethodId} {args : Array Value} {below : List Frame} {meth : Method} {c : Code} {G : GT} {τ : Mem} {res : Int} (X : CX p R s m args meth c cX11_feed 4 RX11 (some FieldType.int) 2 85 G) : ∀ n, S_X11_feed_39 (X11_feed_L39 n) p l e R s m args below meth c G τ res := by
  intro n
  induction n with
  | zero =>
    intro σ H locs ls l1 l3 hP hS hf hl
    cases hf
  | succ n ih => exact a_X11_feed_39 X ih
set_option maxHeartbeats 4000000 in
theorem a_X11_feed_0 {p : Program} {l : Launch} {e : Env} {R : Room} {s : State} {m : MethodId} {args : Array Value} {below : List Frame} {meth : Method} {c : Code} {G : GT} {τ : Mem} {res : Int} (X : CX p R s m args meth c cX11_feed 4 RX11 (some FieldType.int) 2 85 G) : S_X11_feed_0 (X11_feed) p l e R s m args below meth c G τ res := by
  intro σ H locs ls l1 l2 hP hS hf hl
  unfold X11_feed at hf
  refine lv_iload_n X.1 X.2.1 dX11_feed_0 rfl (lv_at hl 2 rfl) ?_
  refine r_i2l X dX11_feed_1 ?_
  refine r_lconst X 1 1 (by decide) dX11_feed_2 ?_
  refine r_ldc2 X 4 (tb t_1237 rfl) (by decide) dX11_feed_3 ?_
  obtain ⟨r1, hr1, hf⟩ := bd_inv hf
  refine k_X11_in X hP hS hl.1  hr1 (tb t_1208 rfl) (by decide) (Nat.le_of_ble_eq_true rfl) dX11_feed_6 (fun H locs hP hS => ?_)
  refine r_if_ne (tgt := 18) X dX11_feed_9 (by decide) (fun q => ?_) (fun q => ?_)
  · replace hf := it_inv q hf
    refine lv_aload_n X.1 X.2.1 dX11_feed_18 rfl (lv_at hl 0 rfl) ?_
    refine g_11_5 X hP ks_11 (tb t_1092 rfl) dX11_feed_19 ?_
    refine lv_iload_n X.1 X.2.1 dX11_feed_22 rfl (lv_at hl 2 rfl) ?_
    refine r_iadd X dX11_feed_23 ?_
    refine r_bipush X 120 (by decide) dX11_feed_24 ?_
    refine r_icmp_le (tgt := 35) X dX11_feed_26 (by decide) (fun q => ?_) (fun q => ?_)
    · replace hf := it_inv q hf
      refine lv_iload_n X.1 X.2.1 dX11_feed_35 rfl (lv_at hl 2 rfl) ?_
      refine r_iconst X 1 dX11_feed_36 ?_
      refine r_isub X dX11_feed_37 ?_
      obtain ⟨l3_2, el3_2, hf⟩ := lt_inv hf
      refine r_eqi el3_2 ?_
      refine lv_istore_n (lv' := [(3, .int (i32 l3_2)), (0, .ref (gh G + 111)), (1, .int (i32 l1)), (2, .int (i32 l2))]) X.1 X.2.1 dX11_feed_38 rfl hl (by decide) rfl (fun ls hl => ?_)
      exact al_X11_feed_39 X 5000 σ H locs ls l1 l3_2 hP hS hf (lv_sub hl [1, 2, 0] rfl)
    · replace hf := ie_inv q hf
      refine lv_aload_n X.1 X.2.1 dX11_feed_29 rfl (lv_at hl 0 rfl) ?_
      refine r_iconst X 1 dX11_feed_30 ?_
      obtain ⟨r3, s4, hr3, hf⟩ := bd2_inv hf
      refine k_X11_finds X hP hS hl.1  hr3 (tb t_1219 rfl) (by decide) (Nat.le_of_ble_eq_true rfl) dX11_feed_31 (fun H locs hP hS => ?_)
      obtain ⟨rfl, rfl⟩ := so2_inv hf
      exact r_iret X hP hS dX11_feed_34
  · replace hf := ie_inv q hf
    refine lv_aload_n X.1 X.2.1 dX11_feed_12 rfl (lv_at hl 0 rfl) ?_
    refine r_iconst X 0 dX11_feed_13 ?_
    obtain ⟨r5, s6, hr5, hf⟩ := bd2_inv hf
    refine k_X11_finds X hP hS hl.1  hr5 (tb t_1219 rfl) (by decide) (Nat.le_of_ble_eq_true rfl) dX11_feed_14 (fun H locs hP hS => ?_)
    obtain ⟨rfl, rfl⟩ := so2_inv hf
    exact r_iret X hP hS dX11_feed_17
set_option maxHeartbeats 4000000 in
theorem c_X11_feed {l : Launch} {G : GT} {σ τ : Mem} {res : Int} {l1 : Int} {l2 : Int} (hf : X11_feed σ l1 l2 = some (res, τ)) : CT l yX11_feed cX11_feed 4 (some FieldType.int) 2 85 G [.ref (gh G + 111), .int (i32 l1), .int (i32 l2)] σ τ (some (.int (i32 res))) := by
  refine CT.mk (own := RX11) (by decide) rfl (Nat.le_of_ble_eq_true rfl) ?_
  intro p e s m below meth c ls X hP hS hl
  have hl : lv_has ls 4 [(0, .ref (gh G + 111)), (1, .int (i32 l1)), (2, .int (i32 l2))] := hl
  exact a_X11_feed_0 X σ s.heap [] ls l1 l2 hP hS hf hl
theorem k_X11_feed {p : Program} {l : Launch} {e : Env} {R : Room} {s : State} {m : MethodId} {args : Array Value} {below : List Frame} {meth : Method} {c : Code} {H : Heap} {locs : List Loc} {Q : State → Prop} {cc : ByteArray} {nL : Nat} {own : String} {ret : Option FieldType} {fF fL : Nat} {G : GT} {pc idx : Nat} {ls : Array Slot} {rest : List Value} {σ τ : Mem} {res : Int} {l1 : Int} {l2 : Int} (X : CX p R s m args meth c cc nL own ret fF fL G) (hP : PW G σ H) (hS : va_S (AA G) s.heap H locs) (hls : ls.size = nL) (hf : X11_feed σ l1 l2 = some (res, τ)) (h1 : Cond.methodLink own idx yX11_feed ∈ TB) (hR : 2 + 1 ≤ fF ∧ 8 + (4 + 11) + 85 ≤ fL) (hW : (rest.map fun v => v.category).sum ≤ 8) (hd : decode cc pc = .ok (.invokevirtual idx, 3)) (kk : ∀ (H1 : Heap) (locs1 : List Loc), PW G τ H1 → va_S (AA G) s.heap H1 locs1 → W p l e R s m args below meth c H1 locs1 0 0 Q (F0 m (pc + 3) ls (.int (i32 res) :: rest))) : W p l e R s m args below meth c H locs 0 0 Q (F0 m pc ls (.int (i32 l2) :: .int (i32 l1) :: .ref (gh G + 111) :: rest)) := r_callV (n := 2) X hP hS hls (c_X11_feed hf) h1 (tb t_1234 rfl) (tb t_1235 rfl) (tb t_87 rfl) (tb t_1236 rfl) (by decide +kernel) hR (r_recv X hP (kd_lt ks_11 (by decide)) (cE_11 ks_11) rfl) rfl rfl hW hd kk
/-! X11_ones -/
theorem dX11_ones_0 : decode cX11_ones 0 = .ok (.iconst 0, 1) := by decide +kernel
theorem dX11_ones_1 : decode cX11_ones 1 = .ok (.istore_n 1, 1) := by decide +kernel
theorem dX11_ones_2 : decode cX11_ones 2 = .ok (.iload_n 0, 1) := by decide +kernel
theorem dX11_ones_3 : decode cX11_ones 3 = .ok (.istore_n 2, 1) := by decide +kernel
theorem dX11_ones_4 : decode cX11_ones 4 = .ok (.iload_n 2, 1) := by decide +kernel
theorem dX11_ones_5 : decode cX11_ones 5 = .ok (.ifCond .eq 15, 3) := by decide +kernel
theorem dX11_ones_8 : decode cX11_ones 8 = .ok (.iinc 1 1, 3) := by decide +kernel
theorem dX11_ones_11 : decode cX11_ones 11 = .ok (.iload_n 2, 1) := by decide +kernel
theorem dX11_ones_12 : decode cX11_ones 12 = .ok (.iload_n 2, 1) := by decide +kernel
theorem dX11_ones_13 : decode cX11_ones 13 = .ok (.iconst 1, 1) := by decide +kernel
theorem dX11_ones_14 : decode cX11_ones 14 = .ok (.isub, 1) := by decide +kernel
theorem dX11_ones_15 : decode cX11_ones 15 = .ok (.iand, 1) := by decide +kernel
theorem dX11_ones_16 : decode cX11_ones 16 = .ok (.istore_n 2, 1) := by decide +kernel
theorem dX11_ones_17 : decode cX11_ones 17 = .ok (.goto (-13), 3) := by decide +kernel
theorem dX11_ones_20 : decode cX11_ones 20 = .ok (.iload_n 1, 1) := by decide +kernel
theorem dX11_ones_21 : decode cX11_ones 21 = .ok (.ireturn, 1) := by decide +kernel
def S_X11_ones_4 (fn : Int → Int → Option (Int)) (p : Program) (l : Launch) (e : Env) (R : Room) (s : State) (m : MethodId) (args : Array Value) (below : List Frame) (meth : Method) (c : Code) (G : GT) (σ : Mem) (res : Int) : Prop := ∀ (H : Heap) (locs : List Loc) (ls : Array Slot) (l1 : Int) (l2 : Int), PW G σ H → va_S (AA G) s.heap H locs → fn l1 l2 = some res → lv_has ls 3 [(1, .int (i32 l1)), (2, .int (i32 l2))] → W p l e R s m args below meth c H locs 0 0 (MQ below (QM G (some (.int (i32 res))) σ) args s 0 0 (AA G)) (F0 m 4 ls [])
def X11_ones_B4 (rec4 : Int → Int → Option (Int)) (σ : Mem) (l1 : Int) (l2 : Int) : Option (Int) :=
  if w32 l2 = 0 then
    some l1
  else
  lt (l1 + 1) fun l1_1 =>
  lt (ian l2 (l2 - 1)) fun l2_2 =>
  rec4 l1_1 l2_2
def X11_ones_L4 (σ : Mem) : Nat → Int → Int → Option (Int)
  | 0 => fun _ _ => none
  | n + 1 => X11_ones_B4 (X11_ones_L4 σ n) σ
def X11_ones (σ : Mem) (l0 : Int) : Option (Int) :=
  X11_ones_L4 σ 5000 0 l0
def S_X11_ones_0 (fn : Int → Option (Int)) (p : Program) (l : Launch) (e : Env) (R : Room) (s : State) (m : MethodId) (args : Array Value) (below : List Frame) (meth : Method) (c : Code) (G : GT) (σ : Mem) (res : Int) : Prop := ∀ (H : Heap) (locs : List Loc) (ls : Array Slot) (l0 : Int), PW G σ H → va_S (AA G) s.heap H locs → fn l0 = some res → lv_has ls 3 [(0, .int (i32 l0))] → W p l e R s m args below meth c H locs 0 0 (MQ below (QM G (some (.int (i32 res))) σ) args s 0 0 (AA G)) (F0 m 0 ls [])
set_option maxHeartbeats 4000000 in
theorem a_X11_ones_4 {p : Program} {l : Launch} {e : Env} {R : Room} {s : State} {m : MethodId} {args : Array Value} {below : List Frame} {meth : Method} {c : Code} {G : GT} {σ : Mem} {res : Int} {rec4 : Int → Int → Option (Int)} (X : CX p R s m args meth c cX11_ones 3 RX11 (some FieldType.int) 1 60 G) (h4 : S_X11_ones_4 rec4 p l e R s m args below meth c G σ res) : S_X11_ones_4 (X11_ones_B4 rec4 σ) p l e R s m args below meth c G σ res := by
  intro H locs ls l1 l2 hP hS hf hl
  unfold X11_ones_B4 at hf
  refine lv_iload_n X.1 X.2.1 dX11_ones_4 rfl (lv_at hl 1 rfl) ?_
  refine r_if_eq (tgt := 20) X dX11_ones_5 (by decide) (fun q => ?_) (fun q => ?_)
  · replace hf := it_inv q hf
    refine lv_iload_n X.1 X.2.1 dX11_ones_20 rfl (lv_at hl 0 rfl) ?_
    cases so_inv hf
    exact r_iret X hP hS dX11_ones_21
  · replace hf := ie_inv q hf
    obtain ⟨l1_1, el1_1, hf⟩ := lt_inv hf
    refine lv_iinc (v := i32 l1_1) (lv' := [(1, .int (i32 l1_1)), (2, .int (i32 l2))]) X.1 X.2.1 dX11_ones_8 hl (k := 0) rfl (by rw [← el1_1]; exact i32_add _ _) (by decide) rfl (fun ls hl => ?_)
    refine lv_iload_n X.1 X.2.1 dX11_ones_11 rfl (lv_at hl 1 rfl) ?_
    refine lv_iload_n X.1 X.2.1 dX11_ones_12 rfl (lv_at hl 1 rfl) ?_
    refine r_iconst X 1 dX11_ones_13 ?_
    refine r_isub X dX11_ones_14 ?_
    refine r_iand X dX11_ones_15 ?_
    obtain ⟨l2_2, el2_2, hf⟩ := lt_inv hf
    refine r_eqi el2_2 ?_
    refine lv_istore_n (lv' := [(2, .int (i32 l2_2)), (1, .int (i32 l1_1))]) X.1 X.2.1 dX11_ones_16 rfl hl (by decide) rfl (fun ls hl => ?_)
    refine lv_goto (tgt := 4) X.1 X.2.1 dX11_ones_17 (by decide) ?_
    exact h4  H locs ls l1_1 l2_2 hP hS hf (lv_sub hl [1, 0] rfl)
theorem al_X11_ones_4 {p : Program} {l : Launch} {e : Env} {R : Room} {s : State} {m : MethodId} {args : Array Value} {below : List Frame} {meth : Method} {c : Code} {G : GT} {σ : Mem} {res : Int} (X : CX p R s m args meth c cX11_ones 3 RX11 (some FieldType.int) 1 60 G) : ∀ n, S_X11_ones_4 (X11_ones_L4 σ n) p l e R s m args below meth c G σ res := by
  intro n
  induction n with
  | zero =>
    intro H locs ls l1 l2 hP hS hf hl
    cases hf
  | succ n ih => exact a_X11_ones_4 X ih
set_option maxHeartbeats 4000000 in
theorem a_X11_ones_0 {p : Program} {l : Launch} {e : Env} {R : Room} {s : State} {m : MethodId} {args : Array Value} {below : List Frame} {meth : Method} {c : Code} {G : GT} {σ : Mem} {res : Int} (X : CX p R s m args meth c cX11_ones 3 RX11 (some FieldType.int) 1 60 G) : S_X11_ones_0 (X11_ones σ) p l e R s m args below meth c G σ res := by
  intro H locs ls l0 hP hS hf hl
  unfold X11_ones at hf
  refine r_iconst X 0 dX11_ones_0 ?_
  refine lv_istore_n (lv' := [(1, .int (i32 0)), (0, .int (i32 l0))]) X.1 X.2.1 dX11_ones_1 rfl hl (by decide) rfl (fun ls hl => ?_)
  refine lv_iload_n X.1 X.2.1 dX11_ones_2 rfl (lv_at hl 1 rfl) ?_
  refine lv_istore_n (lv' := [(2, .int (i32 l0)), (1, .int (i32 0)), (0, .int (i32 l0))]) X.1 X.2.1 dX11_ones_3 rfl hl (by decide) rfl (fun ls hl => ?_)
  exact al_X11_ones_4 X 5000  H locs ls 0 l0 hP hS hf (lv_sub hl [1, 0] rfl)
set_option maxHeartbeats 4000000 in
theorem c_X11_ones {l : Launch} {G : GT} {σ : Mem} {res : Int} {l0 : Int} (hf : X11_ones σ l0 = some res) : CT l yX11_ones cX11_ones 3 (some FieldType.int) 1 60 G [.int (i32 l0)] σ σ (some (.int (i32 res))) := by
  refine CT.mk (own := RX11) (by decide) rfl (Nat.le_of_ble_eq_true rfl) ?_
  intro p e s m below meth c ls X hP hS hl
  have hl : lv_has ls 3 [(0, .int (i32 l0))] := hl
  exact a_X11_ones_0 X  s.heap [] ls l0 hP hS hf hl
theorem k_X11_ones {p : Program} {l : Launch} {e : Env} {R : Room} {s : State} {m : MethodId} {args : Array Value} {below : List Frame} {meth : Method} {c : Code} {H : Heap} {locs : List Loc} {Q : State → Prop} {cc : ByteArray} {nL : Nat} {own : String} {ret : Option FieldType} {fF fL : Nat} {G : GT} {pc idx : Nat} {ls : Array Slot} {rest : List Value} {σ : Mem} {res : Int} {l0 : Int} (X : CX p R s m args meth c cc nL own ret fF fL G) (hP : PW G σ H) (hS : va_S (AA G) s.heap H locs) (hls : ls.size = nL) (hf : X11_ones σ l0 = some res) (h1 : Cond.methodLink own idx yX11_ones ∈ TB) (hR : 1 + 1 ≤ fF ∧ 8 + (3 + 11) + 60 ≤ fL) (hW : (rest.map fun v => v.category).sum ≤ 8) (hd : decode cc pc = .ok (.invokestatic idx, 3)) (kk : ∀ (H1 : Heap) (locs1 : List Loc), PW G σ H1 → va_S (AA G) s.heap H1 locs1 → W p l e R s m args below meth c H1 locs1 0 0 Q (F0 m (pc + 3) ls (.int (i32 res) :: rest))) : W p l e R s m args below meth c H locs 0 0 Q (F0 m pc ls (.int (i32 l0) :: rest)) := r_callS (n := 1) X hP hS hls (c_X11_ones hf) h1 (tb t_1451 rfl) (tb t_87 rfl) (tb t_1452 rfl) (by decide +kernel) hR rfl rfl hW hd kk
theorem kn_X11_ones {p : Program} {l : Launch} {e : Env} {R : Room} {s : State} {m : MethodId} {args : Array Value} {below : List Frame} {meth : Method} {c : Code} {H : Heap} {locs : List Loc} {Q : State → Prop} {cc : ByteArray} {nL : Nat} {own : String} {ret : Option FieldType} {fF fL : Nat} {G : GT} {pc idx : Nat} {ls : Array Slot} {rest : List Value} {σ : Mem} {res : Int} {l0 : Int} (X : CX p R s m args meth c cc nL own ret fF fL G) (hP : PW G σ H) (hS : va_S (AA G) s.heap H locs) (hls : ls.size = nL) (hf : X11_ones σ l0 = some res) {host : String} (h1 : Cond.methodLinkNest own idx yX11_ones host ∈ NWl) (hR : 1 + 1 ≤ fF ∧ 8 + (3 + 11) + 60 ≤ fL) (hW : (rest.map fun v => v.category).sum ≤ 8) (hd : decode cc pc = .ok (.invokestatic idx, 3)) (kk : ∀ (H1 : Heap) (locs1 : List Loc), PW G σ H1 → va_S (AA G) s.heap H1 locs1 → W p l e R s m args below meth c H1 locs1 0 0 Q (F0 m (pc + 3) ls (.int (i32 res) :: rest))) : W p l e R s m args below meth c H locs 0 0 Q (F0 m pc ls (.int (i32 l0) :: rest)) := r_callSN (n := 1) X hP hS hls (c_X11_ones hf) h1 (tb t_1451 rfl) (tb t_87 rfl) (tb t_1452 rfl) (by decide +kernel) hR rfl rfl hW hd kk
/-! X11_stopsOf -/
theorem dX11_stopsOf_0 : decode cX11_stopsOf 0 = .ok (.aload_n 0, 1) := by decide +kernel
theorem dX11_stopsOf_1 : decode cX11_stopsOf 1 = .ok (.iload_n 1, 1) := by decide +kernel
theorem dX11_stopsOf_2 : decode cX11_stopsOf 2 = .ok (.invokevirtual 286, 3) := by decide +kernel
theorem dX11_stopsOf_5 : decode cX11_stopsOf 5 = .ok (.ifCond .eq 12, 3) := by decide +kernel
theorem dX11_stopsOf_8 : decode cX11_stopsOf 8 = .ok (.aload_n 0, 1) := by decide +kernel
theorem dX11_stopsOf_9 : decode cX11_stopsOf 9 = .ok (.getfield 38, 3) := by decide +kernel
theorem dX11_stopsOf_12 : decode cX11_stopsOf 12 = .ok (.iconst 0, 1) := by decide +kernel
theorem dX11_stopsOf_13 : decode cX11_stopsOf 13 = .ok (.iaload, 1) := by decide +kernel
theorem dX11_stopsOf_14 : decode cX11_stopsOf 14 = .ok (.goto 4, 3) := by decide +kernel
theorem dX11_stopsOf_17 : decode cX11_stopsOf 17 = .ok (.iconst (-1), 1) := by decide +kernel
theorem dX11_stopsOf_18 : decode cX11_stopsOf 18 = .ok (.ireturn, 1) := by decide +kernel
def X11_stopsOf (σ : Mem) (l1 : Int) : Option (Int × Mem) :=
  bd2 (X11_lays σ l1) fun r1 s2 =>
  if w32 r1 = 0 then
    some ((-1), s2)
  else
  ag 1681 0 fun j3 =>
  some (s2 121 j3, s2)
def S_X11_stopsOf_0 (fn : Mem → Int → Option (Int × Mem)) (p : Program) (l : Launch) (e : Env) (R : Room) (s : State) (m : MethodId) (args : Array Value) (below : List Frame) (meth : Method) (c : Code) (G : GT) (τ : Mem) (res : Int) : Prop := ∀ (σ : Mem) (H : Heap) (locs : List Loc) (ls : Array Slot) (l1 : Int), PW G σ H → va_S (AA G) s.heap H locs → fn σ l1 = some (res, τ) → lv_has ls 2 [(0, .ref (gh G + 111)), (1, .int (i32 l1))] → W p l e R s m args below meth c H locs 0 0 (MQ below (QM G (some (.int (i32 res))) τ) args s 0 0 (AA G)) (F0 m 0 ls [])
set_option maxHeartbeats 4000000 in
theorem a_X11_stopsOf_0 {p : Program} {l : Launch} {e : Env} {R : Room} {s : State} {m : MethodId} {args : Array Value} {below : List Frame} {meth : Method} {c : Code} {G : GT} {τ : Mem} {res : Int} (X : CX p R s m args meth c cX11_stopsOf 2 RX11 (some FieldType.int) 9 245 G) : S_X11_stopsOf_0 (X11_stopsOf) p l e R s m args below meth c G τ res := by
  intro σ H locs ls l1 hP hS hf hl
  unfold X11_stopsOf at hf
  refine lv_aload_n X.1 X.2.1 dX11_stopsOf_0 rfl (lv_at hl 0 rfl) ?_
  refine lv_iload_n X.1 X.2.1 dX11_stopsOf_1 rfl (lv_at hl 1 rfl) ?_
  obtain ⟨r1, s2, hr1, hf⟩ := bd2_inv hf
  refine k_X11_lays X hP hS hl.1  hr1 (tb t_1401 rfl) (by decide) (Nat.le_of_ble_eq_true rfl) dX11_stopsOf_2 (fun H locs hP hS => ?_)
  refine r_if_eq (tgt := 17) X dX11_stopsOf_5 (by decide) (fun q => ?_) (fun q => ?_)
  · replace hf := it_inv q hf
    refine r_iconst X (-1) dX11_stopsOf_17 ?_
    obtain ⟨rfl, rfl⟩ := so2_inv hf
    exact r_iret X hP hS dX11_stopsOf_18
  · replace hf := ie_inv q hf
    refine lv_aload_n X.1 X.2.1 dX11_stopsOf_8 rfl (lv_at hl 0 rfl) ?_
    refine g_11_18 (r := 121) X hP ks_11 rfl (tb t_1105 rfl) dX11_stopsOf_9 ?_
    refine r_iconst X 0 dX11_stopsOf_12 ?_
    obtain ⟨j3, hij3, hjj3, hlj3, hf⟩ := ag_inv hf
    refine r_iald X hP (ch_11_18 ks_11).1 (ch_11_18 ks_11).2 hij3 hjj3 dX11_stopsOf_13 ?_
    refine lv_goto (tgt := 18) X.1 X.2.1 dX11_stopsOf_14 (by decide) ?_
    obtain ⟨rfl, rfl⟩ := so2_inv hf
    exact r_iret X hP hS dX11_stopsOf_18
set_option maxHeartbeats 4000000 in
theorem c_X11_stopsOf {l : Launch} {G : GT} {σ τ : Mem} {res : Int} {l1 : Int} (hf : X11_stopsOf σ l1 = some (res, τ)) : CT l yX11_stopsOf cX11_stopsOf 2 (some FieldType.int) 9 245 G [.ref (gh G + 111), .int (i32 l1)] σ τ (some (.int (i32 res))) := by
  refine CT.mk (own := RX11) (by decide) rfl (Nat.le_of_ble_eq_true rfl) ?_
  intro p e s m below meth c ls X hP hS hl
  have hl : lv_has ls 2 [(0, .ref (gh G + 111)), (1, .int (i32 l1))] := hl
  exact a_X11_stopsOf_0 X σ s.heap [] ls l1 hP hS hf hl
theorem k_X11_stopsOf {p : Program} {l : Launch} {e : Env} {R : Room} {s : State} {m : MethodId} {args : Array Value} {below : List Frame} {meth : Method} {c : Code} {H : Heap} {locs : List Loc} {Q : State → Prop} {cc : ByteArray} {nL : Nat} {own : String} {ret : Option FieldType} {fF fL : Nat} {G : GT} {pc idx : Nat} {ls : Array Slot} {rest : List Value} {σ τ : Mem} {res : Int} {l1 : Int} (X : CX p R s m args meth c cc nL own ret fF fL G) (hP : PW G σ H) (hS : va_S (AA G) s.heap H locs) (hls : ls.size = nL) (hf : X11_stopsOf σ l1 = some (res, τ)) (h1 : Cond.methodLink own idx yX11_stopsOf ∈ TB) (hR : 9 + 1 ≤ fF ∧ 8 + (2 + 11) + 245 ≤ fL) (hW : (rest.map fun v => v.category).sum ≤ 8) (hd : decode cc pc = .ok (.invokevirtual idx, 3)) (kk : ∀ (H1 : Heap) (locs1 : List Loc), PW G τ H1 → va_S (AA G) s.heap H1 locs1 → W p l e R s m args below meth c H1 locs1 0 0 Q (F0 m (pc + 3) ls (.int (i32 res) :: rest))) : W p l e R s m args below meth c H locs 0 0 Q (F0 m pc ls (.int (i32 l1) :: .ref (gh G + 111) :: rest)) := r_callV (n := 1) X hP hS hls (c_X11_stopsOf hf) h1 (tb t_1444 rfl) (tb t_65 rfl) (tb t_87 rfl) (tb t_1445 rfl) (by decide +kernel) hR (r_recv X hP (kd_lt ks_11 (by decide)) (cE_11 ks_11) rfl) rfl rfl hW hd kk
/-! X11_folds -/
theorem dX11_folds_0 : decode cX11_folds 0 = .ok (.iload_n 1, 1) := by decide +kernel
theorem dX11_folds_1 : decode cX11_folds 1 = .ok (.invokestatic 97, 3) := by decide +kernel
theorem dX11_folds_4 : decode cX11_folds 4 = .ok (.ifCond .ne 9, 3) := by decide +kernel
theorem dX11_folds_7 : decode cX11_folds 7 = .ok (.aload_n 0, 1) := by decide +kernel
theorem dX11_folds_8 : decode cX11_folds 8 = .ok (.iconst 0, 1) := by decide +kernel
theorem dX11_folds_9 : decode cX11_folds 9 = .ok (.invokevirtual 122, 3) := by decide +kernel
theorem dX11_folds_12 : decode cX11_folds 12 = .ok (.ireturn, 1) := by decide +kernel
theorem dX11_folds_13 : decode cX11_folds 13 = .ok (.aload_n 0, 1) := by decide +kernel
theorem dX11_folds_14 : decode cX11_folds 14 = .ok (.iload_n 1, 1) := by decide +kernel
theorem dX11_folds_15 : decode cX11_folds 15 = .ok (.invokevirtual 283, 3) := by decide +kernel
theorem dX11_folds_18 : decode cX11_folds 18 = .ok (.iload_n 1, 1) := by decide +kernel
theorem dX11_folds_19 : decode cX11_folds 19 = .ok (.invokestatic 86, 3) := by decide +kernel
theorem dX11_folds_22 : decode cX11_folds 22 = .ok (.iconst 3, 1) := by decide +kernel
theorem dX11_folds_23 : decode cX11_folds 23 = .ok (.iadd, 1) := by decide +kernel
theorem dX11_folds_24 : decode cX11_folds 24 = .ok (.istore_n 2, 1) := by decide +kernel
theorem dX11_folds_25 : decode cX11_folds 25 = .ok (.aload_n 0, 1) := by decide +kernel
theorem dX11_folds_26 : decode cX11_folds 26 = .ok (.getfield 9, 3) := by decide +kernel
theorem dX11_folds_29 : decode cX11_folds 29 = .ok (.iload_n 2, 1) := by decide +kernel
theorem dX11_folds_30 : decode cX11_folds 30 = .ok (.iaload, 1) := by decide +kernel
theorem dX11_folds_31 : decode cX11_folds 31 = .ok (.istore_n 3, 1) := by decide +kernel
theorem dX11_folds_32 : decode cX11_folds 32 = .ok (.iconst (-1), 1) := by decide +kernel
theorem dX11_folds_33 : decode cX11_folds 33 = .ok (.istore 4, 2) := by decide +kernel
theorem dX11_folds_35 : decode cX11_folds 35 = .ok (.iconst 0, 1) := by decide +kernel
theorem dX11_folds_36 : decode cX11_folds 36 = .ok (.istore 5, 2) := by decide +kernel
theorem dX11_folds_38 : decode cX11_folds 38 = .ok (.iload 5, 2) := by decide +kernel
theorem dX11_folds_40 : decode cX11_folds 40 = .ok (.sipush 342, 3) := by decide +kernel
theorem dX11_folds_43 : decode cX11_folds 43 = .ok (.if_icmp .ge 64, 3) := by decide +kernel
theorem dX11_folds_46 : decode cX11_folds 46 = .ok (.iload 5, 2) := by decide +kernel
theorem dX11_folds_48 : decode cX11_folds 48 = .ok (.sipush (-342), 3) := by decide +kernel
theorem dX11_folds_51 : decode cX11_folds 51 = .ok (.iand, 1) := by decide +kernel
theorem dX11_folds_52 : decode cX11_folds 52 = .ok (.ifCond .ne 49, 3) := by decide +kernel
theorem dX11_folds_55 : decode cX11_folds 55 = .ok (.iload 4, 2) := by decide +kernel
theorem dX11_folds_57 : decode cX11_folds 57 = .ok (.ifCond .lt 19, 3) := by decide +kernel
theorem dX11_folds_60 : decode cX11_folds 60 = .ok (.iload 5, 2) := by decide +kernel
theorem dX11_folds_62 : decode cX11_folds 62 = .ok (.invokestatic 306, 3) := by decide +kernel
theorem dX11_folds_65 : decode cX11_folds 65 = .ok (.iload 4, 2) := by decide +kernel
theorem dX11_folds_67 : decode cX11_folds 67 = .ok (.invokestatic 306, 3) := by decide +kernel
theorem dX11_folds_70 : decode cX11_folds 70 = .ok (.if_icmp .lt 6, 3) := by decide +kernel
theorem dX11_folds_73 : decode cX11_folds 73 = .ok (.goto 28, 3) := by decide +kernel
theorem dX11_folds_76 : decode cX11_folds 76 = .ok (.aload_n 0, 1) := by decide +kernel
theorem dX11_folds_77 : decode cX11_folds 77 = .ok (.getfield 9, 3) := by decide +kernel
theorem dX11_folds_80 : decode cX11_folds 80 = .ok (.iload_n 2, 1) := by decide +kernel
theorem dX11_folds_81 : decode cX11_folds 81 = .ok (.iload 5, 2) := by decide +kernel
theorem dX11_folds_83 : decode cX11_folds 83 = .ok (.iastore, 1) := by decide +kernel
theorem dX11_folds_84 : decode cX11_folds 84 = .ok (.aload_n 0, 1) := by decide +kernel
theorem dX11_folds_85 : decode cX11_folds 85 = .ok (.iload_n 1, 1) := by decide +kernel
theorem dX11_folds_86 : decode cX11_folds 86 = .ok (.invokevirtual 303, 3) := by decide +kernel
theorem dX11_folds_89 : decode cX11_folds 89 = .ok (.ifCond .ne 8, 3) := by decide +kernel
theorem dX11_folds_92 : decode cX11_folds 92 = .ok (.iload 5, 2) := by decide +kernel
theorem dX11_folds_94 : decode cX11_folds 94 = .ok (.goto 5, 3) := by decide +kernel
theorem dX11_folds_97 : decode cX11_folds 97 = .ok (.iload 4, 2) := by decide +kernel
theorem dX11_folds_99 : decode cX11_folds 99 = .ok (.istore 4, 2) := by decide +kernel
theorem dX11_folds_101 : decode cX11_folds 101 = .ok (.iinc 5 1, 3) := by decide +kernel
theorem dX11_folds_104 : decode cX11_folds 104 = .ok (.goto (-66), 3) := by decide +kernel
theorem dX11_folds_107 : decode cX11_folds 107 = .ok (.aload_n 0, 1) := by decide +kernel
theorem dX11_folds_108 : decode cX11_folds 108 = .ok (.getfield 9, 3) := by decide +kernel
theorem dX11_folds_111 : decode cX11_folds 111 = .ok (.iload_n 2, 1) := by decide +kernel
theorem dX11_folds_112 : decode cX11_folds 112 = .ok (.iload_n 3, 1) := by decide +kernel
theorem dX11_folds_113 : decode cX11_folds 113 = .ok (.iastore, 1) := by decide +kernel
theorem dX11_folds_114 : decode cX11_folds 114 = .ok (.iload 4, 2) := by decide +kernel
theorem dX11_folds_116 : decode cX11_folds 116 = .ok (.ifCond .ge 11, 3) := by decide +kernel
theorem dX11_folds_119 : decode cX11_folds 119 = .ok (.aload_n 0, 1) := by decide +kernel
theorem dX11_folds_120 : decode cX11_folds 120 = .ok (.iconst 3, 1) := by decide +kernel
theorem dX11_folds_121 : decode cX11_folds 121 = .ok (.invokevirtual 122, 3) := by decide +kernel
theorem dX11_folds_124 : decode cX11_folds 124 = .ok (.goto 5, 3) := by decide +kernel
theorem dX11_folds_127 : decode cX11_folds 127 = .ok (.iload 4, 2) := by decide +kernel
theorem dX11_folds_129 : decode cX11_folds 129 = .ok (.ireturn, 1) := by decide +kernel
def S_X11_folds_38 (fn : Mem → Int → Int → Int → Int → Int → Option (Int × Mem)) (p : Program) (l : Launch) (e : Env) (R : Room) (s : State) (m : MethodId) (args : Array Value) (below : List Frame) (meth : Method) (c : Code) (G : GT) (τ : Mem) (res : Int) : Prop := ∀ (σ : Mem) (H : Heap) (locs : List Loc) (ls : Array Slot) (l1 : Int) (l2 : Int) (l3 : Int) (l4 : Int) (l5 : Int), PW G σ H → va_S (AA G) s.heap H locs → fn σ l1 l2 l3 l4 l5 = some (res, τ) → lv_has ls 6 [(0, .ref (gh G + 111)), (1, .int (i32 l1)), (2, .int (i32 l2)), (3, .int (i32 l3)), (4, .int (i32 l4)), (5, .int (i32 l5))] → W p l e R s m args below meth c H locs 0 0 (MQ below (QM G (some (.int (i32 res))) τ) args s 0 0 (AA G)) (F0 m 38 ls [])
def X11_folds_B101 (rec38 : Mem → Int → Int → Int → Int → Int → Option (Int × Mem)) (σ : Mem) (l1 : Int) (l2 : Int) (l3 : Int) (l4 : Int) (l5 : Int) : Option (Int × Mem) :=
  lt (l5 + 1) fun l5_1 =>
  rec38 σ l1 l2 l3 l4 l5_1
def S_X11_folds_101 (fn : Mem → Int → Int → Int → Int → Int → Option (Int × Mem)) (p : Program) (l : Launch) (e : Env) (R : Room) (s : State) (m : MethodId) (args : Array Value) (below : List Frame) (meth : Method) (c : Code) (G : GT) (τ : Mem) (res : Int) : Prop := ∀ (σ : Mem) (H : Heap) (locs : List Loc) (ls : Array Slot) (l1 : Int) (l2 : Int) (l3 : Int) (l4 : Int) (l5 : Int), PW G σ H → va_S (AA G) s.heap H locs → fn σ l1 l2 l3 l4 l5 = some (res, τ) → lv_has ls 6 [(0, .ref (gh G + 111)), (1, .int (i32 l1)), (2, .int (i32 l2)), (3, .int (i32 l3)), (4, .int (i32 l4)), (5, .int (i32 l5))] → W p l e R s m args below meth c H locs 0 0 (MQ below (QM G (some (.int (i32 res))) τ) args s 0 0 (AA G)) (F0 m 101 ls [])
def X11_folds_B99 (rec38 : Mem → Int → Int → Int → Int → Int → Option (Int × Mem)) (σ : Mem) (l1 : Int) (l2 : Int) (l3 : Int) (l5 : Int) (k0 : Int) : Option (Int × Mem) :=
  X11_folds_B101 rec38 σ l1 l2 l3 k0 l5
def S_X11_folds_99 (fn : Mem → Int → Int → Int → Int → Int → Option (Int × Mem)) (p : Program) (l : Launch) (e : Env) (R : Room) (s : State) (m : MethodId) (args : Array Value) (below : List Frame) (meth : Method) (c : Code) (G : GT) (τ : Mem) (res : Int) : Prop := ∀ (σ : Mem) (H : Heap) (locs : List Loc) (ls : Array Slot) (l1 : Int) (l2 : Int) (l3 : Int) (l5 : Int) (k0 : Int), PW G σ H → va_S (AA G) s.heap H locs → fn σ l1 l2 l3 l5 k0 = some (res, τ) → lv_has ls 6 [(0, .ref (gh G + 111)), (1, .int (i32 l1)), (2, .int (i32 l2)), (3, .int (i32 l3)), (5, .int (i32 l5))] → W p l e R s m args below meth c H locs 0 0 (MQ below (QM G (some (.int (i32 res))) τ) args s 0 0 (AA G)) (F0 m 99 ls [.int (i32 k0)])
def X11_folds_B76 (rec38 : Mem → Int → Int → Int → Int → Int → Option (Int × Mem)) (σ : Mem) (l1 : Int) (l2 : Int) (l3 : Int) (l4 : Int) (l5 : Int) : Option (Int × Mem) :=
  ag 766 l2 fun j1 =>
  lt (st σ 112 j1 l5) fun s2 =>
  bd2 (X11_stopsOf s2 l1) fun r3 s4 =>
  if w32 r3 ≠ 0 then
    X11_folds_B99 rec38 s4 l1 l2 l3 l5 l4
  else
  X11_folds_B99 rec38 s4 l1 l2 l3 l5 l5
def S_X11_folds_76 (fn : Mem → Int → Int → Int → Int → Int → Option (Int × Mem)) (p : Program) (l : Launch) (e : Env) (R : Room) (s : State) (m : MethodId) (args : Array Value) (below : List Frame) (meth : Method) (c : Code) (G : GT) (τ : Mem) (res : Int) : Prop := ∀ (σ : Mem) (H : Heap) (locs : List Loc) (ls : Array Slot) (l1 : Int) (l2 : Int) (l3 : Int) (l4 : Int) (l5 : Int), PW G σ H → va_S (AA G) s.heap H locs → fn σ l1 l2 l3 l4 l5 = some (res, τ) → lv_has ls 6 [(0, .ref (gh G + 111)), (1, .int (i32 l1)), (2, .int (i32 l2)), (3, .int (i32 l3)), (4, .int (i32 l4)), (5, .int (i32 l5))] → W p l e R s m args below meth c H locs 0 0 (MQ below (QM G (some (.int (i32 res))) τ) args s 0 0 (AA G)) (F0 m 76 ls [])
def X11_folds_B38 (rec38 : Mem → Int → Int → Int → Int → Int → Option (Int × Mem)) (σ : Mem) (l1 : Int) (l2 : Int) (l3 : Int) (l4 : Int) (l5 : Int) : Option (Int × Mem) :=
  if w32 342 ≤ w32 l5 then
    ag 766 l2 fun j1 =>
    lt (st σ 112 j1 l3) fun s2 =>
    if 0 ≤ w32 l4 then
      some (l4, s2)
    else
    bd2 (X11_finds s2 3) fun r3 s4 =>
    some (r3, s4)
  else
  if w32 (ian l5 (-342)) ≠ 0 then
    X11_folds_B101 rec38 σ l1 l2 l3 l4 l5
  else
  if w32 l4 < 0 then
    X11_folds_B76 rec38 σ l1 l2 l3 l4 l5
  else
  bd (X11_ones σ l5) fun r5 =>
  bd (X11_ones σ l4) fun r6 =>
  if w32 r5 < w32 r6 then
    X11_folds_B76 rec38 σ l1 l2 l3 l4 l5
  else
  X11_folds_B101 rec38 σ l1 l2 l3 l4 l5
def X11_folds_L38 : Nat → Mem → Int → Int → Int → Int → Int → Option (Int × Mem)
  | 0 => fun _ _ _ _ _ _ => none
  | n + 1 => X11_folds_B38 (X11_folds_L38 n)
def X11_folds (σ : Mem) (l1 : Int) : Option (Int × Mem) :=
  bd (X11_isPart σ l1) fun r1 =>
  if w32 r1 ≠ 0 then
    bd (X11_findPages σ l1) fun s3 =>
    bd (X11_part s3 l1) fun r4 =>
    lt (r4 + 3) fun l2_5 =>
    ag 766 l2_5 fun j6 =>
    lt (s3 112 j6) fun l3_7 =>
    X11_folds_L38 5000 s3 l1 l2_5 l3_7 (-1) 0
  else
  bd2 (X11_finds σ 0) fun r8 s9 =>
  some (r8, s9)
def S_X11_folds_0 (fn : Mem → Int → Option (Int × Mem)) (p : Program) (l : Launch) (e : Env) (R : Room) (s : State) (m : MethodId) (args : Array Value) (below : List Frame) (meth : Method) (c : Code) (G : GT) (τ : Mem) (res : Int) : Prop := ∀ (σ : Mem) (H : Heap) (locs : List Loc) (ls : Array Slot) (l1 : Int), PW G σ H → va_S (AA G) s.heap H locs → fn σ l1 = some (res, τ) → lv_has ls 6 [(0, .ref (gh G + 111)), (1, .int (i32 l1))] → W p l e R s m args below meth c H locs 0 0 (MQ below (QM G (some (.int (i32 res))) τ) args s 0 0 (AA G)) (F0 m 0 ls [])
set_option maxHeartbeats 4000000 in
theorem a_X11_folds_101 {p : Program} {l : Launch} {e : Env} {R : Room} {s : State} {m : MethodId} {args : Array Value} {below : List Frame} {meth : Method} {c : Code} {G : GT} {τ : Mem} {res : Int} {rec38 : Mem → Int → Int → Int → Int → Int → Option (Int × Mem)} (X : CX p R s m args meth c cX11_folds 6 RX11 (some FieldType.int) 10 266 G) (h38 : S_X11_folds_38 rec38 p l e R s m args below meth c G τ res) : S_X11_folds_101 (X11_folds_B101 rec38) p l e R s m args below meth c G τ res := by
  intro σ H locs ls l1 l2 l3 l4 l5 hP hS hf hl
  unfold X11_folds_B101 at hf
  obtain ⟨l5_1, el5_1, hf⟩ := lt_inv hf
  refine lv_iinc (v := i32 l5_1) (lv' := [(5, .int (i32 l5_1)), (0, .ref (gh G + 111)), (1, .int (i32 l1)), (2, .int (i32 l2)), (3, .int (i32 l3)), (4, .int (i32 l4))]) X.1 X.2.1 dX11_folds_101 hl (k := 5) rfl (by rw [← el5_1]; exact i32_add _ _) (by decide) rfl (fun ls hl => ?_)
  refine lv_goto (tgt := 38) X.1 X.2.1 dX11_folds_104 (by decide) ?_
  exact h38 σ H locs ls l1 l2 l3 l4 l5_1 hP hS hf (lv_sub hl [1, 2, 3, 4, 5, 0] rfl)
set_option maxHeartbeats 4000000 in
theorem a_X11_folds_99 {p : Program} {l : Launch} {e : Env} {R : Room} {s : State} {m : MethodId} {args : Array Value} {below : List Frame} {meth : Method} {c : Code} {G : GT} {τ : Mem} {res : Int} {rec38 : Mem → Int → Int → Int → Int → Int → Option (Int × Mem)} (X : CX p R s m args meth c cX11_folds 6 RX11 (some FieldType.int) 10 266 G) (h38 : S_X11_folds_38 rec38 p l e R s m args below meth c G τ res) : S_X11_folds_99 (X11_folds_B99 rec38) p l e R s m args below meth c G τ res := by
  intro σ H locs ls l1 l2 l3 l5 k0 hP hS hf hl
  unfold X11_folds_B99 at hf
  refine lv_istore (lv' := [(4, .int (i32 k0)), (0, .ref (gh G + 111)), (1, .int (i32 l1)), (2, .int (i32 l2)), (3, .int (i32 l3)), (5, .int (i32 l5))]) X.1 X.2.1 dX11_folds_99 hl (by decide) rfl (fun ls hl => ?_)
  exact a_X11_folds_101 X h38 σ H locs ls l1 l2 l3 k0 l5 hP hS hf (lv_sub hl [1, 2, 3, 4, 0, 5] rfl)
set_option maxHeartbeats 4000000 in
theorem a_X11_folds_76 {p : Program} {l : Launch} {e : Env} {R : Room} {s : State} {m : MethodId} {args : Array Value} {below : List Frame} {meth : Method} {c : Code} {G : GT} {τ : Mem} {res : Int} {rec38 : Mem → Int → Int → Int → Int → Int → Option (Int × Mem)} (X : CX p R s m args meth c cX11_folds 6 RX11 (some FieldType.int) 10 266 G) (h38 : S_X11_folds_38 rec38 p l e R s m args below meth c G τ res) : S_X11_folds_76 (X11_folds_B76 rec38) p l e R s m args below meth c G τ res := by
  intro σ H locs ls l1 l2 l3 l4 l5 hP hS hf hl
  unfold X11_folds_B76 at hf
  refine lv_aload_n X.1 X.2.1 dX11_folds_76 rfl (lv_at hl 0 rfl) ?_
  refine g_11_0 (r := 112) X hP ks_11 rfl (tb t_1087 rfl) dX11_folds_77 ?_
  refine lv_iload_n X.1 X.2.1 dX11_folds_80 rfl (lv_at hl 2 rfl) ?_
  refine lv_iload X.1 X.2.1 dX11_folds_81 (lv_at hl 5 rfl) ?_
  obtain ⟨j1, hij1, hjj1, hlj1, hf⟩ := ag_inv hf
  refine r_iast X hP hS (ch_11_0 ks_11).1 (ch_11_0 ks_11).2 hij1 hjj1 dX11_folds_83 (fun H locs hP hS => ?_)
  obtain ⟨s2, es2, hf⟩ := lt_inv hf
  rw [es2] at hP
  refine lv_aload_n X.1 X.2.1 dX11_folds_84 rfl (lv_at hl 0 rfl) ?_
  refine lv_iload_n X.1 X.2.1 dX11_folds_85 rfl (lv_at hl 1 rfl) ?_
  obtain ⟨r3, s4, hr3, hf⟩ := bd2_inv hf
  refine k_X11_stopsOf X hP hS hl.1  hr3 (tb t_1442 rfl) (by decide) (Nat.le_of_ble_eq_true rfl) dX11_folds_86 (fun H locs hP hS => ?_)
  refine r_if_ne (tgt := 97) X dX11_folds_89 (by decide) (fun q => ?_) (fun q => ?_)
  · replace hf := it_inv q hf
    refine lv_iload X.1 X.2.1 dX11_folds_97 (lv_at hl 4 rfl) ?_
    exact a_X11_folds_99 X h38 s4 H locs ls l1 l2 l3 l5 l4 hP hS hf (lv_sub hl [0, 1, 2, 3, 5] rfl)
  · replace hf := ie_inv q hf
    refine lv_iload X.1 X.2.1 dX11_folds_92 (lv_at hl 5 rfl) ?_
    refine lv_goto (tgt := 99) X.1 X.2.1 dX11_folds_94 (by decide) ?_
    exact a_X11_folds_99 X h38 s4 H locs ls l1 l2 l3 l5 l5 hP hS hf (lv_sub hl [0, 1, 2, 3, 5] rfl)
set_option maxHeartbeats 4000000 in
theorem a_X11_folds_38 {p : Program} {l : Launch} {e : Env} {R : Room} {s : State} {m : MethodId} {args : Array Value} {below : List Frame} {meth : Method} {c : Code} {G : GT} {τ : Mem} {res : Int} {rec38 : Mem → Int → Int → Int → Int → Int → Option (Int × Mem)} (X : CX p R s m args meth c cX11_folds 6 RX11 (some FieldType.int) 10 266 G) (h38 : S_X11_folds_38 rec38 p l e R s m args below meth c G τ res) : S_X11_folds_38 (X11_folds_B38 rec38) p l e R s m args below meth c G τ res := by
  intro σ H locs ls l1 l2 l3 l4 l5 hP hS hf hl
  unfold X11_folds_B38 at hf
  refine lv_iload X.1 X.2.1 dX11_folds_38 (lv_at hl 5 rfl) ?_
  refine r_sipush X 342 (by decide) dX11_folds_40 ?_
  refine r_icmp_ge (tgt := 107) X dX11_folds_43 (by decide) (fun q => ?_) (fun q => ?_)
  · replace hf := it_inv q hf
    refine lv_aload_n X.1 X.2.1 dX11_folds_107 rfl (lv_at hl 0 rfl) ?_
    refine g_11_0 (r := 112) X hP ks_11 rfl (tb t_1087 rfl) dX11_folds_108 ?_
    refine lv_iload_n X.1 X.2.1 dX11_folds_111 rfl (lv_at hl 2 rfl) ?_
    refine lv_iload_n X.1 X.2.1 dX11_folds_112 rfl (lv_at hl 3 rfl) ?_
    obtain ⟨j1, hij1, hjj1, hlj1, hf⟩ := ag_inv hf
    refine r_iast X hP hS (ch_11_0 ks_11).1 (ch_11_0 ks_11).2 hij1 hjj1 dX11_folds_113 (fun H locs hP hS => ?_)
    obtain ⟨s2, es2, hf⟩ := lt_inv hf
    rw [es2] at hP
    refine lv_iload X.1 X.2.1 dX11_folds_114 (lv_at hl 4 rfl) ?_
    refine r_if_ge (tgt := 127) X dX11_folds_116 (by decide) (fun q => ?_) (fun q => ?_)
    · replace hf := it_inv q hf
      refine lv_iload X.1 X.2.1 dX11_folds_127 (lv_at hl 4 rfl) ?_
      obtain ⟨rfl, rfl⟩ := so2_inv hf
      exact r_iret X hP hS dX11_folds_129
    · replace hf := ie_inv q hf
      refine lv_aload_n X.1 X.2.1 dX11_folds_119 rfl (lv_at hl 0 rfl) ?_
      refine r_iconst X 3 dX11_folds_120 ?_
      obtain ⟨r3, s4, hr3, hf⟩ := bd2_inv hf
      refine k_X11_finds X hP hS hl.1  hr3 (tb t_1219 rfl) (by decide) (Nat.le_of_ble_eq_true rfl) dX11_folds_121 (fun H locs hP hS => ?_)
      refine lv_goto (tgt := 129) X.1 X.2.1 dX11_folds_124 (by decide) ?_
      obtain ⟨rfl, rfl⟩ := so2_inv hf
      exact r_iret X hP hS dX11_folds_129
  · replace hf := ie_inv q hf
    refine lv_iload X.1 X.2.1 dX11_folds_46 (lv_at hl 5 rfl) ?_
    refine r_sipush X (-342) (by decide) dX11_folds_48 ?_
    refine r_iand X dX11_folds_51 ?_
    refine r_if_ne (tgt := 101) X dX11_folds_52 (by decide) (fun q => ?_) (fun q => ?_)
    · replace hf := it_inv q hf
      exact a_X11_folds_101 X h38 σ H locs ls l1 l2 l3 l4 l5 hP hS hf hl
    · replace hf := ie_inv q hf
      refine lv_iload X.1 X.2.1 dX11_folds_55 (lv_at hl 4 rfl) ?_
      refine r_if_lt (tgt := 76) X dX11_folds_57 (by decide) (fun q => ?_) (fun q => ?_)
      · replace hf := it_inv q hf
        exact a_X11_folds_76 X h38 σ H locs ls l1 l2 l3 l4 l5 hP hS hf hl
      · replace hf := ie_inv q hf
        refine lv_iload X.1 X.2.1 dX11_folds_60 (lv_at hl 5 rfl) ?_
        obtain ⟨r5, hr5, hf⟩ := bd_inv hf
        refine k_X11_ones X hP hS hl.1  hr5 (tb t_1450 rfl) (by decide) (Nat.le_of_ble_eq_true rfl) dX11_folds_62 (fun H locs hP hS => ?_)
        refine lv_iload X.1 X.2.1 dX11_folds_65 (lv_at hl 4 rfl) ?_
        obtain ⟨r6, hr6, hf⟩ := bd_inv hf
        refine k_X11_ones X hP hS hl.1  hr6 (tb t_1450 rfl) (by decide) (Nat.le_of_ble_eq_true rfl) dX11_folds_67 (fun H locs hP hS => ?_)
        refine r_icmp_lt (tgt := 76) X dX11_folds_70 (by decide) (fun q => ?_) (fun q => ?_)
        · replace hf := it_inv q hf
          exact a_X11_folds_76 X h38 σ H locs ls l1 l2 l3 l4 l5 hP hS hf hl
        · replace hf := ie_inv q hf
          refine lv_goto (tgt := 101) X.1 X.2.1 dX11_folds_73 (by decide) ?_
          exact a_X11_folds_101 X h38 σ H locs ls l1 l2 l3 l4 l5 hP hS hf hl
theorem al_X11_folds_38 {p : Program} {l : Launch} {e : Env} {R : Room} {s : State} {m : MethodId} {args : Array Value} {below : List Frame} {meth : Method} {c : Code} {G : GT} {τ : Mem} {res : Int} (X : CX p R s m args meth c cX11_folds 6 RX11 (some FieldType.int) 10 266 G) : ∀ n, S_X11_folds_38 (X11_folds_L38 n) p l e R s m args below meth c G τ res := by
  intro n
  induction n with
  | zero =>
    intro σ H locs ls l1 l2 l3 l4 l5 hP hS hf hl
    cases hf
  | succ n ih => exact a_X11_folds_38 X ih
set_option maxHeartbeats 4000000 in
theorem a_X11_folds_0 {p : Program} {l : Launch} {e : Env} {R : Room} {s : State} {m : MethodId} {args : Array Value} {below : List Frame} {meth : Method} {c : Code} {G : GT} {τ : Mem} {res : Int} (X : CX p R s m args meth c cX11_folds 6 RX11 (some FieldType.int) 10 266 G) : S_X11_folds_0 (X11_folds) p l e R s m args below meth c G τ res := by
  intro σ H locs ls l1 hP hS hf hl
  unfold X11_folds at hf
  refine lv_iload_n X.1 X.2.1 dX11_folds_0 rfl (lv_at hl 1 rfl) ?_
  obtain ⟨r1, hr1, hf⟩ := bd_inv hf
  refine k_X11_isPart X hP hS hl.1  hr1 (tb t_1204 rfl) (by decide) (Nat.le_of_ble_eq_true rfl) dX11_folds_1 (fun H locs hP hS => ?_)
  refine r_if_ne (tgt := 13) X dX11_folds_4 (by decide) (fun q => ?_) (fun q => ?_)
  · replace hf := it_inv q hf
    refine lv_aload_n X.1 X.2.1 dX11_folds_13 rfl (lv_at hl 0 rfl) ?_
    refine lv_iload_n X.1 X.2.1 dX11_folds_14 rfl (lv_at hl 1 rfl) ?_
    obtain ⟨s3, hr2, hf⟩ := bd_inv hf
    refine k_X11_findPages X hP hS hl.1  hr2 (tb t_1397 rfl) (by decide) (Nat.le_of_ble_eq_true rfl) dX11_folds_15 (fun H locs hP hS => ?_)
    refine lv_iload_n X.1 X.2.1 dX11_folds_18 rfl (lv_at hl 1 rfl) ?_
    obtain ⟨r4, hr4, hf⟩ := bd_inv hf
    refine k_X11_part X hP hS hl.1  hr4 (tb t_1084 rfl) (by decide) (Nat.le_of_ble_eq_true rfl) dX11_folds_19 (fun H locs hP hS => ?_)
    refine r_iconst X 3 dX11_folds_22 ?_
    refine r_iadd X dX11_folds_23 ?_
    obtain ⟨l2_5, el2_5, hf⟩ := lt_inv hf
    refine r_eqi el2_5 ?_
    refine lv_istore_n (lv' := [(2, .int (i32 l2_5)), (0, .ref (gh G + 111)), (1, .int (i32 l1))]) X.1 X.2.1 dX11_folds_24 rfl hl (by decide) rfl (fun ls hl => ?_)
    refine lv_aload_n X.1 X.2.1 dX11_folds_25 rfl (lv_at hl 1 rfl) ?_
    refine g_11_0 (r := 112) X hP ks_11 rfl (tb t_1087 rfl) dX11_folds_26 ?_
    refine lv_iload_n X.1 X.2.1 dX11_folds_29 rfl (lv_at hl 0 rfl) ?_
    obtain ⟨j6, hij6, hjj6, hlj6, hf⟩ := ag_inv hf
    refine r_iald X hP (ch_11_0 ks_11).1 (ch_11_0 ks_11).2 hij6 hjj6 dX11_folds_30 ?_
    obtain ⟨l3_7, el3_7, hf⟩ := lt_inv hf
    refine r_eqi el3_7 ?_
    refine lv_istore_n (lv' := [(3, .int (i32 l3_7)), (2, .int (i32 l2_5)), (0, .ref (gh G + 111)), (1, .int (i32 l1))]) X.1 X.2.1 dX11_folds_31 rfl hl (by decide) rfl (fun ls hl => ?_)
    refine r_iconst X (-1) dX11_folds_32 ?_
    refine lv_istore (lv' := [(4, .int (i32 (-1))), (3, .int (i32 l3_7)), (2, .int (i32 l2_5)), (0, .ref (gh G + 111)), (1, .int (i32 l1))]) X.1 X.2.1 dX11_folds_33 hl (by decide) rfl (fun ls hl => ?_)
    refine r_iconst X 0 dX11_folds_35 ?_
    refine lv_istore (lv' := [(5, .int (i32 0)), (4, .int (i32 (-1))), (3, .int (i32 l3_7)), (2, .int (i32 l2_5)), (0, .ref (gh G + 111)), (1, .int (i32 l1))]) X.1 X.2.1 dX11_folds_36 hl (by decide) rfl (fun ls hl => ?_)
    exact al_X11_folds_38 X 5000 s3 H locs ls l1 l2_5 l3_7 (-1) 0 hP hS hf (lv_sub hl [4, 5, 3, 2, 1, 0] rfl)
  · replace hf := ie_inv q hf
    refine lv_aload_n X.1 X.2.1 dX11_folds_7 rfl (lv_at hl 0 rfl) ?_
    refine r_iconst X 0 dX11_folds_8 ?_
    obtain ⟨r8, s9, hr8, hf⟩ := bd2_inv hf
    refine k_X11_finds X hP hS hl.1  hr8 (tb t_1219 rfl) (by decide) (Nat.le_of_ble_eq_true rfl) dX11_folds_9 (fun H locs hP hS => ?_)
    obtain ⟨rfl, rfl⟩ := so2_inv hf
    exact r_iret X hP hS dX11_folds_12
set_option maxHeartbeats 4000000 in
theorem c_X11_folds {l : Launch} {G : GT} {σ τ : Mem} {res : Int} {l1 : Int} (hf : X11_folds σ l1 = some (res, τ)) : CT l yX11_folds cX11_folds 6 (some FieldType.int) 10 266 G [.ref (gh G + 111), .int (i32 l1)] σ τ (some (.int (i32 res))) := by
  refine CT.mk (own := RX11) (by decide) rfl (Nat.le_of_ble_eq_true rfl) ?_
  intro p e s m below meth c ls X hP hS hl
  have hl : lv_has ls 6 [(0, .ref (gh G + 111)), (1, .int (i32 l1))] := hl
  exact a_X11_folds_0 X σ s.heap [] ls l1 hP hS hf hl
theorem k_X11_folds {p : Program} {l : Launch} {e : Env} {R : Room} {s : State} {m : MethodId} {args : Array Value} {below : List Frame} {meth : Method} {c : Code} {H : Heap} {locs : List Loc} {Q : State → Prop} {cc : ByteArray} {nL : Nat} {own : String} {ret : Option FieldType} {fF fL : Nat} {G : GT} {pc idx : Nat} {ls : Array Slot} {rest : List Value} {σ τ : Mem} {res : Int} {l1 : Int} (X : CX p R s m args meth c cc nL own ret fF fL G) (hP : PW G σ H) (hS : va_S (AA G) s.heap H locs) (hls : ls.size = nL) (hf : X11_folds σ l1 = some (res, τ)) (h1 : Cond.methodLink own idx yX11_folds ∈ TB) (hR : 10 + 1 ≤ fF ∧ 8 + (6 + 11) + 266 ≤ fL) (hW : (rest.map fun v => v.category).sum ≤ 8) (hd : decode cc pc = .ok (.invokevirtual idx, 3)) (kk : ∀ (H1 : Heap) (locs1 : List Loc), PW G τ H1 → va_S (AA G) s.heap H1 locs1 → W p l e R s m args below meth c H1 locs1 0 0 Q (F0 m (pc + 3) ls (.int (i32 res) :: rest))) : W p l e R s m args below meth c H locs 0 0 Q (F0 m pc ls (.int (i32 l1) :: .ref (gh G + 111) :: rest)) := r_callV (n := 1) X hP hS hls (c_X11_folds hf) h1 (tb t_1447 rfl) (tb t_1448 rfl) (tb t_87 rfl) (tb t_1449 rfl) (by decide +kernel) hR (r_recv X hP (kd_lt ks_11 (by decide)) (cE_11 ks_11) rfl) rfl rfl hW hd kk
/-! X11_free_ -/
theorem dX11_free__0 : decode cX11_free_ 0 = .ok (.aload_n 0, 1) := by decide +kernel
theorem dX11_free__1 : decode cX11_free_ 1 = .ok (.iload_n 1, 1) := by decide +kernel
theorem dX11_free__2 : decode cX11_free_ 2 = .ok (.iload_n 2, 1) := by decide +kernel
theorem dX11_free__3 : decode cX11_free_ 3 = .ok (.invokevirtual 211, 3) := by decide +kernel
theorem dX11_free__6 : decode cX11_free_ 6 = .ok (.ifCond .eq 32, 3) := by decide +kernel
theorem dX11_free__9 : decode cX11_free_ 9 = .ok (.iload_n 3, 1) := by decide +kernel
theorem dX11_free__10 : decode cX11_free_ 10 = .ok (.i2l, 1) := by decide +kernel
theorem dX11_free__11 : decode cX11_free_ 11 = .ok (.lconst 0, 1) := by decide +kernel
theorem dX11_free__12 : decode cX11_free_ 12 = .ok (.lconst 1, 1) := by decide +kernel
theorem dX11_free__13 : decode cX11_free_ 13 = .ok (.invokestatic 93, 3) := by decide +kernel
theorem dX11_free__16 : decode cX11_free_ 16 = .ok (.ifCond .eq 22, 3) := by decide +kernel
theorem dX11_free__19 : decode cX11_free_ 19 = .ok (.aload_n 0, 1) := by decide +kernel
theorem dX11_free__20 : decode cX11_free_ 20 = .ok (.iload_n 1, 1) := by decide +kernel
theorem dX11_free__21 : decode cX11_free_ 21 = .ok (.iload_n 2, 1) := by decide +kernel
theorem dX11_free__22 : decode cX11_free_ 22 = .ok (.iload_n 3, 1) := by decide +kernel
theorem dX11_free__23 : decode cX11_free_ 23 = .ok (.iconst 1, 1) := by decide +kernel
theorem dX11_free__24 : decode cX11_free_ 24 = .ok (.if_icmp .ne 7, 3) := by decide +kernel
theorem dX11_free__27 : decode cX11_free_ 27 = .ok (.iconst 1, 1) := by decide +kernel
theorem dX11_free__28 : decode cX11_free_ 28 = .ok (.goto 4, 3) := by decide +kernel
theorem dX11_free__31 : decode cX11_free_ 31 = .ok (.iconst 0, 1) := by decide +kernel
theorem dX11_free__32 : decode cX11_free_ 32 = .ok (.invokevirtual 229, 3) := by decide +kernel
theorem dX11_free__35 : decode cX11_free_ 35 = .ok (.goto 8, 3) := by decide +kernel
theorem dX11_free__38 : decode cX11_free_ 38 = .ok (.aload_n 0, 1) := by decide +kernel
theorem dX11_free__39 : decode cX11_free_ 39 = .ok (.iconst 0, 1) := by decide +kernel
theorem dX11_free__40 : decode cX11_free_ 40 = .ok (.invokevirtual 122, 3) := by decide +kernel
theorem dX11_free__43 : decode cX11_free_ 43 = .ok (.ireturn, 1) := by decide +kernel
def X11_free__B38 (σ : Mem) : Option (Int × Mem) :=
  bd2 (X11_finds σ 0) fun r1 s2 =>
  some (r1, s2)
def S_X11_free__38 (fn : Mem → Option (Int × Mem)) (p : Program) (l : Launch) (e : Env) (R : Room) (s : State) (m : MethodId) (args : Array Value) (below : List Frame) (meth : Method) (c : Code) (G : GT) (τ : Mem) (res : Int) : Prop := ∀ (σ : Mem) (H : Heap) (locs : List Loc) (ls : Array Slot), PW G σ H → va_S (AA G) s.heap H locs → fn σ = some (res, τ) → lv_has ls 4 [(0, .ref (gh G + 111))] → W p l e R s m args below meth c H locs 0 0 (MQ below (QM G (some (.int (i32 res))) τ) args s 0 0 (AA G)) (F0 m 38 ls [])
def X11_free__B32 (σ : Mem) (k1 : Int) (k2 : Int) (k3 : Int) : Option (Int × Mem) :=
  bd (X11_free σ k1 k2 k3) fun r1 =>
  some (r1, σ)
def S_X11_free__32 (fn : Mem → Int → Int → Int → Option (Int × Mem)) (p : Program) (l : Launch) (e : Env) (R : Room) (s : State) (m : MethodId) (args : Array Value) (below : List Frame) (meth : Method) (c : Code) (G : GT) (τ : Mem) (res : Int) : Prop := ∀ (σ : Mem) (H : Heap) (locs : List Loc) (ls : Array Slot) (k1 : Int) (k2 : Int) (k3 : Int), PW G σ H → va_S (AA G) s.heap H locs → fn σ k1 k2 k3 = some (res, τ) → lv_has ls 4 [] → W p l e R s m args below meth c H locs 0 0 (MQ below (QM G (some (.int (i32 res))) τ) args s 0 0 (AA G)) (F0 m 32 ls [.int (i32 k3), .int (i32 k2), .int (i32 k1), .ref (gh G + 111)])
def X11_free_ (σ : Mem) (l1 : Int) (l2 : Int) (l3 : Int) : Option (Int × Mem) :=
  bd (X11_isBar σ l1 l2) fun r1 =>
  if w32 r1 = 0 then
    X11_free__B38 σ
  else
  bd (X11_in σ (w32 l3) 0 1) fun r2 =>
  if w32 r2 = 0 then
    X11_free__B38 σ
  else
  if w32 l3 ≠ w32 1 then
    X11_free__B32 σ l1 l2 0
  else
  X11_free__B32 σ l1 l2 1
def S_X11_free__0 (fn : Mem → Int → Int → Int → Option (Int × Mem)) (p : Program) (l : Launch) (e : Env) (R : Room) (s : State) (m : MethodId) (args : Array Value) (below : List Frame) (meth : Method) (c : Code) (G : GT) (τ : Mem) (res : Int) : Prop := ∀ (σ : Mem) (H : Heap) (locs : List Loc) (ls : Array Slot) (l1 : Int) (l2 : Int) (l3 : Int), PW G σ H → va_S (AA G) s.heap H locs → fn σ l1 l2 l3 = some (res, τ) → lv_has ls 4 [(0, .ref (gh G + 111)), (1, .int (i32 l1)), (2, .int (i32 l2)), (3, .int (i32 l3))] → W p l e R s m args below meth c H locs 0 0 (MQ below (QM G (some (.int (i32 res))) τ) args s 0 0 (AA G)) (F0 m 0 ls [])
set_option maxHeartbeats 4000000 in
theorem a_X11_free__38 {p : Program} {l : Launch} {e : Env} {R : Room} {s : State} {m : MethodId} {args : Array Value} {below : List Frame} {meth : Method} {c : Code} {G : GT} {τ : Mem} {res : Int} (X : CX p R s m args meth c cX11_free_ 4 RX11 (some FieldType.int) 6 176 G) : S_X11_free__38 (X11_free__B38) p l e R s m args below meth c G τ res := by
  intro σ H locs ls hP hS hf hl
  unfold X11_free__B38 at hf
  refine lv_aload_n X.1 X.2.1 dX11_free__38 rfl (lv_at hl 0 rfl) ?_
  refine r_iconst X 0 dX11_free__39 ?_
  obtain ⟨r1, s2, hr1, hf⟩ := bd2_inv hf
  refine k_X11_finds X hP hS hl.1  hr1 (tb t_1219 rfl) (by decide) (Nat.le_of_ble_eq_true rfl) dX11_free__40 (fun H locs hP hS => ?_)
  obtain ⟨rfl, rfl⟩ := so2_inv hf
  exact r_iret X hP hS dX11_free__43
set_option maxHeartbeats 4000000 in
theorem a_X11_free__32 {p : Program} {l : Launch} {e : Env} {R : Room} {s : State} {m : MethodId} {args : Array Value} {below : List Frame} {meth : Method} {c : Code} {G : GT} {τ : Mem} {res : Int} (X : CX p R s m args meth c cX11_free_ 4 RX11 (some FieldType.int) 6 176 G) : S_X11_free__32 (X11_free__B32) p l e R s m args below meth c G τ res := by
  intro σ H locs ls k1 k2 k3 hP hS hf hl
  unfold X11_free__B32 at hf
  obtain ⟨r1, hr1, hf⟩ := bd_inv hf
  refine k_X11_free X hP hS hl.1  hr1 (tb t_1325 rfl) (by decide) (Nat.le_of_ble_eq_true rfl) dX11_free__32 (fun H locs hP hS => ?_)
  refine lv_goto (tgt := 43) X.1 X.2.1 dX11_free__35 (by decide) ?_
  obtain ⟨rfl, rfl⟩ := so2_inv hf
  exact r_iret X hP hS dX11_free__43
set_option maxHeartbeats 4000000 in
theorem a_X11_free__0 {p : Program} {l : Launch} {e : Env} {R : Room} {s : State} {m : MethodId} {args : Array Value} {below : List Frame} {meth : Method} {c : Code} {G : GT} {τ : Mem} {res : Int} (X : CX p R s m args meth c cX11_free_ 4 RX11 (some FieldType.int) 6 176 G) : S_X11_free__0 (X11_free_) p l e R s m args below meth c G τ res := by
  intro σ H locs ls l1 l2 l3 hP hS hf hl
  unfold X11_free_ at hf
  refine lv_aload_n X.1 X.2.1 dX11_free__0 rfl (lv_at hl 0 rfl) ?_
  refine lv_iload_n X.1 X.2.1 dX11_free__1 rfl (lv_at hl 1 rfl) ?_
  refine lv_iload_n X.1 X.2.1 dX11_free__2 rfl (lv_at hl 2 rfl) ?_
  obtain ⟨r1, hr1, hf⟩ := bd_inv hf
  refine k_X11_isBar X hP hS hl.1  hr1 (tb t_1307 rfl) (by decide) (Nat.le_of_ble_eq_true rfl) dX11_free__3 (fun H locs hP hS => ?_)
  refine r_if_eq (tgt := 38) X dX11_free__6 (by decide) (fun q => ?_) (fun q => ?_)
  · replace hf := it_inv q hf
    exact a_X11_free__38 X σ H locs ls  hP hS hf (lv_sub hl [0] rfl)
  · replace hf := ie_inv q hf
    refine lv_iload_n X.1 X.2.1 dX11_free__9 rfl (lv_at hl 3 rfl) ?_
    refine r_i2l X dX11_free__10 ?_
    refine r_lconst X 0 0 (by decide) dX11_free__11 ?_
    refine r_lconst X 1 1 (by decide) dX11_free__12 ?_
    obtain ⟨r2, hr2, hf⟩ := bd_inv hf
    refine k_X11_in X hP hS hl.1  hr2 (tb t_1208 rfl) (by decide) (Nat.le_of_ble_eq_true rfl) dX11_free__13 (fun H locs hP hS => ?_)
    refine r_if_eq (tgt := 38) X dX11_free__16 (by decide) (fun q => ?_) (fun q => ?_)
    · replace hf := it_inv q hf
      exact a_X11_free__38 X σ H locs ls  hP hS hf (lv_sub hl [0] rfl)
    · replace hf := ie_inv q hf
      refine lv_aload_n X.1 X.2.1 dX11_free__19 rfl (lv_at hl 0 rfl) ?_
      refine lv_iload_n X.1 X.2.1 dX11_free__20 rfl (lv_at hl 1 rfl) ?_
      refine lv_iload_n X.1 X.2.1 dX11_free__21 rfl (lv_at hl 2 rfl) ?_
      refine lv_iload_n X.1 X.2.1 dX11_free__22 rfl (lv_at hl 3 rfl) ?_
      refine r_iconst X 1 dX11_free__23 ?_
      refine r_icmp_ne (tgt := 31) X dX11_free__24 (by decide) (fun q => ?_) (fun q => ?_)
      · replace hf := it_inv q hf
        refine r_iconst X 0 dX11_free__31 ?_
        exact a_X11_free__32 X σ H locs ls l1 l2 0 hP hS hf (lv_sub hl [] rfl)
      · replace hf := ie_inv q hf
        refine r_iconst X 1 dX11_free__27 ?_
        refine lv_goto (tgt := 32) X.1 X.2.1 dX11_free__28 (by decide) ?_
        exact a_X11_free__32 X σ H locs ls l1 l2 1 hP hS hf (lv_sub hl [] rfl)
set_option maxHeartbeats 4000000 in
theorem c_X11_free_ {l : Launch} {G : GT} {σ τ : Mem} {res : Int} {l1 : Int} {l2 : Int} {l3 : Int} (hf : X11_free_ σ l1 l2 l3 = some (res, τ)) : CT l yX11_free_ cX11_free_ 4 (some FieldType.int) 6 176 G [.ref (gh G + 111), .int (i32 l1), .int (i32 l2), .int (i32 l3)] σ τ (some (.int (i32 res))) := by
  refine CT.mk (own := RX11) (by decide) rfl (Nat.le_of_ble_eq_true rfl) ?_
  intro p e s m below meth c ls X hP hS hl
  have hl : lv_has ls 4 [(0, .ref (gh G + 111)), (1, .int (i32 l1)), (2, .int (i32 l2)), (3, .int (i32 l3))] := hl
  exact a_X11_free__0 X σ s.heap [] ls l1 l2 l3 hP hS hf hl
theorem k_X11_free_ {p : Program} {l : Launch} {e : Env} {R : Room} {s : State} {m : MethodId} {args : Array Value} {below : List Frame} {meth : Method} {c : Code} {H : Heap} {locs : List Loc} {Q : State → Prop} {cc : ByteArray} {nL : Nat} {own : String} {ret : Option FieldType} {fF fL : Nat} {G : GT} {pc idx : Nat} {ls : Array Slot} {rest : List Value} {σ τ : Mem} {res : Int} {l1 : Int} {l2 : Int} {l3 : Int} (X : CX p R s m args meth c cc nL own ret fF fL G) (hP : PW G σ H) (hS : va_S (AA G) s.heap H locs) (hls : ls.size = nL) (hf : X11_free_ σ l1 l2 l3 = some (res, τ)) (h1 : Cond.methodLink own idx yX11_free_ ∈ TB) (hR : 6 + 1 ≤ fF ∧ 8 + (4 + 11) + 176 ≤ fL) (hW : (rest.map fun v => v.category).sum ≤ 8) (hd : decode cc pc = .ok (.invokevirtual idx, 3)) (kk : ∀ (H1 : Heap) (locs1 : List Loc), PW G τ H1 → va_S (AA G) s.heap H1 locs1 → W p l e R s m args below meth c H1 locs1 0 0 Q (F0 m (pc + 3) ls (.int (i32 res) :: rest))) : W p l e R s m args below meth c H locs 0 0 Q (F0 m pc ls (.int (i32 l3) :: .int (i32 l2) :: .int (i32 l1) :: .ref (gh G + 111) :: rest)) := r_callV (n := 3) X hP hS hls (c_X11_free_ hf) h1 (tb t_1322 rfl) (tb t_1323 rfl) (tb t_87 rfl) (tb t_1324 rfl) (by decide +kernel) hR (r_recv X hP (kd_lt ks_11 (by decide)) (cE_11 ks_11) rfl) rfl rfl hW hd kk
/-! X11_hearts -/
theorem dX11_hearts_0 : decode cX11_hearts 0 = .ok (.iload_n 1, 1) := by decide +kernel
theorem dX11_hearts_1 : decode cX11_hearts 1 = .ok (.invokestatic 97, 3) := by decide +kernel
theorem dX11_hearts_4 : decode cX11_hearts 4 = .ok (.ifCond .ne 9, 3) := by decide +kernel
theorem dX11_hearts_7 : decode cX11_hearts 7 = .ok (.aload_n 0, 1) := by decide +kernel
theorem dX11_hearts_8 : decode cX11_hearts 8 = .ok (.iconst 0, 1) := by decide +kernel
theorem dX11_hearts_9 : decode cX11_hearts 9 = .ok (.invokevirtual 122, 3) := by decide +kernel
theorem dX11_hearts_12 : decode cX11_hearts 12 = .ok (.ireturn, 1) := by decide +kernel
theorem dX11_hearts_13 : decode cX11_hearts 13 = .ok (.aload_n 0, 1) := by decide +kernel
theorem dX11_hearts_14 : decode cX11_hearts 14 = .ok (.iload_n 1, 1) := by decide +kernel
theorem dX11_hearts_15 : decode cX11_hearts 15 = .ok (.invokevirtual 283, 3) := by decide +kernel
theorem dX11_hearts_18 : decode cX11_hearts 18 = .ok (.iload_n 1, 1) := by decide +kernel
theorem dX11_hearts_19 : decode cX11_hearts 19 = .ok (.invokestatic 86, 3) := by decide +kernel
theorem dX11_hearts_22 : decode cX11_hearts 22 = .ok (.iconst 1, 1) := by decide +kernel
theorem dX11_hearts_23 : decode cX11_hearts 23 = .ok (.iadd, 1) := by decide +kernel
theorem dX11_hearts_24 : decode cX11_hearts 24 = .ok (.istore_n 2, 1) := by decide +kernel
theorem dX11_hearts_25 : decode cX11_hearts 25 = .ok (.aload_n 0, 1) := by decide +kernel
theorem dX11_hearts_26 : decode cX11_hearts 26 = .ok (.getfield 9, 3) := by decide +kernel
theorem dX11_hearts_29 : decode cX11_hearts 29 = .ok (.iload_n 2, 1) := by decide +kernel
theorem dX11_hearts_30 : decode cX11_hearts 30 = .ok (.iaload, 1) := by decide +kernel
theorem dX11_hearts_31 : decode cX11_hearts 31 = .ok (.istore_n 3, 1) := by decide +kernel
theorem dX11_hearts_32 : decode cX11_hearts 32 = .ok (.iconst (-1), 1) := by decide +kernel
theorem dX11_hearts_33 : decode cX11_hearts 33 = .ok (.istore 4, 2) := by decide +kernel
theorem dX11_hearts_35 : decode cX11_hearts 35 = .ok (.iconst 0, 1) := by decide +kernel
theorem dX11_hearts_36 : decode cX11_hearts 36 = .ok (.istore 5, 2) := by decide +kernel
theorem dX11_hearts_38 : decode cX11_hearts 38 = .ok (.iload 5, 2) := by decide +kernel
theorem dX11_hearts_40 : decode cX11_hearts 40 = .ok (.bipush 9, 2) := by decide +kernel
theorem dX11_hearts_42 : decode cX11_hearts 42 = .ok (.if_icmp .ge 38, 3) := by decide +kernel
theorem dX11_hearts_45 : decode cX11_hearts 45 = .ok (.iload 4, 2) := by decide +kernel
theorem dX11_hearts_47 : decode cX11_hearts 47 = .ok (.ifCond .ge 33, 3) := by decide +kernel
theorem dX11_hearts_50 : decode cX11_hearts 50 = .ok (.aload_n 0, 1) := by decide +kernel
theorem dX11_hearts_51 : decode cX11_hearts 51 = .ok (.getfield 9, 3) := by decide +kernel
theorem dX11_hearts_54 : decode cX11_hearts 54 = .ok (.iload_n 2, 1) := by decide +kernel
theorem dX11_hearts_55 : decode cX11_hearts 55 = .ok (.iload 5, 2) := by decide +kernel
theorem dX11_hearts_57 : decode cX11_hearts 57 = .ok (.iastore, 1) := by decide +kernel
theorem dX11_hearts_58 : decode cX11_hearts 58 = .ok (.aload_n 0, 1) := by decide +kernel
theorem dX11_hearts_59 : decode cX11_hearts 59 = .ok (.iload_n 1, 1) := by decide +kernel
theorem dX11_hearts_60 : decode cX11_hearts 60 = .ok (.invokevirtual 303, 3) := by decide +kernel
theorem dX11_hearts_63 : decode cX11_hearts 63 = .ok (.ifCond .ne 8, 3) := by decide +kernel
theorem dX11_hearts_66 : decode cX11_hearts 66 = .ok (.iload 5, 2) := by decide +kernel
theorem dX11_hearts_68 : decode cX11_hearts 68 = .ok (.goto 4, 3) := by decide +kernel
theorem dX11_hearts_71 : decode cX11_hearts 71 = .ok (.iconst (-1), 1) := by decide +kernel
theorem dX11_hearts_72 : decode cX11_hearts 72 = .ok (.istore 4, 2) := by decide +kernel
theorem dX11_hearts_74 : decode cX11_hearts 74 = .ok (.iinc 5 1, 3) := by decide +kernel
theorem dX11_hearts_77 : decode cX11_hearts 77 = .ok (.goto (-39), 3) := by decide +kernel
theorem dX11_hearts_80 : decode cX11_hearts 80 = .ok (.aload_n 0, 1) := by decide +kernel
theorem dX11_hearts_81 : decode cX11_hearts 81 = .ok (.getfield 9, 3) := by decide +kernel
theorem dX11_hearts_84 : decode cX11_hearts 84 = .ok (.iload_n 2, 1) := by decide +kernel
theorem dX11_hearts_85 : decode cX11_hearts 85 = .ok (.iload_n 3, 1) := by decide +kernel
theorem dX11_hearts_86 : decode cX11_hearts 86 = .ok (.iastore, 1) := by decide +kernel
theorem dX11_hearts_87 : decode cX11_hearts 87 = .ok (.iload 4, 2) := by decide +kernel
theorem dX11_hearts_89 : decode cX11_hearts 89 = .ok (.ifCond .ge 11, 3) := by decide +kernel
theorem dX11_hearts_92 : decode cX11_hearts 92 = .ok (.aload_n 0, 1) := by decide +kernel
theorem dX11_hearts_93 : decode cX11_hearts 93 = .ok (.iconst 3, 1) := by decide +kernel
theorem dX11_hearts_94 : decode cX11_hearts 94 = .ok (.invokevirtual 122, 3) := by decide +kernel
theorem dX11_hearts_97 : decode cX11_hearts 97 = .ok (.goto 5, 3) := by decide +kernel
theorem dX11_hearts_100 : decode cX11_hearts 100 = .ok (.iload 4, 2) := by decide +kernel
theorem dX11_hearts_102 : decode cX11_hearts 102 = .ok (.ireturn, 1) := by decide +kernel
def S_X11_hearts_38 (fn : Mem → Int → Int → Int → Int → Int → Option (Int × Mem)) (p : Program) (l : Launch) (e : Env) (R : Room) (s : State) (m : MethodId) (args : Array Value) (below : List Frame) (meth : Method) (c : Code) (G : GT) (τ : Mem) (res : Int) : Prop := ∀ (σ : Mem) (H : Heap) (locs : List Loc) (ls : Array Slot) (l1 : Int) (l2 : Int) (l3 : Int) (l4 : Int) (l5 : Int), PW G σ H → va_S (AA G) s.heap H locs → fn σ l1 l2 l3 l4 l5 = some (res, τ) → lv_has ls 6 [(0, .ref (gh G + 111)), (1, .int (i32 l1)), (2, .int (i32 l2)), (3, .int (i32 l3)), (4, .int (i32 l4)), (5, .int (i32 l5))] → W p l e R s m args below meth c H locs 0 0 (MQ below (QM G (some (.int (i32 res))) τ) args s 0 0 (AA G)) (F0 m 38 ls [])
def X11_hearts_B80 (σ : Mem) (l2 : Int) (l3 : Int) (l4 : Int) : Option (Int × Mem) :=
  ag 766 l2 fun j1 =>
  lt (st σ 112 j1 l3) fun s2 =>
  if 0 ≤ w32 l4 then
    some (l4, s2)
  else
  bd2 (X11_finds s2 3) fun r3 s4 =>
  some (r3, s4)
def S_X11_hearts_80 (fn : Mem → Int → Int → Int → Option (Int × Mem)) (p : Program) (l : Launch) (e : Env) (R : Room) (s : State) (m : MethodId) (args : Array Value) (below : List Frame) (meth : Method) (c : Code) (G : GT) (τ : Mem) (res : Int) : Prop := ∀ (σ : Mem) (H : Heap) (locs : List Loc) (ls : Array Slot) (l2 : Int) (l3 : Int) (l4 : Int), PW G σ H → va_S (AA G) s.heap H locs → fn σ l2 l3 l4 = some (res, τ) → lv_has ls 6 [(0, .ref (gh G + 111)), (2, .int (i32 l2)), (3, .int (i32 l3)), (4, .int (i32 l4))] → W p l e R s m args below meth c H locs 0 0 (MQ below (QM G (some (.int (i32 res))) τ) args s 0 0 (AA G)) (F0 m 80 ls [])
def X11_hearts_B72 (rec38 : Mem → Int → Int → Int → Int → Int → Option (Int × Mem)) (σ : Mem) (l1 : Int) (l2 : Int) (l3 : Int) (l5 : Int) (k0 : Int) : Option (Int × Mem) :=
  lt (l5 + 1) fun l5_1 =>
  rec38 σ l1 l2 l3 k0 l5_1
def S_X11_hearts_72 (fn : Mem → Int → Int → Int → Int → Int → Option (Int × Mem)) (p : Program) (l : Launch) (e : Env) (R : Room) (s : State) (m : MethodId) (args : Array Value) (below : List Frame) (meth : Method) (c : Code) (G : GT) (τ : Mem) (res : Int) : Prop := ∀ (σ : Mem) (H : Heap) (locs : List Loc) (ls : Array Slot) (l1 : Int) (l2 : Int) (l3 : Int) (l5 : Int) (k0 : Int), PW G σ H → va_S (AA G) s.heap H locs → fn σ l1 l2 l3 l5 k0 = some (res, τ) → lv_has ls 6 [(0, .ref (gh G + 111)), (1, .int (i32 l1)), (2, .int (i32 l2)), (3, .int (i32 l3)), (5, .int (i32 l5))] → W p l e R s m args below meth c H locs 0 0 (MQ below (QM G (some (.int (i32 res))) τ) args s 0 0 (AA G)) (F0 m 72 ls [.int (i32 k0)])
def X11_hearts_B38 (rec38 : Mem → Int → Int → Int → Int → Int → Option (Int × Mem)) (σ : Mem) (l1 : Int) (l2 : Int) (l3 : Int) (l4 : Int) (l5 : Int) : Option (Int × Mem) :=
  if w32 9 ≤ w32 l5 then
    X11_hearts_B80 σ l2 l3 l4
  else
  if 0 ≤ w32 l4 then
    X11_hearts_B80 σ l2 l3 l4
  else
  ag 766 l2 fun j1 =>
  lt (st σ 112 j1 l5) fun s2 =>
  bd2 (X11_stopsOf s2 l1) fun r3 s4 =>
  if w32 r3 ≠ 0 then
    X11_hearts_B72 rec38 s4 l1 l2 l3 l5 (-1)
  else
  X11_hearts_B72 rec38 s4 l1 l2 l3 l5 l5
def X11_hearts_L38 : Nat → Mem → Int → Int → Int → Int → Int → Option (Int × Mem)
  | 0 => fun _ _ _ _ _ _ => none
  | n + 1 => X11_hearts_B38 (X11_hearts_L38 n)
def X11_hearts (σ : Mem) (l1 : Int) : Option (Int × Mem) :=
  bd (X11_isPart σ l1) fun r1 =>
  if w32 r1 ≠ 0 then
    bd (X11_findPages σ l1) fun s3 =>
    bd (X11_part s3 l1) fun r4 =>
    lt (r4 + 1) fun l2_5 =>
    ag 766 l2_5 fun j6 =>
    lt (s3 112 j6) fun l3_7 =>
    X11_hearts_L38 5000 s3 l1 l2_5 l3_7 (-1) 0
  else
  bd2 (X11_finds σ 0) fun r8 s9 =>
  some (r8, s9)
def S_X11_hearts_0 (fn : Mem → Int → Option (Int × Mem)) (p : Program) (l : Launch) (e : Env) (R : Room) (s : State) (m : MethodId) (args : Array Value) (below : List Frame) (meth : Method) (c : Code) (G : GT) (τ : Mem) (res : Int) : Prop := ∀ (σ : Mem) (H : Heap) (locs : List Loc) (ls : Array Slot) (l1 : Int), PW G σ H → va_S (AA G) s.heap H locs → fn σ l1 = some (res, τ) → lv_has ls 6 [(0, .ref (gh G + 111)), (1, .int (i32 l1))] → W p l e R s m args below meth c H locs 0 0 (MQ below (QM G (some (.int (i32 res))) τ) args s 0 0 (AA G)) (F0 m 0 ls [])
set_option maxHeartbeats 4000000 in
theorem a_X11_hearts_80 {p : Program} {l : Launch} {e : Env} {R : Room} {s : State} {m : MethodId} {args : Array Value} {below : List Frame} {meth : Method} {c : Code} {G : GT} {τ : Mem} {res : Int} (X : CX p R s m args meth c cX11_hearts 6 RX11 (some FieldType.int) 10 266 G) : S_X11_hearts_80 (X11_hearts_B80) p l e R s m args below meth c G τ res := by
  intro σ H locs ls l2 l3 l4 hP hS hf hl
  unfold X11_hearts_B80 at hf
  refine lv_aload_n X.1 X.2.1 dX11_hearts_80 rfl (lv_at hl 0 rfl) ?_
  refine g_11_0 (r := 112) X hP ks_11 rfl (tb t_1087 rfl) dX11_hearts_81 ?_
  refine lv_iload_n X.1 X.2.1 dX11_hearts_84 rfl (lv_at hl 1 rfl) ?_
  refine lv_iload_n X.1 X.2.1 dX11_hearts_85 rfl (lv_at hl 2 rfl) ?_
  obtain ⟨j1, hij1, hjj1, hlj1, hf⟩ := ag_inv hf
  refine r_iast X hP hS (ch_11_0 ks_11).1 (ch_11_0 ks_11).2 hij1 hjj1 dX11_hearts_86 (fun H locs hP hS => ?_)
  obtain ⟨s2, es2, hf⟩ := lt_inv hf
  rw [es2] at hP
  refine lv_iload X.1 X.2.1 dX11_hearts_87 (lv_at hl 3 rfl) ?_
  refine r_if_ge (tgt := 100) X dX11_hearts_89 (by decide) (fun q => ?_) (fun q => ?_)
  · replace hf := it_inv q hf
    refine lv_iload X.1 X.2.1 dX11_hearts_100 (lv_at hl 3 rfl) ?_
    obtain ⟨rfl, rfl⟩ := so2_inv hf
    exact r_iret X hP hS dX11_hearts_102
  · replace hf := ie_inv q hf
    refine lv_aload_n X.1 X.2.1 dX11_hearts_92 rfl (lv_at hl 0 rfl) ?_
    refine r_iconst X 3 dX11_hearts_93 ?_
    obtain ⟨r3, s4, hr3, hf⟩ := bd2_inv hf
    refine k_X11_finds X hP hS hl.1  hr3 (tb t_1219 rfl) (by decide) (Nat.le_of_ble_eq_true rfl) dX11_hearts_94 (fun H locs hP hS => ?_)
    refine lv_goto (tgt := 102) X.1 X.2.1 dX11_hearts_97 (by decide) ?_
    obtain ⟨rfl, rfl⟩ := so2_inv hf
    exact r_iret X hP hS dX11_hearts_102
set_option maxHeartbeats 4000000 in
theorem a_X11_hearts_72 {p : Program} {l : Launch} {e : Env} {R : Room} {s : State} {m : MethodId} {args : Array Value} {below : List Frame} {meth : Method} {c : Code} {G : GT} {τ : Mem} {res : Int} {rec38 : Mem → Int → Int → Int → Int → Int → Option (Int × Mem)} (X : CX p R s m args meth c cX11_hearts 6 RX11 (some FieldType.int) 10 266 G) (h38 : S_X11_hearts_38 rec38 p l e R s m args below meth c G τ res) : S_X11_hearts_72 (X11_hearts_B72 rec38) p l e R s m args below meth c G τ res := by
  intro σ H locs ls l1 l2 l3 l5 k0 hP hS hf hl
  unfold X11_hearts_B72 at hf
  refine lv_istore (lv' := [(4, .int (i32 k0)), (0, .ref (gh G + 111)), (1, .int (i32 l1)), (2, .int (i32 l2)), (3, .int (i32 l3)), (5, .int (i32 l5))]) X.1 X.2.1 dX11_hearts_72 hl (by decide) rfl (fun ls hl => ?_)
  obtain ⟨l5_1, el5_1, hf⟩ := lt_inv hf
  refine lv_iinc (v := i32 l5_1) (lv' := [(5, .int (i32 l5_1)), (4, .int (i32 k0)), (0, .ref (gh G + 111)), (1, .int (i32 l1)), (2, .int (i32 l2)), (3, .int (i32 l3))]) X.1 X.2.1 dX11_hearts_74 hl (k := 5) rfl (by rw [← el5_1]; exact i32_add _ _) (by decide) rfl (fun ls hl => ?_)
  refine lv_goto (tgt := 38) X.1 X.2.1 dX11_hearts_77 (by decide) ?_
  exact h38 σ H locs ls l1 l2 l3 k0 l5_1 hP hS hf (lv_sub hl [2, 3, 4, 5, 1, 0] rfl)
set_option maxHeartbeats 4000000 in
theorem a_X11_hearts_38 {p : Program} {l : Launch} {e : Env} {R : Room} {s : State} {m : MethodId} {args : Array Value} {below : List Frame} {meth : Method} {c : Code} {G : GT} {τ : Mem} {res : Int} {rec38 : Mem → Int → Int → Int → Int → Int → Option (Int × Mem)} (X : CX p R s m args meth c cX11_hearts 6 RX11 (some FieldType.int) 10 266 G) (h38 : S_X11_hearts_38 rec38 p l e R s m args below meth c G τ res) : S_X11_hearts_38 (X11_hearts_B38 rec38) p l e R s m args below meth c G τ res := by
  intro σ H locs ls l1 l2 l3 l4 l5 hP hS hf hl
  unfold X11_hearts_B38 at hf
  refine lv_iload X.1 X.2.1 dX11_hearts_38 (lv_at hl 5 rfl) ?_
  refine r_bipush X 9 (by decide) dX11_hearts_40 ?_
  refine r_icmp_ge (tgt := 80) X dX11_hearts_42 (by decide) (fun q => ?_) (fun q => ?_)
  · replace hf := it_inv q hf
    exact a_X11_hearts_80 X σ H locs ls l2 l3 l4 hP hS hf (lv_sub hl [0, 2, 3, 4] rfl)
  · replace hf := ie_inv q hf
    refine lv_iload X.1 X.2.1 dX11_hearts_45 (lv_at hl 4 rfl) ?_
    refine r_if_ge (tgt := 80) X dX11_hearts_47 (by decide) (fun q => ?_) (fun q => ?_)
    · replace hf := it_inv q hf
      exact a_X11_hearts_80 X σ H locs ls l2 l3 l4 hP hS hf (lv_sub hl [0, 2, 3, 4] rfl)
    · replace hf := ie_inv q hf
      refine lv_aload_n X.1 X.2.1 dX11_hearts_50 rfl (lv_at hl 0 rfl) ?_
      refine g_11_0 (r := 112) X hP ks_11 rfl (tb t_1087 rfl) dX11_hearts_51 ?_
      refine lv_iload_n X.1 X.2.1 dX11_hearts_54 rfl (lv_at hl 2 rfl) ?_
      refine lv_iload X.1 X.2.1 dX11_hearts_55 (lv_at hl 5 rfl) ?_
      obtain ⟨j1, hij1, hjj1, hlj1, hf⟩ := ag_inv hf
      refine r_iast X hP hS (ch_11_0 ks_11).1 (ch_11_0 ks_11).2 hij1 hjj1 dX11_hearts_57 (fun H locs hP hS => ?_)
      obtain ⟨s2, es2, hf⟩ := lt_inv hf
      rw [es2] at hP
      refine lv_aload_n X.1 X.2.1 dX11_hearts_58 rfl (lv_at hl 0 rfl) ?_
      refine lv_iload_n X.1 X.2.1 dX11_hearts_59 rfl (lv_at hl 1 rfl) ?_
      obtain ⟨r3, s4, hr3, hf⟩ := bd2_inv hf
      refine k_X11_stopsOf X hP hS hl.1  hr3 (tb t_1442 rfl) (by decide) (Nat.le_of_ble_eq_true rfl) dX11_hearts_60 (fun H locs hP hS => ?_)
      refine r_if_ne (tgt := 71) X dX11_hearts_63 (by decide) (fun q => ?_) (fun q => ?_)
      · replace hf := it_inv q hf
        refine r_iconst X (-1) dX11_hearts_71 ?_
        exact a_X11_hearts_72 X h38 s4 H locs ls l1 l2 l3 l5 (-1) hP hS hf (lv_sub hl [0, 1, 2, 3, 5] rfl)
      · replace hf := ie_inv q hf
        refine lv_iload X.1 X.2.1 dX11_hearts_66 (lv_at hl 5 rfl) ?_
        refine lv_goto (tgt := 72) X.1 X.2.1 dX11_hearts_68 (by decide) ?_
        exact a_X11_hearts_72 X h38 s4 H locs ls l1 l2 l3 l5 l5 hP hS hf (lv_sub hl [0, 1, 2, 3, 5] rfl)
theorem al_X11_hearts_38 {p : Program} {l : Launch} {e : Env} {R : Room} {s : State} {m : MethodId} {args : Array Value} {below : List Frame} {meth : Method} {c : Code} {G : GT} {τ : Mem} {res : Int} (X : CX p R s m args meth c cX11_hearts 6 RX11 (some FieldType.int) 10 266 G) : ∀ n, S_X11_hearts_38 (X11_hearts_L38 n) p l e R s m args below meth c G τ res := by
  intro n
  induction n with
  | zero =>
    intro σ H locs ls l1 l2 l3 l4 l5 hP hS hf hl
    cases hf
  | succ n ih => exact a_X11_hearts_38 X ih
set_option maxHeartbeats 4000000 in
theorem a_X11_hearts_0 {p : Program} {l : Launch} {e : Env} {R : Room} {s : State} {m : MethodId} {args : Array Value} {below : List Frame} {meth : Method} {c : Code} {G : GT} {τ : Mem} {res : Int} (X : CX p R s m args meth c cX11_hearts 6 RX11 (some FieldType.int) 10 266 G) : S_X11_hearts_0 (X11_hearts) p l e R s m args below meth c G τ res := by
  intro σ H locs ls l1 hP hS hf hl
  unfold X11_hearts at hf
  refine lv_iload_n X.1 X.2.1 dX11_hearts_0 rfl (lv_at hl 1 rfl) ?_
  obtain ⟨r1, hr1, hf⟩ := bd_inv hf
  refine k_X11_isPart X hP hS hl.1  hr1 (tb t_1204 rfl) (by decide) (Nat.le_of_ble_eq_true rfl) dX11_hearts_1 (fun H locs hP hS => ?_)
  refine r_if_ne (tgt := 13) X dX11_hearts_4 (by decide) (fun q => ?_) (fun q => ?_)
  · replace hf := it_inv q hf
    refine lv_aload_n X.1 X.2.1 dX11_hearts_13 rfl (lv_at hl 0 rfl) ?_
    refine lv_iload_n X.1 X.2.1 dX11_hearts_14 rfl (lv_at hl 1 rfl) ?_
    obtain ⟨s3, hr2, hf⟩ := bd_inv hf
    refine k_X11_findPages X hP hS hl.1  hr2 (tb t_1397 rfl) (by decide) (Nat.le_of_ble_eq_true rfl) dX11_hearts_15 (fun H locs hP hS => ?_)
    refine lv_iload_n X.1 X.2.1 dX11_hearts_18 rfl (lv_at hl 1 rfl) ?_
    obtain ⟨r4, hr4, hf⟩ := bd_inv hf
    refine k_X11_part X hP hS hl.1  hr4 (tb t_1084 rfl) (by decide) (Nat.le_of_ble_eq_true rfl) dX11_hearts_19 (fun H locs hP hS => ?_)
    refine r_iconst X 1 dX11_hearts_22 ?_
    refine r_iadd X dX11_hearts_23 ?_
    obtain ⟨l2_5, el2_5, hf⟩ := lt_inv hf
    refine r_eqi el2_5 ?_
    refine lv_istore_n (lv' := [(2, .int (i32 l2_5)), (0, .ref (gh G + 111)), (1, .int (i32 l1))]) X.1 X.2.1 dX11_hearts_24 rfl hl (by decide) rfl (fun ls hl => ?_)
    refine lv_aload_n X.1 X.2.1 dX11_hearts_25 rfl (lv_at hl 1 rfl) ?_
    refine g_11_0 (r := 112) X hP ks_11 rfl (tb t_1087 rfl) dX11_hearts_26 ?_
    refine lv_iload_n X.1 X.2.1 dX11_hearts_29 rfl (lv_at hl 0 rfl) ?_
    obtain ⟨j6, hij6, hjj6, hlj6, hf⟩ := ag_inv hf
    refine r_iald X hP (ch_11_0 ks_11).1 (ch_11_0 ks_11).2 hij6 hjj6 dX11_hearts_30 ?_
    obtain ⟨l3_7, el3_7, hf⟩ := lt_inv hf
    refine r_eqi el3_7 ?_
    refine lv_istore_n (lv' := [(3, .int (i32 l3_7)), (2, .int (i32 l2_5)), (0, .ref (gh G + 111)), (1, .int (i32 l1))]) X.1 X.2.1 dX11_hearts_31 rfl hl (by decide) rfl (fun ls hl => ?_)
    refine r_iconst X (-1) dX11_hearts_32 ?_
    refine lv_istore (lv' := [(4, .int (i32 (-1))), (3, .int (i32 l3_7)), (2, .int (i32 l2_5)), (0, .ref (gh G + 111)), (1, .int (i32 l1))]) X.1 X.2.1 dX11_hearts_33 hl (by decide) rfl (fun ls hl => ?_)
    refine r_iconst X 0 dX11_hearts_35 ?_
    refine lv_istore (lv' := [(5, .int (i32 0)), (4, .int (i32 (-1))), (3, .int (i32 l3_7)), (2, .int (i32 l2_5)), (0, .ref (gh G + 111)), (1, .int (i32 l1))]) X.1 X.2.1 dX11_hearts_36 hl (by decide) rfl (fun ls hl => ?_)
    exact al_X11_hearts_38 X 5000 s3 H locs ls l1 l2_5 l3_7 (-1) 0 hP hS hf (lv_sub hl [4, 5, 3, 2, 1, 0] rfl)
  · replace hf := ie_inv q hf
    refine lv_aload_n X.1 X.2.1 dX11_hearts_7 rfl (lv_at hl 0 rfl) ?_
    refine r_iconst X 0 dX11_hearts_8 ?_
    obtain ⟨r8, s9, hr8, hf⟩ := bd2_inv hf
    refine k_X11_finds X hP hS hl.1  hr8 (tb t_1219 rfl) (by decide) (Nat.le_of_ble_eq_true rfl) dX11_hearts_9 (fun H locs hP hS => ?_)
    obtain ⟨rfl, rfl⟩ := so2_inv hf
    exact r_iret X hP hS dX11_hearts_12
set_option maxHeartbeats 4000000 in
theorem c_X11_hearts {l : Launch} {G : GT} {σ τ : Mem} {res : Int} {l1 : Int} (hf : X11_hearts σ l1 = some (res, τ)) : CT l yX11_hearts cX11_hearts 6 (some FieldType.int) 10 266 G [.ref (gh G + 111), .int (i32 l1)] σ τ (some (.int (i32 res))) := by
  refine CT.mk (own := RX11) (by decide) rfl (Nat.le_of_ble_eq_true rfl) ?_
  intro p e s m below meth c ls X hP hS hl
  have hl : lv_has ls 6 [(0, .ref (gh G + 111)), (1, .int (i32 l1))] := hl
  exact a_X11_hearts_0 X σ s.heap [] ls l1 hP hS hf hl
theorem k_X11_hearts {p : Program} {l : Launch} {e : Env} {R : Room} {s : State} {m : MethodId} {args : Array Value} {below : List Frame} {meth : Method} {c : Code} {H : Heap} {locs : List Loc} {Q : State → Prop} {cc : ByteArray} {nL : Nat} {own : String} {ret : Option FieldType} {fF fL : Nat} {G : GT} {pc idx : Nat} {ls : Array Slot} {rest : List Value} {σ τ : Mem} {res : Int} {l1 : Int} (X : CX p R s m args meth c cc nL own ret fF fL G) (hP : PW G σ H) (hS : va_S (AA G) s.heap H locs) (hls : ls.size = nL) (hf : X11_hearts σ l1 = some (res, τ)) (h1 : Cond.methodLink own idx yX11_hearts ∈ TB) (hR : 10 + 1 ≤ fF ∧ 8 + (6 + 11) + 266 ≤ fL) (hW : (rest.map fun v => v.category).sum ≤ 8) (hd : decode cc pc = .ok (.invokevirtual idx, 3)) (kk : ∀ (H1 : Heap) (locs1 : List Loc), PW G τ H1 → va_S (AA G) s.heap H1 locs1 → W p l e R s m args below meth c H1 locs1 0 0 Q (F0 m (pc + 3) ls (.int (i32 res) :: rest))) : W p l e R s m args below meth c H locs 0 0 Q (F0 m pc ls (.int (i32 l1) :: .ref (gh G + 111) :: rest)) := r_callV (n := 1) X hP hS hls (c_X11_hearts hf) h1 (tb t_1439 rfl) (tb t_1440 rfl) (tb t_87 rfl) (tb t_1441 rfl) (by decide +kernel) hR (r_recv X hP (kd_lt ks_11 (by decide)) (cE_11 ks_11) rfl) rfl rfl hW hd kk
/-! X11_hold -/
theorem dX11_hold_0 : decode cX11_hold 0 = .ok (.iload_n 1, 1) := by decide +kernel
theorem dX11_hold_1 : decode cX11_hold 1 = .ok (.i2l, 1) := by decide +kernel
theorem dX11_hold_2 : decode cX11_hold 2 = .ok (.lconst 0, 1) := by decide +kernel
theorem dX11_hold_3 : decode cX11_hold 3 = .ok (.ldc2_w 333, 3) := by decide +kernel
theorem dX11_hold_6 : decode cX11_hold 6 = .ok (.invokestatic 93, 3) := by decide +kernel
theorem dX11_hold_9 : decode cX11_hold 9 = .ok (.ifCond .eq 16, 3) := by decide +kernel
theorem dX11_hold_12 : decode cX11_hold 12 = .ok (.iload_n 2, 1) := by decide +kernel
theorem dX11_hold_13 : decode cX11_hold 13 = .ok (.iconst (-1), 1) := by decide +kernel
theorem dX11_hold_14 : decode cX11_hold 14 = .ok (.if_icmp .eq 17, 3) := by decide +kernel
theorem dX11_hold_17 : decode cX11_hold 17 = .ok (.aload_n 0, 1) := by decide +kernel
theorem dX11_hold_18 : decode cX11_hold 18 = .ok (.iload_n 2, 1) := by decide +kernel
theorem dX11_hold_19 : decode cX11_hold 19 = .ok (.invokevirtual 324, 3) := by decide +kernel
theorem dX11_hold_22 : decode cX11_hold 22 = .ok (.ifCond .ne 9, 3) := by decide +kernel
theorem dX11_hold_25 : decode cX11_hold 25 = .ok (.aload_n 0, 1) := by decide +kernel
theorem dX11_hold_26 : decode cX11_hold 26 = .ok (.iconst 0, 1) := by decide +kernel
theorem dX11_hold_27 : decode cX11_hold 27 = .ok (.invokevirtual 122, 3) := by decide +kernel
theorem dX11_hold_30 : decode cX11_hold 30 = .ok (.ireturn, 1) := by decide +kernel
theorem dX11_hold_31 : decode cX11_hold 31 = .ok (.aload_n 0, 1) := by decide +kernel
theorem dX11_hold_32 : decode cX11_hold 32 = .ok (.getfield 9, 3) := by decide +kernel
theorem dX11_hold_35 : decode cX11_hold 35 = .ok (.sipush 756, 3) := by decide +kernel
theorem dX11_hold_38 : decode cX11_hold 38 = .ok (.iload_n 1, 1) := by decide +kernel
theorem dX11_hold_39 : decode cX11_hold 39 = .ok (.iadd, 1) := by decide +kernel
theorem dX11_hold_40 : decode cX11_hold 40 = .ok (.iload_n 2, 1) := by decide +kernel
theorem dX11_hold_41 : decode cX11_hold 41 = .ok (.iastore, 1) := by decide +kernel
theorem dX11_hold_42 : decode cX11_hold 42 = .ok (.iconst 1, 1) := by decide +kernel
theorem dX11_hold_43 : decode cX11_hold 43 = .ok (.ireturn, 1) := by decide +kernel
def X11_hold_B31 (σ : Mem) (l1 : Int) (l2 : Int) : Option (Int × Mem) :=
  ag 766 (756 + l1) fun j1 =>
  lt (st σ 112 j1 l2) fun s2 =>
  some (1, s2)
def S_X11_hold_31 (fn : Mem → Int → Int → Option (Int × Mem)) (p : Program) (l : Launch) (e : Env) (R : Room) (s : State) (m : MethodId) (args : Array Value) (below : List Frame) (meth : Method) (c : Code) (G : GT) (τ : Mem) (res : Int) : Prop := ∀ (σ : Mem) (H : Heap) (locs : List Loc) (ls : Array Slot) (l1 : Int) (l2 : Int), PW G σ H → va_S (AA G) s.heap H locs → fn σ l1 l2 = some (res, τ) → lv_has ls 3 [(0, .ref (gh G + 111)), (1, .int (i32 l1)), (2, .int (i32 l2))] → W p l e R s m args below meth c H locs 0 0 (MQ below (QM G (some (.int (i32 res))) τ) args s 0 0 (AA G)) (F0 m 31 ls [])
def X11_hold_B25 (σ : Mem) : Option (Int × Mem) :=
  bd2 (X11_finds σ 0) fun r1 s2 =>
  some (r1, s2)
def S_X11_hold_25 (fn : Mem → Option (Int × Mem)) (p : Program) (l : Launch) (e : Env) (R : Room) (s : State) (m : MethodId) (args : Array Value) (below : List Frame) (meth : Method) (c : Code) (G : GT) (τ : Mem) (res : Int) : Prop := ∀ (σ : Mem) (H : Heap) (locs : List Loc) (ls : Array Slot), PW G σ H → va_S (AA G) s.heap H locs → fn σ = some (res, τ) → lv_has ls 3 [(0, .ref (gh G + 111))] → W p l e R s m args below meth c H locs 0 0 (MQ below (QM G (some (.int (i32 res))) τ) args s 0 0 (AA G)) (F0 m 25 ls [])
def X11_hold (σ : Mem) (l1 : Int) (l2 : Int) : Option (Int × Mem) :=
  bd (X11_in σ (w32 l1) 0 9) fun r1 =>
  if w32 r1 = 0 then
    X11_hold_B25 σ
  else
  if w32 l2 = w32 (-1) then
    X11_hold_B31 σ l1 l2
  else
  bd (X11_isBreak σ l2) fun r2 =>
  if w32 r2 ≠ 0 then
    X11_hold_B31 σ l1 l2
  else
  X11_hold_B25 σ
def S_X11_hold_0 (fn : Mem → Int → Int → Option (Int × Mem)) (p : Program) (l : Launch) (e : Env) (R : Room) (s : State) (m : MethodId) (args : Array Value) (below : List Frame) (meth : Method) (c : Code) (G : GT) (τ : Mem) (res : Int) : Prop := ∀ (σ : Mem) (H : Heap) (locs : List Loc) (ls : Array Slot) (l1 : Int) (l2 : Int), PW G σ H → va_S (AA G) s.heap H locs → fn σ l1 l2 = some (res, τ) → lv_has ls 3 [(0, .ref (gh G + 111)), (1, .int (i32 l1)), (2, .int (i32 l2))] → W p l e R s m args below meth c H locs 0 0 (MQ below (QM G (some (.int (i32 res))) τ) args s 0 0 (AA G)) (F0 m 0 ls [])
set_option maxHeartbeats 4000000 in
theorem a_X11_hold_31 {p : Program} {l : Launch} {e : Env} {R : Room} {s : State} {m : MethodId} {args : Array Value} {below : List Frame} {meth : Method} {c : Code} {G : GT} {τ : Mem} {res : Int} (X : CX p R s m args meth c cX11_hold 3 RX11 (some FieldType.int) 3 106 G) : S_X11_hold_31 (X11_hold_B31) p l e R s m args below meth c G τ res := by
  intro σ H locs ls l1 l2 hP hS hf hl
  unfold X11_hold_B31 at hf
  refine lv_aload_n X.1 X.2.1 dX11_hold_31 rfl (lv_at hl 0 rfl) ?_
  refine g_11_0 (r := 112) X hP ks_11 rfl (tb t_1087 rfl) dX11_hold_32 ?_
  refine r_sipush X 756 (by decide) dX11_hold_35 ?_
  refine lv_iload_n X.1 X.2.1 dX11_hold_38 rfl (lv_at hl 1 rfl) ?_
  refine r_iadd X dX11_hold_39 ?_
  refine lv_iload_n X.1 X.2.1 dX11_hold_40 rfl (lv_at hl 2 rfl) ?_
  obtain ⟨j1, hij1, hjj1, hlj1, hf⟩ := ag_inv hf
  refine r_iast X hP hS (ch_11_0 ks_11).1 (ch_11_0 ks_11).2 hij1 hjj1 dX11_hold_41 (fun H locs hP hS => ?_)
  obtain ⟨s2, es2, hf⟩ := lt_inv hf
  rw [es2] at hP
  refine r_iconst X 1 dX11_hold_42 ?_
  obtain ⟨rfl, rfl⟩ := so2_inv hf
  exact r_iret X hP hS dX11_hold_43
set_option maxHeartbeats 4000000 in
theorem a_X11_hold_25 {p : Program} {l : Launch} {e : Env} {R : Room} {s : State} {m : MethodId} {args : Array Value} {below : List Frame} {meth : Method} {c : Code} {G : GT} {τ : Mem} {res : Int} (X : CX p R s m args meth c cX11_hold 3 RX11 (some FieldType.int) 3 106 G) : S_X11_hold_25 (X11_hold_B25) p l e R s m args below meth c G τ res := by
  intro σ H locs ls hP hS hf hl
  unfold X11_hold_B25 at hf
  refine lv_aload_n X.1 X.2.1 dX11_hold_25 rfl (lv_at hl 0 rfl) ?_
  refine r_iconst X 0 dX11_hold_26 ?_
  obtain ⟨r1, s2, hr1, hf⟩ := bd2_inv hf
  refine k_X11_finds X hP hS hl.1  hr1 (tb t_1219 rfl) (by decide) (Nat.le_of_ble_eq_true rfl) dX11_hold_27 (fun H locs hP hS => ?_)
  obtain ⟨rfl, rfl⟩ := so2_inv hf
  exact r_iret X hP hS dX11_hold_30
set_option maxHeartbeats 4000000 in
theorem a_X11_hold_0 {p : Program} {l : Launch} {e : Env} {R : Room} {s : State} {m : MethodId} {args : Array Value} {below : List Frame} {meth : Method} {c : Code} {G : GT} {τ : Mem} {res : Int} (X : CX p R s m args meth c cX11_hold 3 RX11 (some FieldType.int) 3 106 G) : S_X11_hold_0 (X11_hold) p l e R s m args below meth c G τ res := by
  intro σ H locs ls l1 l2 hP hS hf hl
  unfold X11_hold at hf
  refine lv_iload_n X.1 X.2.1 dX11_hold_0 rfl (lv_at hl 1 rfl) ?_
  refine r_i2l X dX11_hold_1 ?_
  refine r_lconst X 0 0 (by decide) dX11_hold_2 ?_
  refine r_ldc2 X 9 (tb t_1517 rfl) (by decide) dX11_hold_3 ?_
  obtain ⟨r1, hr1, hf⟩ := bd_inv hf
  refine k_X11_in X hP hS hl.1  hr1 (tb t_1208 rfl) (by decide) (Nat.le_of_ble_eq_true rfl) dX11_hold_6 (fun H locs hP hS => ?_)
  refine r_if_eq (tgt := 25) X dX11_hold_9 (by decide) (fun q => ?_) (fun q => ?_)
  · replace hf := it_inv q hf
    exact a_X11_hold_25 X σ H locs ls  hP hS hf (lv_sub hl [0] rfl)
  · replace hf := ie_inv q hf
    refine lv_iload_n X.1 X.2.1 dX11_hold_12 rfl (lv_at hl 2 rfl) ?_
    refine r_iconst X (-1) dX11_hold_13 ?_
    refine r_icmp_eq (tgt := 31) X dX11_hold_14 (by decide) (fun q => ?_) (fun q => ?_)
    · replace hf := it_inv q hf
      exact a_X11_hold_31 X σ H locs ls l1 l2 hP hS hf hl
    · replace hf := ie_inv q hf
      refine lv_aload_n X.1 X.2.1 dX11_hold_17 rfl (lv_at hl 0 rfl) ?_
      refine lv_iload_n X.1 X.2.1 dX11_hold_18 rfl (lv_at hl 2 rfl) ?_
      obtain ⟨r2, hr2, hf⟩ := bd_inv hf
      refine k_X11_isBreak X hP hS hl.1  hr2 (tb t_1485 rfl) (by decide) (Nat.le_of_ble_eq_true rfl) dX11_hold_19 (fun H locs hP hS => ?_)
      refine r_if_ne (tgt := 31) X dX11_hold_22 (by decide) (fun q => ?_) (fun q => ?_)
      · replace hf := it_inv q hf
        exact a_X11_hold_31 X σ H locs ls l1 l2 hP hS hf hl
      · replace hf := ie_inv q hf
        exact a_X11_hold_25 X σ H locs ls  hP hS hf (lv_sub hl [0] rfl)
set_option maxHeartbeats 4000000 in
theorem c_X11_hold {l : Launch} {G : GT} {σ τ : Mem} {res : Int} {l1 : Int} {l2 : Int} (hf : X11_hold σ l1 l2 = some (res, τ)) : CT l yX11_hold cX11_hold 3 (some FieldType.int) 3 106 G [.ref (gh G + 111), .int (i32 l1), .int (i32 l2)] σ τ (some (.int (i32 res))) := by
  refine CT.mk (own := RX11) (by decide) rfl (Nat.le_of_ble_eq_true rfl) ?_
  intro p e s m below meth c ls X hP hS hl
  have hl : lv_has ls 3 [(0, .ref (gh G + 111)), (1, .int (i32 l1)), (2, .int (i32 l2))] := hl
  exact a_X11_hold_0 X σ s.heap [] ls l1 l2 hP hS hf hl
theorem k_X11_hold {p : Program} {l : Launch} {e : Env} {R : Room} {s : State} {m : MethodId} {args : Array Value} {below : List Frame} {meth : Method} {c : Code} {H : Heap} {locs : List Loc} {Q : State → Prop} {cc : ByteArray} {nL : Nat} {own : String} {ret : Option FieldType} {fF fL : Nat} {G : GT} {pc idx : Nat} {ls : Array Slot} {rest : List Value} {σ τ : Mem} {res : Int} {l1 : Int} {l2 : Int} (X : CX p R s m args meth c cc nL own ret fF fL G) (hP : PW G σ H) (hS : va_S (AA G) s.heap H locs) (hls : ls.size = nL) (hf : X11_hold σ l1 l2 = some (res, τ)) (h1 : Cond.methodLink own idx yX11_hold ∈ TB) (hR : 3 + 1 ≤ fF ∧ 8 + (3 + 11) + 106 ≤ fL) (hW : (rest.map fun v => v.category).sum ≤ 8) (hd : decode cc pc = .ok (.invokevirtual idx, 3)) (kk : ∀ (H1 : Heap) (locs1 : List Loc), PW G τ H1 → va_S (AA G) s.heap H1 locs1 → W p l e R s m args below meth c H1 locs1 0 0 Q (F0 m (pc + 3) ls (.int (i32 res) :: rest))) : W p l e R s m args below meth c H locs 0 0 Q (F0 m pc ls (.int (i32 l2) :: .int (i32 l1) :: .ref (gh G + 111) :: rest)) := r_callV (n := 2) X hP hS hls (c_X11_hold hf) h1 (tb t_1514 rfl) (tb t_1515 rfl) (tb t_87 rfl) (tb t_1516 rfl) (by decide +kernel) hR (r_recv X hP (kd_lt ks_11 (by decide)) (cE_11 ks_11) rfl) rfl rfl hW hd kk
/-! X11_image -/
theorem dX11_image_0 : decode cX11_image 0 = .ok (.iconst 0, 1) := by decide +kernel
theorem dX11_image_1 : decode cX11_image 1 = .ok (.istore_n 1, 1) := by decide +kernel
theorem dX11_image_2 : decode cX11_image 2 = .ok (.iload_n 1, 1) := by decide +kernel
theorem dX11_image_3 : decode cX11_image 3 = .ok (.sipush 766, 3) := by decide +kernel
theorem dX11_image_6 : decode cX11_image 6 = .ok (.if_icmp .ge 21, 3) := by decide +kernel
theorem dX11_image_9 : decode cX11_image 9 = .ok (.aload_n 0, 1) := by decide +kernel
theorem dX11_image_10 : decode cX11_image 10 = .ok (.getfield 13, 3) := by decide +kernel
theorem dX11_image_13 : decode cX11_image 13 = .ok (.iload_n 1, 1) := by decide +kernel
theorem dX11_image_14 : decode cX11_image 14 = .ok (.aload_n 0, 1) := by decide +kernel
theorem dX11_image_15 : decode cX11_image 15 = .ok (.getfield 9, 3) := by decide +kernel
theorem dX11_image_18 : decode cX11_image 18 = .ok (.iload_n 1, 1) := by decide +kernel
theorem dX11_image_19 : decode cX11_image 19 = .ok (.iaload, 1) := by decide +kernel
theorem dX11_image_20 : decode cX11_image 20 = .ok (.iastore, 1) := by decide +kernel
theorem dX11_image_21 : decode cX11_image 21 = .ok (.iinc 1 1, 3) := by decide +kernel
theorem dX11_image_24 : decode cX11_image 24 = .ok (.goto (-22), 3) := by decide +kernel
theorem dX11_image_27 : decode cX11_image 27 = .ok (.aload_n 0, 1) := by decide +kernel
theorem dX11_image_28 : decode cX11_image 28 = .ok (.iconst 1, 1) := by decide +kernel
theorem dX11_image_29 : decode cX11_image 29 = .ok (.putfield 343, 3) := by decide +kernel
theorem dX11_image_32 : decode cX11_image 32 = .ok (.iconst 1, 1) := by decide +kernel
theorem dX11_image_33 : decode cX11_image 33 = .ok (.ireturn, 1) := by decide +kernel
def S_X11_image_2 (fn : Mem → Int → Option (Int × Mem)) (p : Program) (l : Launch) (e : Env) (R : Room) (s : State) (m : MethodId) (args : Array Value) (below : List Frame) (meth : Method) (c : Code) (G : GT) (τ : Mem) (res : Int) : Prop := ∀ (σ : Mem) (H : Heap) (locs : List Loc) (ls : Array Slot) (l1 : Int), PW G σ H → va_S (AA G) s.heap H locs → fn σ l1 = some (res, τ) → lv_has ls 2 [(0, .ref (gh G + 111)), (1, .int (i32 l1))] → W p l e R s m args below meth c H locs 0 0 (MQ below (QM G (some (.int (i32 res))) τ) args s 0 0 (AA G)) (F0 m 2 ls [])
def X11_image_B2 (rec2 : Mem → Int → Option (Int × Mem)) (σ : Mem) (l1 : Int) : Option (Int × Mem) :=
  if w32 766 ≤ w32 l1 then
    lt (st σ 111 2 1) fun s1 =>
    some (1, s1)
  else
  ag 766 l1 fun j2 =>
  ag 766 l1 fun j3 =>
  lt (st σ 113 j3 (σ 112 j2)) fun s4 =>
  lt (l1 + 1) fun l1_5 =>
  rec2 s4 l1_5
def X11_image_L2 : Nat → Mem → Int → Option (Int × Mem)
  | 0 => fun _ _ => none
  | n + 1 => X11_image_B2 (X11_image_L2 n)
def X11_image (σ : Mem) : Option (Int × Mem) :=
  X11_image_L2 5000 σ 0
def S_X11_image_0 (fn : Mem → Option (Int × Mem)) (p : Program) (l : Launch) (e : Env) (R : Room) (s : State) (m : MethodId) (args : Array Value) (below : List Frame) (meth : Method) (c : Code) (G : GT) (τ : Mem) (res : Int) : Prop := ∀ (σ : Mem) (H : Heap) (locs : List Loc) (ls : Array Slot), PW G σ H → va_S (AA G) s.heap H locs → fn σ = some (res, τ) → lv_has ls 2 [(0, .ref (gh G + 111))] → W p l e R s m args below meth c H locs 0 0 (MQ below (QM G (some (.int (i32 res))) τ) args s 0 0 (AA G)) (F0 m 0 ls [])
set_option maxHeartbeats 4000000 in
theorem a_X11_image_2 {p : Program} {l : Launch} {e : Env} {R : Room} {s : State} {m : MethodId} {args : Array Value} {below : List Frame} {meth : Method} {c : Code} {G : GT} {τ : Mem} {res : Int} {rec2 : Mem → Int → Option (Int × Mem)} (X : CX p R s m args meth c cX11_image 2 RX11 (some FieldType.int) 1 60 G) (h2 : S_X11_image_2 rec2 p l e R s m args below meth c G τ res) : S_X11_image_2 (X11_image_B2 rec2) p l e R s m args below meth c G τ res := by
  intro σ H locs ls l1 hP hS hf hl
  unfold X11_image_B2 at hf
  refine lv_iload_n X.1 X.2.1 dX11_image_2 rfl (lv_at hl 1 rfl) ?_
  refine r_sipush X 766 (by decide) dX11_image_3 ?_
  refine r_icmp_ge (tgt := 27) X dX11_image_6 (by decide) (fun q => ?_) (fun q => ?_)
  · replace hf := it_inv q hf
    refine lv_aload_n X.1 X.2.1 dX11_image_27 rfl (lv_at hl 0 rfl) ?_
    refine r_iconst X 1 dX11_image_28 ?_
    refine p_11_2 X hP hS (Or.inr rfl) ks_11 (tb t_1089 rfl) dX11_image_29 (fun H locs hP hS => ?_)
    obtain ⟨s1, es1, hf⟩ := lt_inv hf
    rw [es1] at hP
    refine r_iconst X 1 dX11_image_32 ?_
    obtain ⟨rfl, rfl⟩ := so2_inv hf
    exact r_iret X hP hS dX11_image_33
  · replace hf := ie_inv q hf
    refine lv_aload_n X.1 X.2.1 dX11_image_9 rfl (lv_at hl 0 rfl) ?_
    refine g_11_1 (r := 113) X hP ks_11 rfl (tb t_1088 rfl) dX11_image_10 ?_
    refine lv_iload_n X.1 X.2.1 dX11_image_13 rfl (lv_at hl 1 rfl) ?_
    refine lv_aload_n X.1 X.2.1 dX11_image_14 rfl (lv_at hl 0 rfl) ?_
    refine g_11_0 (r := 112) X hP ks_11 rfl (tb t_1087 rfl) dX11_image_15 ?_
    refine lv_iload_n X.1 X.2.1 dX11_image_18 rfl (lv_at hl 1 rfl) ?_
    obtain ⟨j2, hij2, hjj2, hlj2, hf⟩ := ag_inv hf
    refine r_iald X hP (ch_11_0 ks_11).1 (ch_11_0 ks_11).2 hij2 hjj2 dX11_image_19 ?_
    obtain ⟨j3, hij3, hjj3, hlj3, hf⟩ := ag_inv hf
    refine r_iast X hP hS (ch_11_1 ks_11).1 (ch_11_1 ks_11).2 hij3 hjj3 dX11_image_20 (fun H locs hP hS => ?_)
    obtain ⟨s4, es4, hf⟩ := lt_inv hf
    rw [es4] at hP
    obtain ⟨l1_5, el1_5, hf⟩ := lt_inv hf
    refine lv_iinc (v := i32 l1_5) (lv' := [(1, .int (i32 l1_5)), (0, .ref (gh G + 111))]) X.1 X.2.1 dX11_image_21 hl (k := 1) rfl (by rw [← el1_5]; exact i32_add _ _) (by decide) rfl (fun ls hl => ?_)
    refine lv_goto (tgt := 2) X.1 X.2.1 dX11_image_24 (by decide) ?_
    exact h2 s4 H locs ls l1_5 hP hS hf (lv_sub hl [1, 0] rfl)
theorem al_X11_image_2 {p : Program} {l : Launch} {e : Env} {R : Room} {s : State} {m : MethodId} {args : Array Value} {below : List Frame} {meth : Method} {c : Code} {G : GT} {τ : Mem} {res : Int} (X : CX p R s m args meth c cX11_image 2 RX11 (some FieldType.int) 1 60 G) : ∀ n, S_X11_image_2 (X11_image_L2 n) p l e R s m args below meth c G τ res := by
  intro n
  induction n with
  | zero =>
    intro σ H locs ls l1 hP hS hf hl
    cases hf
  | succ n ih => exact a_X11_image_2 X ih
set_option maxHeartbeats 4000000 in
theorem a_X11_image_0 {p : Program} {l : Launch} {e : Env} {R : Room} {s : State} {m : MethodId} {args : Array Value} {below : List Frame} {meth : Method} {c : Code} {G : GT} {τ : Mem} {res : Int} (X : CX p R s m args meth c cX11_image 2 RX11 (some FieldType.int) 1 60 G) : S_X11_image_0 (X11_image) p l e R s m args below meth c G τ res := by
  intro σ H locs ls hP hS hf hl
  unfold X11_image at hf
  refine r_iconst X 0 dX11_image_0 ?_
  refine lv_istore_n (lv' := [(1, .int (i32 0)), (0, .ref (gh G + 111))]) X.1 X.2.1 dX11_image_1 rfl hl (by decide) rfl (fun ls hl => ?_)
  exact al_X11_image_2 X 5000 σ H locs ls 0 hP hS hf (lv_sub hl [1, 0] rfl)
set_option maxHeartbeats 4000000 in
theorem c_X11_image {l : Launch} {G : GT} {σ τ : Mem} {res : Int} (hf : X11_image σ = some (res, τ)) : CT l yX11_image cX11_image 2 (some FieldType.int) 1 60 G [.ref (gh G + 111)] σ τ (some (.int (i32 res))) := by
  refine CT.mk (own := RX11) (by decide) rfl (Nat.le_of_ble_eq_true rfl) ?_
  intro p e s m below meth c ls X hP hS hl
  have hl : lv_has ls 2 [(0, .ref (gh G + 111))] := hl
  exact a_X11_image_0 X σ s.heap [] ls hP hS hf hl
theorem k_X11_image {p : Program} {l : Launch} {e : Env} {R : Room} {s : State} {m : MethodId} {args : Array Value} {below : List Frame} {meth : Method} {c : Code} {H : Heap} {locs : List Loc} {Q : State → Prop} {cc : ByteArray} {nL : Nat} {own : String} {ret : Option FieldType} {fF fL : Nat} {G : GT} {pc idx : Nat} {ls : Array Slot} {rest : List Value} {σ τ : Mem} {res : Int} (X : CX p R s m args meth c cc nL own ret fF fL G) (hP : PW G σ H) (hS : va_S (AA G) s.heap H locs) (hls : ls.size = nL) (hf : X11_image σ = some (res, τ)) (h1 : Cond.methodLink own idx yX11_image ∈ TB) (hR : 1 + 1 ≤ fF ∧ 8 + (2 + 11) + 60 ≤ fL) (hW : (rest.map fun v => v.category).sum ≤ 8) (hd : decode cc pc = .ok (.invokevirtual idx, 3)) (kk : ∀ (H1 : Heap) (locs1 : List Loc), PW G τ H1 → va_S (AA G) s.heap H1 locs1 → W p l e R s m args below meth c H1 locs1 0 0 Q (F0 m (pc + 3) ls (.int (i32 res) :: rest))) : W p l e R s m args below meth c H locs 0 0 Q (F0 m pc ls (.ref (gh G + 111) :: rest)) := r_callV (n := 0) X hP hS hls (c_X11_image hf) h1 (tb t_1553 rfl) (tb t_1554 rfl) (tb t_87 rfl) (tb t_1555 rfl) (by decide +kernel) hR (r_recv X hP (kd_lt ks_11 (by decide)) (cE_11 ks_11) rfl) rfl rfl hW hd kk
/-! X11_isDigit -/
theorem dX11_isDigit_0 : decode cX11_isDigit 0 = .ok (.iload_n 1, 1) := by decide +kernel
theorem dX11_isDigit_1 : decode cX11_isDigit 1 = .ok (.aload_n 0, 1) := by decide +kernel
theorem dX11_isDigit_2 : decode cX11_isDigit 2 = .ok (.getfield 137, 3) := by decide +kernel
theorem dX11_isDigit_5 : decode cX11_isDigit 5 = .ok (.if_icmp .ge 26, 3) := by decide +kernel
theorem dX11_isDigit_8 : decode cX11_isDigit 8 = .ok (.aload_n 0, 1) := by decide +kernel
theorem dX11_isDigit_9 : decode cX11_isDigit 9 = .ok (.getfield 19, 3) := by decide +kernel
theorem dX11_isDigit_12 : decode cX11_isDigit 12 = .ok (.iload_n 1, 1) := by decide +kernel
theorem dX11_isDigit_13 : decode cX11_isDigit 13 = .ok (.iaload, 1) := by decide +kernel
theorem dX11_isDigit_14 : decode cX11_isDigit 14 = .ok (.i2l, 1) := by decide +kernel
theorem dX11_isDigit_15 : decode cX11_isDigit 15 = .ok (.ldc2_w 145, 3) := by decide +kernel
theorem dX11_isDigit_18 : decode cX11_isDigit 18 = .ok (.ldc2_w 147, 3) := by decide +kernel
theorem dX11_isDigit_21 : decode cX11_isDigit 21 = .ok (.invokestatic 93, 3) := by decide +kernel
theorem dX11_isDigit_24 : decode cX11_isDigit 24 = .ok (.ifCond .eq 7, 3) := by decide +kernel
theorem dX11_isDigit_27 : decode cX11_isDigit 27 = .ok (.iconst 1, 1) := by decide +kernel
theorem dX11_isDigit_28 : decode cX11_isDigit 28 = .ok (.goto 4, 3) := by decide +kernel
theorem dX11_isDigit_31 : decode cX11_isDigit 31 = .ok (.iconst 0, 1) := by decide +kernel
theorem dX11_isDigit_32 : decode cX11_isDigit 32 = .ok (.ireturn, 1) := by decide +kernel
def X11_isDigit (σ : Mem) (l1 : Int) : Option (Int) :=
  if w32 (σ 111 5) ≤ w32 l1 then
    some 0
  else
  ag 120 l1 fun j1 =>
  bd (X11_in σ (w32 (σ 115 j1)) 48 57) fun r2 =>
  if w32 r2 = 0 then
    some 0
  else
  some 1
def S_X11_isDigit_0 (fn : Int → Option (Int)) (p : Program) (l : Launch) (e : Env) (R : Room) (s : State) (m : MethodId) (args : Array Value) (below : List Frame) (meth : Method) (c : Code) (G : GT) (σ : Mem) (res : Int) : Prop := ∀ (H : Heap) (locs : List Loc) (ls : Array Slot) (l1 : Int), PW G σ H → va_S (AA G) s.heap H locs → fn l1 = some res → lv_has ls 2 [(0, .ref (gh G + 111)), (1, .int (i32 l1))] → W p l e R s m args below meth c H locs 0 0 (MQ below (QM G (some (.int (i32 res))) σ) args s 0 0 (AA G)) (F0 m 0 ls [])
set_option maxHeartbeats 4000000 in
theorem a_X11_isDigit_0 {p : Program} {l : Launch} {e : Env} {R : Room} {s : State} {m : MethodId} {args : Array Value} {below : List Frame} {meth : Method} {c : Code} {G : GT} {σ : Mem} {res : Int} (X : CX p R s m args meth c cX11_isDigit 2 RX11 (some FieldType.boolean) 2 85 G) : S_X11_isDigit_0 (X11_isDigit σ) p l e R s m args below meth c G σ res := by
  intro H locs ls l1 hP hS hf hl
  unfold X11_isDigit at hf
  refine lv_iload_n X.1 X.2.1 dX11_isDigit_0 rfl (lv_at hl 1 rfl) ?_
  refine lv_aload_n X.1 X.2.1 dX11_isDigit_1 rfl (lv_at hl 0 rfl) ?_
  refine g_11_5 X hP ks_11 (tb t_1092 rfl) dX11_isDigit_2 ?_
  refine r_icmp_ge (tgt := 31) X dX11_isDigit_5 (by decide) (fun q => ?_) (fun q => ?_)
  · replace hf := it_inv q hf
    refine r_iconst X 0 dX11_isDigit_31 ?_
    cases so_inv hf
    exact r_zret X hP hS (Or.inl rfl) dX11_isDigit_32
  · replace hf := ie_inv q hf
    refine lv_aload_n X.1 X.2.1 dX11_isDigit_8 rfl (lv_at hl 0 rfl) ?_
    refine g_11_4 (r := 115) X hP ks_11 rfl (tb t_1091 rfl) dX11_isDigit_9 ?_
    refine lv_iload_n X.1 X.2.1 dX11_isDigit_12 rfl (lv_at hl 1 rfl) ?_
    obtain ⟨j1, hij1, hjj1, hlj1, hf⟩ := ag_inv hf
    refine r_iald X hP (ch_11_4 ks_11).1 (ch_11_4 ks_11).2 hij1 hjj1 dX11_isDigit_13 ?_
    refine r_i2l X dX11_isDigit_14 ?_
    refine r_ldc2 X 48 (tb t_1266 rfl) (by decide) dX11_isDigit_15 ?_
    refine r_ldc2 X 57 (tb t_1267 rfl) (by decide) dX11_isDigit_18 ?_
    obtain ⟨r2, hr2, hf⟩ := bd_inv hf
    refine k_X11_in X hP hS hl.1  hr2 (tb t_1208 rfl) (by decide) (Nat.le_of_ble_eq_true rfl) dX11_isDigit_21 (fun H locs hP hS => ?_)
    refine r_if_eq (tgt := 31) X dX11_isDigit_24 (by decide) (fun q => ?_) (fun q => ?_)
    · replace hf := it_inv q hf
      refine r_iconst X 0 dX11_isDigit_31 ?_
      cases so_inv hf
      exact r_zret X hP hS (Or.inl rfl) dX11_isDigit_32
    · replace hf := ie_inv q hf
      refine r_iconst X 1 dX11_isDigit_27 ?_
      refine lv_goto (tgt := 32) X.1 X.2.1 dX11_isDigit_28 (by decide) ?_
      cases so_inv hf
      exact r_zret X hP hS (Or.inr rfl) dX11_isDigit_32
set_option maxHeartbeats 4000000 in
theorem c_X11_isDigit {l : Launch} {G : GT} {σ : Mem} {res : Int} {l1 : Int} (hf : X11_isDigit σ l1 = some res) : CT l yX11_isDigit cX11_isDigit 2 (some FieldType.boolean) 2 85 G [.ref (gh G + 111), .int (i32 l1)] σ σ (some (.int (i32 res))) := by
  refine CT.mk (own := RX11) (by decide) rfl (Nat.le_of_ble_eq_true rfl) ?_
  intro p e s m below meth c ls X hP hS hl
  have hl : lv_has ls 2 [(0, .ref (gh G + 111)), (1, .int (i32 l1))] := hl
  exact a_X11_isDigit_0 X  s.heap [] ls l1 hP hS hf hl
theorem k_X11_isDigit {p : Program} {l : Launch} {e : Env} {R : Room} {s : State} {m : MethodId} {args : Array Value} {below : List Frame} {meth : Method} {c : Code} {H : Heap} {locs : List Loc} {Q : State → Prop} {cc : ByteArray} {nL : Nat} {own : String} {ret : Option FieldType} {fF fL : Nat} {G : GT} {pc idx : Nat} {ls : Array Slot} {rest : List Value} {σ : Mem} {res : Int} {l1 : Int} (X : CX p R s m args meth c cc nL own ret fF fL G) (hP : PW G σ H) (hS : va_S (AA G) s.heap H locs) (hls : ls.size = nL) (hf : X11_isDigit σ l1 = some res) (h1 : Cond.methodLink own idx yX11_isDigit ∈ TB) (hR : 2 + 1 ≤ fF ∧ 8 + (2 + 11) + 85 ≤ fL) (hW : (rest.map fun v => v.category).sum ≤ 8) (hd : decode cc pc = .ok (.invokevirtual idx, 3)) (kk : ∀ (H1 : Heap) (locs1 : List Loc), PW G σ H1 → va_S (AA G) s.heap H1 locs1 → W p l e R s m args below meth c H1 locs1 0 0 Q (F0 m (pc + 3) ls (.int (i32 res) :: rest))) : W p l e R s m args below meth c H locs 0 0 Q (F0 m pc ls (.int (i32 l1) :: .ref (gh G + 111) :: rest)) := r_callV (n := 1) X hP hS hls (c_X11_isDigit hf) h1 (tb t_1264 rfl) (tb t_35 rfl) (tb t_87 rfl) (tb t_1265 rfl) (by decide +kernel) hR (r_recv X hP (kd_lt ks_11 (by decide)) (cE_11 ks_11) rfl) rfl rfl hW hd kk
/-! X11_isLetter -/
theorem dX11_isLetter_0 : decode cX11_isLetter 0 = .ok (.iload_n 1, 1) := by decide +kernel
theorem dX11_isLetter_1 : decode cX11_isLetter 1 = .ok (.aload_n 0, 1) := by decide +kernel
theorem dX11_isLetter_2 : decode cX11_isLetter 2 = .ok (.getfield 137, 3) := by decide +kernel
theorem dX11_isLetter_5 : decode cX11_isLetter 5 = .ok (.if_icmp .ge 26, 3) := by decide +kernel
theorem dX11_isLetter_8 : decode cX11_isLetter 8 = .ok (.aload_n 0, 1) := by decide +kernel
theorem dX11_isLetter_9 : decode cX11_isLetter 9 = .ok (.getfield 19, 3) := by decide +kernel
theorem dX11_isLetter_12 : decode cX11_isLetter 12 = .ok (.iload_n 1, 1) := by decide +kernel
theorem dX11_isLetter_13 : decode cX11_isLetter 13 = .ok (.iaload, 1) := by decide +kernel
theorem dX11_isLetter_14 : decode cX11_isLetter 14 = .ok (.i2l, 1) := by decide +kernel
theorem dX11_isLetter_15 : decode cX11_isLetter 15 = .ok (.ldc2_w 141, 3) := by decide +kernel
theorem dX11_isLetter_18 : decode cX11_isLetter 18 = .ok (.ldc2_w 143, 3) := by decide +kernel
theorem dX11_isLetter_21 : decode cX11_isLetter 21 = .ok (.invokestatic 93, 3) := by decide +kernel
theorem dX11_isLetter_24 : decode cX11_isLetter 24 = .ok (.ifCond .eq 7, 3) := by decide +kernel
theorem dX11_isLetter_27 : decode cX11_isLetter 27 = .ok (.iconst 1, 1) := by decide +kernel
theorem dX11_isLetter_28 : decode cX11_isLetter 28 = .ok (.goto 4, 3) := by decide +kernel
theorem dX11_isLetter_31 : decode cX11_isLetter 31 = .ok (.iconst 0, 1) := by decide +kernel
theorem dX11_isLetter_32 : decode cX11_isLetter 32 = .ok (.ireturn, 1) := by decide +kernel
def X11_isLetter (σ : Mem) (l1 : Int) : Option (Int) :=
  if w32 (σ 111 5) ≤ w32 l1 then
    some 0
  else
  ag 120 l1 fun j1 =>
  bd (X11_in σ (w32 (σ 115 j1)) 97 122) fun r2 =>
  if w32 r2 = 0 then
    some 0
  else
  some 1
def S_X11_isLetter_0 (fn : Int → Option (Int)) (p : Program) (l : Launch) (e : Env) (R : Room) (s : State) (m : MethodId) (args : Array Value) (below : List Frame) (meth : Method) (c : Code) (G : GT) (σ : Mem) (res : Int) : Prop := ∀ (H : Heap) (locs : List Loc) (ls : Array Slot) (l1 : Int), PW G σ H → va_S (AA G) s.heap H locs → fn l1 = some res → lv_has ls 2 [(0, .ref (gh G + 111)), (1, .int (i32 l1))] → W p l e R s m args below meth c H locs 0 0 (MQ below (QM G (some (.int (i32 res))) σ) args s 0 0 (AA G)) (F0 m 0 ls [])
set_option maxHeartbeats 4000000 in
theorem a_X11_isLetter_0 {p : Program} {l : Launch} {e : Env} {R : Room} {s : State} {m : MethodId} {args : Array Value} {below : List Frame} {meth : Method} {c : Code} {G : GT} {σ : Mem} {res : Int} (X : CX p R s m args meth c cX11_isLetter 2 RX11 (some FieldType.boolean) 2 85 G) : S_X11_isLetter_0 (X11_isLetter σ) p l e R s m args below meth c G σ res := by
  intro H locs ls l1 hP hS hf hl
  unfold X11_isLetter at hf
  refine lv_iload_n X.1 X.2.1 dX11_isLetter_0 rfl (lv_at hl 1 rfl) ?_
  refine lv_aload_n X.1 X.2.1 dX11_isLetter_1 rfl (lv_at hl 0 rfl) ?_
  refine g_11_5 X hP ks_11 (tb t_1092 rfl) dX11_isLetter_2 ?_
  refine r_icmp_ge (tgt := 31) X dX11_isLetter_5 (by decide) (fun q => ?_) (fun q => ?_)
  · replace hf := it_inv q hf
    refine r_iconst X 0 dX11_isLetter_31 ?_
    cases so_inv hf
    exact r_zret X hP hS (Or.inl rfl) dX11_isLetter_32
  · replace hf := ie_inv q hf
    refine lv_aload_n X.1 X.2.1 dX11_isLetter_8 rfl (lv_at hl 0 rfl) ?_
    refine g_11_4 (r := 115) X hP ks_11 rfl (tb t_1091 rfl) dX11_isLetter_9 ?_
    refine lv_iload_n X.1 X.2.1 dX11_isLetter_12 rfl (lv_at hl 1 rfl) ?_
    obtain ⟨j1, hij1, hjj1, hlj1, hf⟩ := ag_inv hf
    refine r_iald X hP (ch_11_4 ks_11).1 (ch_11_4 ks_11).2 hij1 hjj1 dX11_isLetter_13 ?_
    refine r_i2l X dX11_isLetter_14 ?_
    refine r_ldc2 X 97 (tb t_1254 rfl) (by decide) dX11_isLetter_15 ?_
    refine r_ldc2 X 122 (tb t_1255 rfl) (by decide) dX11_isLetter_18 ?_
    obtain ⟨r2, hr2, hf⟩ := bd_inv hf
    refine k_X11_in X hP hS hl.1  hr2 (tb t_1208 rfl) (by decide) (Nat.le_of_ble_eq_true rfl) dX11_isLetter_21 (fun H locs hP hS => ?_)
    refine r_if_eq (tgt := 31) X dX11_isLetter_24 (by decide) (fun q => ?_) (fun q => ?_)
    · replace hf := it_inv q hf
      refine r_iconst X 0 dX11_isLetter_31 ?_
      cases so_inv hf
      exact r_zret X hP hS (Or.inl rfl) dX11_isLetter_32
    · replace hf := ie_inv q hf
      refine r_iconst X 1 dX11_isLetter_27 ?_
      refine lv_goto (tgt := 32) X.1 X.2.1 dX11_isLetter_28 (by decide) ?_
      cases so_inv hf
      exact r_zret X hP hS (Or.inr rfl) dX11_isLetter_32
set_option maxHeartbeats 4000000 in
theorem c_X11_isLetter {l : Launch} {G : GT} {σ : Mem} {res : Int} {l1 : Int} (hf : X11_isLetter σ l1 = some res) : CT l yX11_isLetter cX11_isLetter 2 (some FieldType.boolean) 2 85 G [.ref (gh G + 111), .int (i32 l1)] σ σ (some (.int (i32 res))) := by
  refine CT.mk (own := RX11) (by decide) rfl (Nat.le_of_ble_eq_true rfl) ?_
  intro p e s m below meth c ls X hP hS hl
  have hl : lv_has ls 2 [(0, .ref (gh G + 111)), (1, .int (i32 l1))] := hl
  exact a_X11_isLetter_0 X  s.heap [] ls l1 hP hS hf hl
theorem k_X11_isLetter {p : Program} {l : Launch} {e : Env} {R : Room} {s : State} {m : MethodId} {args : Array Value} {below : List Frame} {meth : Method} {c : Code} {H : Heap} {locs : List Loc} {Q : State → Prop} {cc : ByteArray} {nL : Nat} {own : String} {ret : Option FieldType} {fF fL : Nat} {G : GT} {pc idx : Nat} {ls : Array Slot} {rest : List Value} {σ : Mem} {res : Int} {l1 : Int} (X : CX p R s m args meth c cc nL own ret fF fL G) (hP : PW G σ H) (hS : va_S (AA G) s.heap H locs) (hls : ls.size = nL) (hf : X11_isLetter σ l1 = some res) (h1 : Cond.methodLink own idx yX11_isLetter ∈ TB) (hR : 2 + 1 ≤ fF ∧ 8 + (2 + 11) + 85 ≤ fL) (hW : (rest.map fun v => v.category).sum ≤ 8) (hd : decode cc pc = .ok (.invokevirtual idx, 3)) (kk : ∀ (H1 : Heap) (locs1 : List Loc), PW G σ H1 → va_S (AA G) s.heap H1 locs1 → W p l e R s m args below meth c H1 locs1 0 0 Q (F0 m (pc + 3) ls (.int (i32 res) :: rest))) : W p l e R s m args below meth c H locs 0 0 Q (F0 m pc ls (.int (i32 l1) :: .ref (gh G + 111) :: rest)) := r_callV (n := 1) X hP hS hls (c_X11_isLetter hf) h1 (tb t_1252 rfl) (tb t_34 rfl) (tb t_87 rfl) (tb t_1253 rfl) (by decide +kernel) hR (r_recv X hP (kd_lt ks_11 (by decide)) (cE_11 ks_11) rfl) rfl rfl hW hd kk
/-! X11_isNumber -/
theorem dX11_isNumber_0 : decode cX11_isNumber 0 = .ok (.aload_n 0, 1) := by decide +kernel
theorem dX11_isNumber_1 : decode cX11_isNumber 1 = .ok (.getfield 175, 3) := by decide +kernel
theorem dX11_isNumber_4 : decode cX11_isNumber 4 = .ok (.ifCond .ne 30, 3) := by decide +kernel
theorem dX11_isNumber_7 : decode cX11_isNumber 7 = .ok (.aload_n 0, 1) := by decide +kernel
theorem dX11_isNumber_8 : decode cX11_isNumber 8 = .ok (.getfield 159, 3) := by decide +kernel
theorem dX11_isNumber_11 : decode cX11_isNumber 11 = .ok (.iconst 2, 1) := by decide +kernel
theorem dX11_isNumber_12 : decode cX11_isNumber 12 = .ok (.if_icmp .ne 22, 3) := by decide +kernel
theorem dX11_isNumber_15 : decode cX11_isNumber 15 = .ok (.aload_n 0, 1) := by decide +kernel
theorem dX11_isNumber_16 : decode cX11_isNumber 16 = .ok (.getfield 169, 3) := by decide +kernel
theorem dX11_isNumber_19 : decode cX11_isNumber 19 = .ok (.i2l, 1) := by decide +kernel
theorem dX11_isNumber_20 : decode cX11_isNumber 20 = .ok (.iload_n 1, 1) := by decide +kernel
theorem dX11_isNumber_21 : decode cX11_isNumber 21 = .ok (.i2l, 1) := by decide +kernel
theorem dX11_isNumber_22 : decode cX11_isNumber 22 = .ok (.iload_n 2, 1) := by decide +kernel
theorem dX11_isNumber_23 : decode cX11_isNumber 23 = .ok (.i2l, 1) := by decide +kernel
theorem dX11_isNumber_24 : decode cX11_isNumber 24 = .ok (.invokestatic 93, 3) := by decide +kernel
theorem dX11_isNumber_27 : decode cX11_isNumber 27 = .ok (.ifCond .eq 7, 3) := by decide +kernel
theorem dX11_isNumber_30 : decode cX11_isNumber 30 = .ok (.iconst 1, 1) := by decide +kernel
theorem dX11_isNumber_31 : decode cX11_isNumber 31 = .ok (.goto 4, 3) := by decide +kernel
theorem dX11_isNumber_34 : decode cX11_isNumber 34 = .ok (.iconst 0, 1) := by decide +kernel
theorem dX11_isNumber_35 : decode cX11_isNumber 35 = .ok (.ireturn, 1) := by decide +kernel
def X11_isNumber (σ : Mem) (l1 : Int) (l2 : Int) : Option (Int) :=
  if w32 (σ 111 11) ≠ 0 then
    some 0
  else
  if w32 (σ 111 8) ≠ w32 2 then
    some 0
  else
  bd (X11_in σ (w32 (σ 111 9)) (w32 l1) (w32 l2)) fun r1 =>
  if w32 r1 = 0 then
    some 0
  else
  some 1
def S_X11_isNumber_0 (fn : Int → Int → Option (Int)) (p : Program) (l : Launch) (e : Env) (R : Room) (s : State) (m : MethodId) (args : Array Value) (below : List Frame) (meth : Method) (c : Code) (G : GT) (σ : Mem) (res : Int) : Prop := ∀ (H : Heap) (locs : List Loc) (ls : Array Slot) (l1 : Int) (l2 : Int), PW G σ H → va_S (AA G) s.heap H locs → fn l1 l2 = some res → lv_has ls 3 [(0, .ref (gh G + 111)), (1, .int (i32 l1)), (2, .int (i32 l2))] → W p l e R s m args below meth c H locs 0 0 (MQ below (QM G (some (.int (i32 res))) σ) args s 0 0 (AA G)) (F0 m 0 ls [])
set_option maxHeartbeats 4000000 in
theorem a_X11_isNumber_0 {p : Program} {l : Launch} {e : Env} {R : Room} {s : State} {m : MethodId} {args : Array Value} {below : List Frame} {meth : Method} {c : Code} {G : GT} {σ : Mem} {res : Int} (X : CX p R s m args meth c cX11_isNumber 3 RX11 (some FieldType.boolean) 2 85 G) : S_X11_isNumber_0 (X11_isNumber σ) p l e R s m args below meth c G σ res := by
  intro H locs ls l1 l2 hP hS hf hl
  unfold X11_isNumber at hf
  refine lv_aload_n X.1 X.2.1 dX11_isNumber_0 rfl (lv_at hl 0 rfl) ?_
  refine g_11_11 X hP ks_11 (tb t_1098 rfl) dX11_isNumber_1 ?_
  refine r_if_ne (tgt := 34) X dX11_isNumber_4 (by decide) (fun q => ?_) (fun q => ?_)
  · replace hf := it_inv q hf
    refine r_iconst X 0 dX11_isNumber_34 ?_
    cases so_inv hf
    exact r_zret X hP hS (Or.inl rfl) dX11_isNumber_35
  · replace hf := ie_inv q hf
    refine lv_aload_n X.1 X.2.1 dX11_isNumber_7 rfl (lv_at hl 0 rfl) ?_
    refine g_11_8 X hP ks_11 (tb t_1095 rfl) dX11_isNumber_8 ?_
    refine r_iconst X 2 dX11_isNumber_11 ?_
    refine r_icmp_ne (tgt := 34) X dX11_isNumber_12 (by decide) (fun q => ?_) (fun q => ?_)
    · replace hf := it_inv q hf
      refine r_iconst X 0 dX11_isNumber_34 ?_
      cases so_inv hf
      exact r_zret X hP hS (Or.inl rfl) dX11_isNumber_35
    · replace hf := ie_inv q hf
      refine lv_aload_n X.1 X.2.1 dX11_isNumber_15 rfl (lv_at hl 0 rfl) ?_
      refine g_11_9 X hP ks_11 (tb t_1096 rfl) dX11_isNumber_16 ?_
      refine r_i2l X dX11_isNumber_19 ?_
      refine lv_iload_n X.1 X.2.1 dX11_isNumber_20 rfl (lv_at hl 1 rfl) ?_
      refine r_i2l X dX11_isNumber_21 ?_
      refine lv_iload_n X.1 X.2.1 dX11_isNumber_22 rfl (lv_at hl 2 rfl) ?_
      refine r_i2l X dX11_isNumber_23 ?_
      obtain ⟨r1, hr1, hf⟩ := bd_inv hf
      refine k_X11_in X hP hS hl.1  hr1 (tb t_1208 rfl) (by decide) (Nat.le_of_ble_eq_true rfl) dX11_isNumber_24 (fun H locs hP hS => ?_)
      refine r_if_eq (tgt := 34) X dX11_isNumber_27 (by decide) (fun q => ?_) (fun q => ?_)
      · replace hf := it_inv q hf
        refine r_iconst X 0 dX11_isNumber_34 ?_
        cases so_inv hf
        exact r_zret X hP hS (Or.inl rfl) dX11_isNumber_35
      · replace hf := ie_inv q hf
        refine r_iconst X 1 dX11_isNumber_30 ?_
        refine lv_goto (tgt := 35) X.1 X.2.1 dX11_isNumber_31 (by decide) ?_
        cases so_inv hf
        exact r_zret X hP hS (Or.inr rfl) dX11_isNumber_35
set_option maxHeartbeats 4000000 in
theorem c_X11_isNumber {l : Launch} {G : GT} {σ : Mem} {res : Int} {l1 : Int} {l2 : Int} (hf : X11_isNumber σ l1 l2 = some res) : CT l yX11_isNumber cX11_isNumber 3 (some FieldType.boolean) 2 85 G [.ref (gh G + 111), .int (i32 l1), .int (i32 l2)] σ σ (some (.int (i32 res))) := by
  refine CT.mk (own := RX11) (by decide) rfl (Nat.le_of_ble_eq_true rfl) ?_
  intro p e s m below meth c ls X hP hS hl
  have hl : lv_has ls 3 [(0, .ref (gh G + 111)), (1, .int (i32 l1)), (2, .int (i32 l2))] := hl
  exact a_X11_isNumber_0 X  s.heap [] ls l1 l2 hP hS hf hl
theorem k_X11_isNumber {p : Program} {l : Launch} {e : Env} {R : Room} {s : State} {m : MethodId} {args : Array Value} {below : List Frame} {meth : Method} {c : Code} {H : Heap} {locs : List Loc} {Q : State → Prop} {cc : ByteArray} {nL : Nat} {own : String} {ret : Option FieldType} {fF fL : Nat} {G : GT} {pc idx : Nat} {ls : Array Slot} {rest : List Value} {σ : Mem} {res : Int} {l1 : Int} {l2 : Int} (X : CX p R s m args meth c cc nL own ret fF fL G) (hP : PW G σ H) (hS : va_S (AA G) s.heap H locs) (hls : ls.size = nL) (hf : X11_isNumber σ l1 l2 = some res) (h1 : Cond.methodLink own idx yX11_isNumber ∈ TB) (hR : 2 + 1 ≤ fF ∧ 8 + (3 + 11) + 85 ≤ fL) (hW : (rest.map fun v => v.category).sum ≤ 8) (hd : decode cc pc = .ok (.invokevirtual idx, 3)) (kk : ∀ (H1 : Heap) (locs1 : List Loc), PW G σ H1 → va_S (AA G) s.heap H1 locs1 → W p l e R s m args below meth c H1 locs1 0 0 Q (F0 m (pc + 3) ls (.int (i32 res) :: rest))) : W p l e R s m args below meth c H locs 0 0 Q (F0 m pc ls (.int (i32 l2) :: .int (i32 l1) :: .ref (gh G + 111) :: rest)) := r_callV (n := 2) X hP hS hls (c_X11_isNumber hf) h1 (tb t_1286 rfl) (tb t_40 rfl) (tb t_87 rfl) (tb t_1287 rfl) (by decide +kernel) hR (r_recv X hP (kd_lt ks_11 (by decide)) (cE_11 ks_11) rfl) rfl rfl hW hd kk
/-! X11_isSpan -/
theorem dX11_isSpan_0 : decode cX11_isSpan 0 = .ok (.aload_n 0, 1) := by decide +kernel
theorem dX11_isSpan_1 : decode cX11_isSpan 1 = .ok (.iload_n 1, 1) := by decide +kernel
theorem dX11_isSpan_2 : decode cX11_isSpan 2 = .ok (.iload_n 2, 1) := by decide +kernel
theorem dX11_isSpan_3 : decode cX11_isSpan 3 = .ok (.invokevirtual 211, 3) := by decide +kernel
theorem dX11_isSpan_6 : decode cX11_isSpan 6 = .ok (.ifCond .eq 34, 3) := by decide +kernel
theorem dX11_isSpan_9 : decode cX11_isSpan 9 = .ok (.aload_n 0, 1) := by decide +kernel
theorem dX11_isSpan_10 : decode cX11_isSpan 10 = .ok (.iload_n 1, 1) := by decide +kernel
theorem dX11_isSpan_11 : decode cX11_isSpan 11 = .ok (.iload_n 3, 1) := by decide +kernel
theorem dX11_isSpan_12 : decode cX11_isSpan 12 = .ok (.invokevirtual 211, 3) := by decide +kernel
theorem dX11_isSpan_15 : decode cX11_isSpan 15 = .ok (.ifCond .eq 25, 3) := by decide +kernel
theorem dX11_isSpan_18 : decode cX11_isSpan 18 = .ok (.iload_n 2, 1) := by decide +kernel
theorem dX11_isSpan_19 : decode cX11_isSpan 19 = .ok (.iload_n 3, 1) := by decide +kernel
theorem dX11_isSpan_20 : decode cX11_isSpan 20 = .ok (.if_icmp .gt 20, 3) := by decide +kernel
theorem dX11_isSpan_23 : decode cX11_isSpan 23 = .ok (.iload 4, 2) := by decide +kernel
theorem dX11_isSpan_25 : decode cX11_isSpan 25 = .ok (.i2l, 1) := by decide +kernel
theorem dX11_isSpan_26 : decode cX11_isSpan 26 = .ok (.lconst 0, 1) := by decide +kernel
theorem dX11_isSpan_27 : decode cX11_isSpan 27 = .ok (.ldc2_w 214, 3) := by decide +kernel
theorem dX11_isSpan_30 : decode cX11_isSpan 30 = .ok (.invokestatic 93, 3) := by decide +kernel
theorem dX11_isSpan_33 : decode cX11_isSpan 33 = .ok (.ifCond .eq 7, 3) := by decide +kernel
theorem dX11_isSpan_36 : decode cX11_isSpan 36 = .ok (.iconst 1, 1) := by decide +kernel
theorem dX11_isSpan_37 : decode cX11_isSpan 37 = .ok (.goto 4, 3) := by decide +kernel
theorem dX11_isSpan_40 : decode cX11_isSpan 40 = .ok (.iconst 0, 1) := by decide +kernel
theorem dX11_isSpan_41 : decode cX11_isSpan 41 = .ok (.ireturn, 1) := by decide +kernel
def X11_isSpan (σ : Mem) (l1 : Int) (l2 : Int) (l3 : Int) (l4 : Int) : Option (Int) :=
  bd (X11_isBar σ l1 l2) fun r1 =>
  if w32 r1 = 0 then
    some 0
  else
  bd (X11_isBar σ l1 l3) fun r2 =>
  if w32 r2 = 0 then
    some 0
  else
  if w32 l3 < w32 l2 then
    some 0
  else
  bd (X11_in σ (w32 l4) 0 2) fun r3 =>
  if w32 r3 = 0 then
    some 0
  else
  some 1
def S_X11_isSpan_0 (fn : Int → Int → Int → Int → Option (Int)) (p : Program) (l : Launch) (e : Env) (R : Room) (s : State) (m : MethodId) (args : Array Value) (below : List Frame) (meth : Method) (c : Code) (G : GT) (σ : Mem) (res : Int) : Prop := ∀ (H : Heap) (locs : List Loc) (ls : Array Slot) (l1 : Int) (l2 : Int) (l3 : Int) (l4 : Int), PW G σ H → va_S (AA G) s.heap H locs → fn l1 l2 l3 l4 = some res → lv_has ls 5 [(0, .ref (gh G + 111)), (1, .int (i32 l1)), (2, .int (i32 l2)), (3, .int (i32 l3)), (4, .int (i32 l4))] → W p l e R s m args below meth c H locs 0 0 (MQ below (QM G (some (.int (i32 res))) σ) args s 0 0 (AA G)) (F0 m 0 ls [])
set_option maxHeartbeats 4000000 in
theorem a_X11_isSpan_0 {p : Program} {l : Launch} {e : Env} {R : Room} {s : State} {m : MethodId} {args : Array Value} {below : List Frame} {meth : Method} {c : Code} {G : GT} {σ : Mem} {res : Int} (X : CX p R s m args meth c cX11_isSpan 5 RX11 (some FieldType.boolean) 4 127 G) : S_X11_isSpan_0 (X11_isSpan σ) p l e R s m args below meth c G σ res := by
  intro H locs ls l1 l2 l3 l4 hP hS hf hl
  unfold X11_isSpan at hf
  refine lv_aload_n X.1 X.2.1 dX11_isSpan_0 rfl (lv_at hl 0 rfl) ?_
  refine lv_iload_n X.1 X.2.1 dX11_isSpan_1 rfl (lv_at hl 1 rfl) ?_
  refine lv_iload_n X.1 X.2.1 dX11_isSpan_2 rfl (lv_at hl 2 rfl) ?_
  obtain ⟨r1, hr1, hf⟩ := bd_inv hf
  refine k_X11_isBar X hP hS hl.1  hr1 (tb t_1307 rfl) (by decide) (Nat.le_of_ble_eq_true rfl) dX11_isSpan_3 (fun H locs hP hS => ?_)
  refine r_if_eq (tgt := 40) X dX11_isSpan_6 (by decide) (fun q => ?_) (fun q => ?_)
  · replace hf := it_inv q hf
    refine r_iconst X 0 dX11_isSpan_40 ?_
    cases so_inv hf
    exact r_zret X hP hS (Or.inl rfl) dX11_isSpan_41
  · replace hf := ie_inv q hf
    refine lv_aload_n X.1 X.2.1 dX11_isSpan_9 rfl (lv_at hl 0 rfl) ?_
    refine lv_iload_n X.1 X.2.1 dX11_isSpan_10 rfl (lv_at hl 1 rfl) ?_
    refine lv_iload_n X.1 X.2.1 dX11_isSpan_11 rfl (lv_at hl 3 rfl) ?_
    obtain ⟨r2, hr2, hf⟩ := bd_inv hf
    refine k_X11_isBar X hP hS hl.1  hr2 (tb t_1307 rfl) (by decide) (Nat.le_of_ble_eq_true rfl) dX11_isSpan_12 (fun H locs hP hS => ?_)
    refine r_if_eq (tgt := 40) X dX11_isSpan_15 (by decide) (fun q => ?_) (fun q => ?_)
    · replace hf := it_inv q hf
      refine r_iconst X 0 dX11_isSpan_40 ?_
      cases so_inv hf
      exact r_zret X hP hS (Or.inl rfl) dX11_isSpan_41
    · replace hf := ie_inv q hf
      refine lv_iload_n X.1 X.2.1 dX11_isSpan_18 rfl (lv_at hl 2 rfl) ?_
      refine lv_iload_n X.1 X.2.1 dX11_isSpan_19 rfl (lv_at hl 3 rfl) ?_
      refine r_icmp_gt (tgt := 40) X dX11_isSpan_20 (by decide) (fun q => ?_) (fun q => ?_)
      · replace hf := it_inv q hf
        refine r_iconst X 0 dX11_isSpan_40 ?_
        cases so_inv hf
        exact r_zret X hP hS (Or.inl rfl) dX11_isSpan_41
      · replace hf := ie_inv q hf
        refine lv_iload X.1 X.2.1 dX11_isSpan_23 (lv_at hl 4 rfl) ?_
        refine r_i2l X dX11_isSpan_25 ?_
        refine r_lconst X 0 0 (by decide) dX11_isSpan_26 ?_
        refine r_ldc2 X 2 (tb t_1315 rfl) (by decide) dX11_isSpan_27 ?_
        obtain ⟨r3, hr3, hf⟩ := bd_inv hf
        refine k_X11_in X hP hS hl.1  hr3 (tb t_1208 rfl) (by decide) (Nat.le_of_ble_eq_true rfl) dX11_isSpan_30 (fun H locs hP hS => ?_)
        refine r_if_eq (tgt := 40) X dX11_isSpan_33 (by decide) (fun q => ?_) (fun q => ?_)
        · replace hf := it_inv q hf
          refine r_iconst X 0 dX11_isSpan_40 ?_
          cases so_inv hf
          exact r_zret X hP hS (Or.inl rfl) dX11_isSpan_41
        · replace hf := ie_inv q hf
          refine r_iconst X 1 dX11_isSpan_36 ?_
          refine lv_goto (tgt := 41) X.1 X.2.1 dX11_isSpan_37 (by decide) ?_
          cases so_inv hf
          exact r_zret X hP hS (Or.inr rfl) dX11_isSpan_41
set_option maxHeartbeats 4000000 in
theorem c_X11_isSpan {l : Launch} {G : GT} {σ : Mem} {res : Int} {l1 : Int} {l2 : Int} {l3 : Int} {l4 : Int} (hf : X11_isSpan σ l1 l2 l3 l4 = some res) : CT l yX11_isSpan cX11_isSpan 5 (some FieldType.boolean) 4 127 G [.ref (gh G + 111), .int (i32 l1), .int (i32 l2), .int (i32 l3), .int (i32 l4)] σ σ (some (.int (i32 res))) := by
  refine CT.mk (own := RX11) (by decide) rfl (Nat.le_of_ble_eq_true rfl) ?_
  intro p e s m below meth c ls X hP hS hl
  have hl : lv_has ls 5 [(0, .ref (gh G + 111)), (1, .int (i32 l1)), (2, .int (i32 l2)), (3, .int (i32 l3)), (4, .int (i32 l4))] := hl
  exact a_X11_isSpan_0 X  s.heap [] ls l1 l2 l3 l4 hP hS hf hl
theorem k_X11_isSpan {p : Program} {l : Launch} {e : Env} {R : Room} {s : State} {m : MethodId} {args : Array Value} {below : List Frame} {meth : Method} {c : Code} {H : Heap} {locs : List Loc} {Q : State → Prop} {cc : ByteArray} {nL : Nat} {own : String} {ret : Option FieldType} {fF fL : Nat} {G : GT} {pc idx : Nat} {ls : Array Slot} {rest : List Value} {σ : Mem} {res : Int} {l1 : Int} {l2 : Int} {l3 : Int} {l4 : Int} (X : CX p R s m args meth c cc nL own ret fF fL G) (hP : PW G σ H) (hS : va_S (AA G) s.heap H locs) (hls : ls.size = nL) (hf : X11_isSpan σ l1 l2 l3 l4 = some res) (h1 : Cond.methodLink own idx yX11_isSpan ∈ TB) (hR : 4 + 1 ≤ fF ∧ 8 + (5 + 11) + 127 ≤ fL) (hW : (rest.map fun v => v.category).sum ≤ 8) (hd : decode cc pc = .ok (.invokevirtual idx, 3)) (kk : ∀ (H1 : Heap) (locs1 : List Loc), PW G σ H1 → va_S (AA G) s.heap H1 locs1 → W p l e R s m args below meth c H1 locs1 0 0 Q (F0 m (pc + 3) ls (.int (i32 res) :: rest))) : W p l e R s m args below meth c H locs 0 0 Q (F0 m pc ls (.int (i32 l4) :: .int (i32 l3) :: .int (i32 l2) :: .int (i32 l1) :: .ref (gh G + 111) :: rest)) := r_callV (n := 4) X hP hS hls (c_X11_isSpan hf) h1 (tb t_1355 rfl) (tb t_50 rfl) (tb t_87 rfl) (tb t_1356 rfl) (by decide +kernel) hR (r_recv X hP (kd_lt ks_11 (by decide)) (cE_11 ks_11) rfl) rfl rfl hW hd kk
/-! X11_isWord -/
theorem dX11_isWord_0 : decode cX11_isWord 0 = .ok (.aload_n 0, 1) := by decide +kernel
theorem dX11_isWord_1 : decode cX11_isWord 1 = .ok (.getfield 175, 3) := by decide +kernel
theorem dX11_isWord_4 : decode cX11_isWord 4 = .ok (.ifCond .ne 30, 3) := by decide +kernel
theorem dX11_isWord_7 : decode cX11_isWord 7 = .ok (.aload_n 0, 1) := by decide +kernel
theorem dX11_isWord_8 : decode cX11_isWord 8 = .ok (.getfield 159, 3) := by decide +kernel
theorem dX11_isWord_11 : decode cX11_isWord 11 = .ok (.iconst 1, 1) := by decide +kernel
theorem dX11_isWord_12 : decode cX11_isWord 12 = .ok (.if_icmp .ne 22, 3) := by decide +kernel
theorem dX11_isWord_15 : decode cX11_isWord 15 = .ok (.aload_n 0, 1) := by decide +kernel
theorem dX11_isWord_16 : decode cX11_isWord 16 = .ok (.getfield 169, 3) := by decide +kernel
theorem dX11_isWord_19 : decode cX11_isWord 19 = .ok (.i2l, 1) := by decide +kernel
theorem dX11_isWord_20 : decode cX11_isWord 20 = .ok (.iload_n 1, 1) := by decide +kernel
theorem dX11_isWord_21 : decode cX11_isWord 21 = .ok (.i2l, 1) := by decide +kernel
theorem dX11_isWord_22 : decode cX11_isWord 22 = .ok (.iload_n 2, 1) := by decide +kernel
theorem dX11_isWord_23 : decode cX11_isWord 23 = .ok (.i2l, 1) := by decide +kernel
theorem dX11_isWord_24 : decode cX11_isWord 24 = .ok (.invokestatic 93, 3) := by decide +kernel
theorem dX11_isWord_27 : decode cX11_isWord 27 = .ok (.ifCond .eq 7, 3) := by decide +kernel
theorem dX11_isWord_30 : decode cX11_isWord 30 = .ok (.iconst 1, 1) := by decide +kernel
theorem dX11_isWord_31 : decode cX11_isWord 31 = .ok (.goto 4, 3) := by decide +kernel
theorem dX11_isWord_34 : decode cX11_isWord 34 = .ok (.iconst 0, 1) := by decide +kernel
theorem dX11_isWord_35 : decode cX11_isWord 35 = .ok (.ireturn, 1) := by decide +kernel
def X11_isWord (σ : Mem) (l1 : Int) (l2 : Int) : Option (Int) :=
  if w32 (σ 111 11) ≠ 0 then
    some 0
  else
  if w32 (σ 111 8) ≠ w32 1 then
    some 0
  else
  bd (X11_in σ (w32 (σ 111 9)) (w32 l1) (w32 l2)) fun r1 =>
  if w32 r1 = 0 then
    some 0
  else
  some 1
def S_X11_isWord_0 (fn : Int → Int → Option (Int)) (p : Program) (l : Launch) (e : Env) (R : Room) (s : State) (m : MethodId) (args : Array Value) (below : List Frame) (meth : Method) (c : Code) (G : GT) (σ : Mem) (res : Int) : Prop := ∀ (H : Heap) (locs : List Loc) (ls : Array Slot) (l1 : Int) (l2 : Int), PW G σ H → va_S (AA G) s.heap H locs → fn l1 l2 = some res → lv_has ls 3 [(0, .ref (gh G + 111)), (1, .int (i32 l1)), (2, .int (i32 l2))] → W p l e R s m args below meth c H locs 0 0 (MQ below (QM G (some (.int (i32 res))) σ) args s 0 0 (AA G)) (F0 m 0 ls [])
set_option maxHeartbeats 4000000 in
theorem a_X11_isWord_0 {p : Program} {l : Launch} {e : Env} {R : Room} {s : State} {m : MethodId} {args : Array Value} {below : List Frame} {meth : Method} {c : Code} {G : GT} {σ : Mem} {res : Int} (X : CX p R s m args meth c cX11_isWord 3 RX11 (some FieldType.boolean) 2 85 G) : S_X11_isWord_0 (X11_isWord σ) p l e R s m args below meth c G σ res := by
  intro H locs ls l1 l2 hP hS hf hl
  unfold X11_isWord at hf
  refine lv_aload_n X.1 X.2.1 dX11_isWord_0 rfl (lv_at hl 0 rfl) ?_
  refine g_11_11 X hP ks_11 (tb t_1098 rfl) dX11_isWord_1 ?_
  refine r_if_ne (tgt := 34) X dX11_isWord_4 (by decide) (fun q => ?_) (fun q => ?_)
  · replace hf := it_inv q hf
    refine r_iconst X 0 dX11_isWord_34 ?_
    cases so_inv hf
    exact r_zret X hP hS (Or.inl rfl) dX11_isWord_35
  · replace hf := ie_inv q hf
    refine lv_aload_n X.1 X.2.1 dX11_isWord_7 rfl (lv_at hl 0 rfl) ?_
    refine g_11_8 X hP ks_11 (tb t_1095 rfl) dX11_isWord_8 ?_
    refine r_iconst X 1 dX11_isWord_11 ?_
    refine r_icmp_ne (tgt := 34) X dX11_isWord_12 (by decide) (fun q => ?_) (fun q => ?_)
    · replace hf := it_inv q hf
      refine r_iconst X 0 dX11_isWord_34 ?_
      cases so_inv hf
      exact r_zret X hP hS (Or.inl rfl) dX11_isWord_35
    · replace hf := ie_inv q hf
      refine lv_aload_n X.1 X.2.1 dX11_isWord_15 rfl (lv_at hl 0 rfl) ?_
      refine g_11_9 X hP ks_11 (tb t_1096 rfl) dX11_isWord_16 ?_
      refine r_i2l X dX11_isWord_19 ?_
      refine lv_iload_n X.1 X.2.1 dX11_isWord_20 rfl (lv_at hl 1 rfl) ?_
      refine r_i2l X dX11_isWord_21 ?_
      refine lv_iload_n X.1 X.2.1 dX11_isWord_22 rfl (lv_at hl 2 rfl) ?_
      refine r_i2l X dX11_isWord_23 ?_
      obtain ⟨r1, hr1, hf⟩ := bd_inv hf
      refine k_X11_in X hP hS hl.1  hr1 (tb t_1208 rfl) (by decide) (Nat.le_of_ble_eq_true rfl) dX11_isWord_24 (fun H locs hP hS => ?_)
      refine r_if_eq (tgt := 34) X dX11_isWord_27 (by decide) (fun q => ?_) (fun q => ?_)
      · replace hf := it_inv q hf
        refine r_iconst X 0 dX11_isWord_34 ?_
        cases so_inv hf
        exact r_zret X hP hS (Or.inl rfl) dX11_isWord_35
      · replace hf := ie_inv q hf
        refine r_iconst X 1 dX11_isWord_30 ?_
        refine lv_goto (tgt := 35) X.1 X.2.1 dX11_isWord_31 (by decide) ?_
        cases so_inv hf
        exact r_zret X hP hS (Or.inr rfl) dX11_isWord_35
set_option maxHeartbeats 4000000 in
theorem c_X11_isWord {l : Launch} {G : GT} {σ : Mem} {res : Int} {l1 : Int} {l2 : Int} (hf : X11_isWord σ l1 l2 = some res) : CT l yX11_isWord cX11_isWord 3 (some FieldType.boolean) 2 85 G [.ref (gh G + 111), .int (i32 l1), .int (i32 l2)] σ σ (some (.int (i32 res))) := by
  refine CT.mk (own := RX11) (by decide) rfl (Nat.le_of_ble_eq_true rfl) ?_
  intro p e s m below meth c ls X hP hS hl
  have hl : lv_has ls 3 [(0, .ref (gh G + 111)), (1, .int (i32 l1)), (2, .int (i32 l2))] := hl
  exact a_X11_isWord_0 X  s.heap [] ls l1 l2 hP hS hf hl
theorem k_X11_isWord {p : Program} {l : Launch} {e : Env} {R : Room} {s : State} {m : MethodId} {args : Array Value} {below : List Frame} {meth : Method} {c : Code} {H : Heap} {locs : List Loc} {Q : State → Prop} {cc : ByteArray} {nL : Nat} {own : String} {ret : Option FieldType} {fF fL : Nat} {G : GT} {pc idx : Nat} {ls : Array Slot} {rest : List Value} {σ : Mem} {res : Int} {l1 : Int} {l2 : Int} (X : CX p R s m args meth c cc nL own ret fF fL G) (hP : PW G σ H) (hS : va_S (AA G) s.heap H locs) (hls : ls.size = nL) (hf : X11_isWord σ l1 l2 = some res) (h1 : Cond.methodLink own idx yX11_isWord ∈ TB) (hR : 2 + 1 ≤ fF ∧ 8 + (3 + 11) + 85 ≤ fL) (hW : (rest.map fun v => v.category).sum ≤ 8) (hd : decode cc pc = .ok (.invokevirtual idx, 3)) (kk : ∀ (H1 : Heap) (locs1 : List Loc), PW G σ H1 → va_S (AA G) s.heap H1 locs1 → W p l e R s m args below meth c H1 locs1 0 0 Q (F0 m (pc + 3) ls (.int (i32 res) :: rest))) : W p l e R s m args below meth c H locs 0 0 Q (F0 m pc ls (.int (i32 l2) :: .int (i32 l1) :: .ref (gh G + 111) :: rest)) := r_callV (n := 2) X hP hS hls (c_X11_isWord hf) h1 (tb t_1278 rfl) (tb t_38 rfl) (tb t_87 rfl) (tb t_1279 rfl) (by decide +kernel) hR (r_recv X hP (kd_lt ks_11 (by decide)) (cE_11 ks_11) rfl) rfl rfl hW hd kk
/-! X11_rooms -/
theorem dX11_rooms_0 : decode cX11_rooms 0 = .ok (.iconst 0, 1) := by decide +kernel
theorem dX11_rooms_1 : decode cX11_rooms 1 = .ok (.istore 6, 2) := by decide +kernel
theorem dX11_rooms_3 : decode cX11_rooms 3 = .ok (.iload_n 2, 1) := by decide +kernel
theorem dX11_rooms_4 : decode cX11_rooms 4 = .ok (.istore 7, 2) := by decide +kernel
theorem dX11_rooms_6 : decode cX11_rooms 6 = .ok (.iload 7, 2) := by decide +kernel
theorem dX11_rooms_8 : decode cX11_rooms 8 = .ok (.iload_n 3, 1) := by decide +kernel
theorem dX11_rooms_9 : decode cX11_rooms 9 = .ok (.if_icmp .gt 25, 3) := by decide +kernel
theorem dX11_rooms_12 : decode cX11_rooms 12 = .ok (.iload 6, 2) := by decide +kernel
theorem dX11_rooms_14 : decode cX11_rooms 14 = .ok (.aload_n 0, 1) := by decide +kernel
theorem dX11_rooms_15 : decode cX11_rooms 15 = .ok (.iload_n 1, 1) := by decide +kernel
theorem dX11_rooms_16 : decode cX11_rooms 16 = .ok (.iload 7, 2) := by decide +kernel
theorem dX11_rooms_18 : decode cX11_rooms 18 = .ok (.iload 4, 2) := by decide +kernel
theorem dX11_rooms_20 : decode cX11_rooms 20 = .ok (.iload 5, 2) := by decide +kernel
theorem dX11_rooms_22 : decode cX11_rooms 22 = .ok (.invokevirtual 233, 3) := by decide +kernel
theorem dX11_rooms_25 : decode cX11_rooms 25 = .ok (.iadd, 1) := by decide +kernel
theorem dX11_rooms_26 : decode cX11_rooms 26 = .ok (.istore 6, 2) := by decide +kernel
theorem dX11_rooms_28 : decode cX11_rooms 28 = .ok (.iinc 7 1, 3) := by decide +kernel
theorem dX11_rooms_31 : decode cX11_rooms 31 = .ok (.goto (-25), 3) := by decide +kernel
theorem dX11_rooms_34 : decode cX11_rooms 34 = .ok (.iload 6, 2) := by decide +kernel
theorem dX11_rooms_36 : decode cX11_rooms 36 = .ok (.ireturn, 1) := by decide +kernel
def S_X11_rooms_6 (fn : Int → Int → Int → Int → Int → Int → Option (Int)) (p : Program) (l : Launch) (e : Env) (R : Room) (s : State) (m : MethodId) (args : Array Value) (below : List Frame) (meth : Method) (c : Code) (G : GT) (σ : Mem) (res : Int) : Prop := ∀ (H : Heap) (locs : List Loc) (ls : Array Slot) (l1 : Int) (l3 : Int) (l4 : Int) (l5 : Int) (l6 : Int) (l7 : Int), PW G σ H → va_S (AA G) s.heap H locs → fn l1 l3 l4 l5 l6 l7 = some res → lv_has ls 8 [(0, .ref (gh G + 111)), (1, .int (i32 l1)), (3, .int (i32 l3)), (4, .int (i32 l4)), (5, .int (i32 l5)), (6, .int (i32 l6)), (7, .int (i32 l7))] → W p l e R s m args below meth c H locs 0 0 (MQ below (QM G (some (.int (i32 res))) σ) args s 0 0 (AA G)) (F0 m 6 ls [])
def X11_rooms_B6 (rec6 : Int → Int → Int → Int → Int → Int → Option (Int)) (σ : Mem) (l1 : Int) (l3 : Int) (l4 : Int) (l5 : Int) (l6 : Int) (l7 : Int) : Option (Int) :=
  if w32 l3 < w32 l7 then
    some l6
  else
  bd (X11_room σ l1 l7 l4) fun r1 =>
  lt (l6 + r1) fun l6_2 =>
  lt (l7 + 1) fun l7_3 =>
  rec6 l1 l3 l4 l5 l6_2 l7_3
def X11_rooms_L6 (σ : Mem) : Nat → Int → Int → Int → Int → Int → Int → Option (Int)
  | 0 => fun _ _ _ _ _ _ => none
  | n + 1 => X11_rooms_B6 (X11_rooms_L6 σ n) σ
def X11_rooms (σ : Mem) (l1 : Int) (l2 : Int) (l3 : Int) (l4 : Int) (l5 : Int) : Option (Int) :=
  X11_rooms_L6 σ 5000 l1 l3 l4 l5 0 l2
def S_X11_rooms_0 (fn : Int → Int → Int → Int → Int → Option (Int)) (p : Program) (l : Launch) (e : Env) (R : Room) (s : State) (m : MethodId) (args : Array Value) (below : List Frame) (meth : Method) (c : Code) (G : GT) (σ : Mem) (res : Int) : Prop := ∀ (H : Heap) (locs : List Loc) (ls : Array Slot) (l1 : Int) (l2 : Int) (l3 : Int) (l4 : Int) (l5 : Int), PW G σ H → va_S (AA G) s.heap H locs → fn l1 l2 l3 l4 l5 = some res → lv_has ls 8 [(0, .ref (gh G + 111)), (1, .int (i32 l1)), (2, .int (i32 l2)), (3, .int (i32 l3)), (4, .int (i32 l4)), (5, .int (i32 l5))] → W p l e R s m args below meth c H locs 0 0 (MQ below (QM G (some (.int (i32 res))) σ) args s 0 0 (AA G)) (F0 m 0 ls [])
set_option maxHeartbeats 4000000 in
theorem a_X11_rooms_6 {p : Program} {l : Launch} {e : Env} {R : Room} {s : State} {m : MethodId} {args : Array Value} {below : List Frame} {meth : Method} {c : Code} {G : GT} {σ : Mem} {res : Int} {rec6 : Int → Int → Int → Int → Int → Int → Option (Int)} (X : CX p R s m args meth c cX11_rooms 8 RX11 (some FieldType.int) 4 126 G) (h6 : S_X11_rooms_6 rec6 p l e R s m args below meth c G σ res) : S_X11_rooms_6 (X11_rooms_B6 rec6 σ) p l e R s m args below meth c G σ res := by
  intro H locs ls l1 l3 l4 l5 l6 l7 hP hS hf hl
  unfold X11_rooms_B6 at hf
  refine lv_iload X.1 X.2.1 dX11_rooms_6 (lv_at hl 6 rfl) ?_
  refine lv_iload_n X.1 X.2.1 dX11_rooms_8 rfl (lv_at hl 2 rfl) ?_
  refine r_icmp_gt (tgt := 34) X dX11_rooms_9 (by decide) (fun q => ?_) (fun q => ?_)
  · replace hf := it_inv q hf
    refine lv_iload X.1 X.2.1 dX11_rooms_34 (lv_at hl 5 rfl) ?_
    cases so_inv hf
    exact r_iret X hP hS dX11_rooms_36
  · replace hf := ie_inv q hf
    refine lv_iload X.1 X.2.1 dX11_rooms_12 (lv_at hl 5 rfl) ?_
    refine lv_aload_n X.1 X.2.1 dX11_rooms_14 rfl (lv_at hl 0 rfl) ?_
    refine lv_iload_n X.1 X.2.1 dX11_rooms_15 rfl (lv_at hl 1 rfl) ?_
    refine lv_iload X.1 X.2.1 dX11_rooms_16 (lv_at hl 6 rfl) ?_
    refine lv_iload X.1 X.2.1 dX11_rooms_18 (lv_at hl 3 rfl) ?_
    refine lv_iload X.1 X.2.1 dX11_rooms_20 (lv_at hl 4 rfl) ?_
    obtain ⟨r1, hr1, hf⟩ := bd_inv hf
    refine k_X11_room X hP hS hl.1  hr1 (tb t_1345 rfl) (by decide) (Nat.le_of_ble_eq_true rfl) dX11_rooms_22 (fun H locs hP hS => ?_)
    refine r_iadd X dX11_rooms_25 ?_
    obtain ⟨l6_2, el6_2, hf⟩ := lt_inv hf
    refine r_eqi el6_2 ?_
    refine lv_istore (lv' := [(6, .int (i32 l6_2)), (0, .ref (gh G + 111)), (1, .int (i32 l1)), (3, .int (i32 l3)), (4, .int (i32 l4)), (5, .int (i32 l5)), (7, .int (i32 l7))]) X.1 X.2.1 dX11_rooms_26 hl (by decide) rfl (fun ls hl => ?_)
    obtain ⟨l7_3, el7_3, hf⟩ := lt_inv hf
    refine lv_iinc (v := i32 l7_3) (lv' := [(7, .int (i32 l7_3)), (6, .int (i32 l6_2)), (0, .ref (gh G + 111)), (1, .int (i32 l1)), (3, .int (i32 l3)), (4, .int (i32 l4)), (5, .int (i32 l5))]) X.1 X.2.1 dX11_rooms_28 hl (k := 6) rfl (by rw [← el7_3]; exact i32_add _ _) (by decide) rfl (fun ls hl => ?_)
    refine lv_goto (tgt := 6) X.1 X.2.1 dX11_rooms_31 (by decide) ?_
    exact h6  H locs ls l1 l3 l4 l5 l6_2 l7_3 hP hS hf (lv_sub hl [2, 3, 4, 5, 6, 1, 0] rfl)
theorem al_X11_rooms_6 {p : Program} {l : Launch} {e : Env} {R : Room} {s : State} {m : MethodId} {args : Array Value} {below : List Frame} {meth : Method} {c : Code} {G : GT} {σ : Mem} {res : Int} (X : CX p R s m args meth c cX11_rooms 8 RX11 (some FieldType.int) 4 126 G) : ∀ n, S_X11_rooms_6 (X11_rooms_L6 σ n) p l e R s m args below meth c G σ res := by
  intro n
  induction n with
  | zero =>
    intro H locs ls l1 l3 l4 l5 l6 l7 hP hS hf hl
    cases hf
  | succ n ih => exact a_X11_rooms_6 X ih
set_option maxHeartbeats 4000000 in
theorem a_X11_rooms_0 {p : Program} {l : Launch} {e : Env} {R : Room} {s : State} {m : MethodId} {args : Array Value} {below : List Frame} {meth : Method} {c : Code} {G : GT} {σ : Mem} {res : Int} (X : CX p R s m args meth c cX11_rooms 8 RX11 (some FieldType.int) 4 126 G) : S_X11_rooms_0 (X11_rooms σ) p l e R s m args below meth c G σ res := by
  intro H locs ls l1 l2 l3 l4 l5 hP hS hf hl
  unfold X11_rooms at hf
  refine r_iconst X 0 dX11_rooms_0 ?_
  refine lv_istore (lv' := [(6, .int (i32 0)), (0, .ref (gh G + 111)), (1, .int (i32 l1)), (2, .int (i32 l2)), (3, .int (i32 l3)), (4, .int (i32 l4)), (5, .int (i32 l5))]) X.1 X.2.1 dX11_rooms_1 hl (by decide) rfl (fun ls hl => ?_)
  refine lv_iload_n X.1 X.2.1 dX11_rooms_3 rfl (lv_at hl 3 rfl) ?_
  refine lv_istore (lv' := [(7, .int (i32 l2)), (6, .int (i32 0)), (0, .ref (gh G + 111)), (1, .int (i32 l1)), (2, .int (i32 l2)), (3, .int (i32 l3)), (4, .int (i32 l4)), (5, .int (i32 l5))]) X.1 X.2.1 dX11_rooms_4 hl (by decide) rfl (fun ls hl => ?_)
  exact al_X11_rooms_6 X 5000  H locs ls l1 l3 l4 l5 0 l2 hP hS hf (lv_sub hl [2, 3, 5, 6, 7, 1, 0] rfl)
set_option maxHeartbeats 4000000 in
theorem c_X11_rooms {l : Launch} {G : GT} {σ : Mem} {res : Int} {l1 : Int} {l2 : Int} {l3 : Int} {l4 : Int} {l5 : Int} (hf : X11_rooms σ l1 l2 l3 l4 l5 = some res) : CT l yX11_rooms cX11_rooms 8 (some FieldType.int) 4 126 G [.ref (gh G + 111), .int (i32 l1), .int (i32 l2), .int (i32 l3), .int (i32 l4), .int (i32 l5)] σ σ (some (.int (i32 res))) := by
  refine CT.mk (own := RX11) (by decide) rfl (Nat.le_of_ble_eq_true rfl) ?_
  intro p e s m below meth c ls X hP hS hl
  have hl : lv_has ls 8 [(0, .ref (gh G + 111)), (1, .int (i32 l1)), (2, .int (i32 l2)), (3, .int (i32 l3)), (4, .int (i32 l4)), (5, .int (i32 l5))] := hl
  exact a_X11_rooms_0 X  s.heap [] ls l1 l2 l3 l4 l5 hP hS hf hl
theorem k_X11_rooms {p : Program} {l : Launch} {e : Env} {R : Room} {s : State} {m : MethodId} {args : Array Value} {below : List Frame} {meth : Method} {c : Code} {H : Heap} {locs : List Loc} {Q : State → Prop} {cc : ByteArray} {nL : Nat} {own : String} {ret : Option FieldType} {fF fL : Nat} {G : GT} {pc idx : Nat} {ls : Array Slot} {rest : List Value} {σ : Mem} {res : Int} {l1 : Int} {l2 : Int} {l3 : Int} {l4 : Int} {l5 : Int} (X : CX p R s m args meth c cc nL own ret fF fL G) (hP : PW G σ H) (hS : va_S (AA G) s.heap H locs) (hls : ls.size = nL) (hf : X11_rooms σ l1 l2 l3 l4 l5 = some res) (h1 : Cond.methodLink own idx yX11_rooms ∈ TB) (hR : 4 + 1 ≤ fF ∧ 8 + (8 + 11) + 126 ≤ fL) (hW : (rest.map fun v => v.category).sum ≤ 8) (hd : decode cc pc = .ok (.invokevirtual idx, 3)) (kk : ∀ (H1 : Heap) (locs1 : List Loc), PW G σ H1 → va_S (AA G) s.heap H1 locs1 → W p l e R s m args below meth c H1 locs1 0 0 Q (F0 m (pc + 3) ls (.int (i32 res) :: rest))) : W p l e R s m args below meth c H locs 0 0 Q (F0 m pc ls (.int (i32 l5) :: .int (i32 l4) :: .int (i32 l3) :: .int (i32 l2) :: .int (i32 l1) :: .ref (gh G + 111) :: rest)) := r_callV (n := 5) X hP hS hls (c_X11_rooms hf) h1 (tb t_1359 rfl) (tb t_51 rfl) (tb t_87 rfl) (tb t_1360 rfl) (by decide +kernel) hR (r_recv X hP (kd_lt ks_11 (by decide)) (cE_11 ks_11) rfl) rfl rfl hW hd kk
/-! X11_judge -/
theorem dX11_judge_0 : decode cX11_judge 0 = .ok (.iload_n 1, 1) := by decide +kernel
theorem dX11_judge_1 : decode cX11_judge 1 = .ok (.invokestatic 97, 3) := by decide +kernel
theorem dX11_judge_4 : decode cX11_judge 4 = .ok (.ifCond .ne 9, 3) := by decide +kernel
theorem dX11_judge_7 : decode cX11_judge 7 = .ok (.aload_n 0, 1) := by decide +kernel
theorem dX11_judge_8 : decode cX11_judge 8 = .ok (.iconst 0, 1) := by decide +kernel
theorem dX11_judge_9 : decode cX11_judge 9 = .ok (.invokevirtual 122, 3) := by decide +kernel
theorem dX11_judge_12 : decode cX11_judge 12 = .ok (.ireturn, 1) := by decide +kernel
theorem dX11_judge_13 : decode cX11_judge 13 = .ok (.iconst (-1), 1) := by decide +kernel
theorem dX11_judge_14 : decode cX11_judge 14 = .ok (.istore_n 2, 1) := by decide +kernel
theorem dX11_judge_15 : decode cX11_judge 15 = .ok (.iconst 0, 1) := by decide +kernel
theorem dX11_judge_16 : decode cX11_judge 16 = .ok (.istore_n 3, 1) := by decide +kernel
theorem dX11_judge_17 : decode cX11_judge 17 = .ok (.iconst 0, 1) := by decide +kernel
theorem dX11_judge_18 : decode cX11_judge 18 = .ok (.istore 4, 2) := by decide +kernel
theorem dX11_judge_20 : decode cX11_judge 20 = .ok (.iload 4, 2) := by decide +kernel
theorem dX11_judge_22 : decode cX11_judge 22 = .ok (.aload_n 0, 1) := by decide +kernel
theorem dX11_judge_23 : decode cX11_judge 23 = .ok (.getfield 9, 3) := by decide +kernel
theorem dX11_judge_26 : decode cX11_judge 26 = .ok (.sipush 665, 3) := by decide +kernel
theorem dX11_judge_29 : decode cX11_judge 29 = .ok (.iaload, 1) := by decide +kernel
theorem dX11_judge_30 : decode cX11_judge 30 = .ok (.if_icmp .ge 78, 3) := by decide +kernel
theorem dX11_judge_33 : decode cX11_judge 33 = .ok (.aload_n 0, 1) := by decide +kernel
theorem dX11_judge_34 : decode cX11_judge 34 = .ok (.iload 4, 2) := by decide +kernel
theorem dX11_judge_36 : decode cX11_judge 36 = .ok (.iconst 1, 1) := by decide +kernel
theorem dX11_judge_37 : decode cX11_judge 37 = .ok (.invokevirtual 321, 3) := by decide +kernel
theorem dX11_judge_40 : decode cX11_judge 40 = .ok (.iload_n 1, 1) := by decide +kernel
theorem dX11_judge_41 : decode cX11_judge 41 = .ok (.if_icmp .eq 6, 3) := by decide +kernel
theorem dX11_judge_44 : decode cX11_judge 44 = .ok (.goto 58, 3) := by decide +kernel
theorem dX11_judge_47 : decode cX11_judge 47 = .ok (.aload_n 0, 1) := by decide +kernel
theorem dX11_judge_48 : decode cX11_judge 48 = .ok (.iload 4, 2) := by decide +kernel
theorem dX11_judge_50 : decode cX11_judge 50 = .ok (.iconst 2, 1) := by decide +kernel
theorem dX11_judge_51 : decode cX11_judge 51 = .ok (.invokevirtual 321, 3) := by decide +kernel
theorem dX11_judge_54 : decode cX11_judge 54 = .ok (.istore 5, 2) := by decide +kernel
theorem dX11_judge_56 : decode cX11_judge 56 = .ok (.iload 5, 2) := by decide +kernel
theorem dX11_judge_58 : decode cX11_judge 58 = .ok (.iload_n 2, 1) := by decide +kernel
theorem dX11_judge_59 : decode cX11_judge 59 = .ok (.if_icmp .le 33, 3) := by decide +kernel
theorem dX11_judge_62 : decode cX11_judge 62 = .ok (.aload_n 0, 1) := by decide +kernel
theorem dX11_judge_63 : decode cX11_judge 63 = .ok (.iload 4, 2) := by decide +kernel
theorem dX11_judge_65 : decode cX11_judge 65 = .ok (.invokevirtual 327, 3) := by decide +kernel
theorem dX11_judge_68 : decode cX11_judge 68 = .ok (.ifCond .eq 24, 3) := by decide +kernel
theorem dX11_judge_71 : decode cX11_judge 71 = .ok (.aload_n 0, 1) := by decide +kernel
theorem dX11_judge_72 : decode cX11_judge 72 = .ok (.iload_n 1, 1) := by decide +kernel
theorem dX11_judge_73 : decode cX11_judge 73 = .ok (.iload_n 2, 1) := by decide +kernel
theorem dX11_judge_74 : decode cX11_judge 74 = .ok (.iconst 1, 1) := by decide +kernel
theorem dX11_judge_75 : decode cX11_judge 75 = .ok (.iadd, 1) := by decide +kernel
theorem dX11_judge_76 : decode cX11_judge 76 = .ok (.iload 5, 2) := by decide +kernel
theorem dX11_judge_78 : decode cX11_judge 78 = .ok (.iconst 0, 1) := by decide +kernel
theorem dX11_judge_79 : decode cX11_judge 79 = .ok (.iconst 1, 1) := by decide +kernel
theorem dX11_judge_80 : decode cX11_judge 80 = .ok (.invokevirtual 244, 3) := by decide +kernel
theorem dX11_judge_83 : decode cX11_judge 83 = .ok (.aload_n 0, 1) := by decide +kernel
theorem dX11_judge_84 : decode cX11_judge 84 = .ok (.getfield 9, 3) := by decide +kernel
theorem dX11_judge_87 : decode cX11_judge 87 = .ok (.iconst 0, 1) := by decide +kernel
theorem dX11_judge_88 : decode cX11_judge 88 = .ok (.iaload, 1) := by decide +kernel
theorem dX11_judge_89 : decode cX11_judge 89 = .ok (.if_icmp .le 7, 3) := by decide +kernel
theorem dX11_judge_92 : decode cX11_judge 92 = .ok (.iconst 1, 1) := by decide +kernel
theorem dX11_judge_93 : decode cX11_judge 93 = .ok (.iload_n 3, 1) := by decide +kernel
theorem dX11_judge_94 : decode cX11_judge 94 = .ok (.iadd, 1) := by decide +kernel
theorem dX11_judge_95 : decode cX11_judge 95 = .ok (.ireturn, 1) := by decide +kernel
theorem dX11_judge_96 : decode cX11_judge 96 = .ok (.iload 5, 2) := by decide +kernel
theorem dX11_judge_98 : decode cX11_judge 98 = .ok (.istore_n 2, 1) := by decide +kernel
theorem dX11_judge_99 : decode cX11_judge 99 = .ok (.iinc 3 1, 3) := by decide +kernel
theorem dX11_judge_102 : decode cX11_judge 102 = .ok (.iinc 4 1, 3) := by decide +kernel
theorem dX11_judge_105 : decode cX11_judge 105 = .ok (.goto (-85), 3) := by decide +kernel
theorem dX11_judge_108 : decode cX11_judge 108 = .ok (.aload_n 0, 1) := by decide +kernel
theorem dX11_judge_109 : decode cX11_judge 109 = .ok (.iload_n 1, 1) := by decide +kernel
theorem dX11_judge_110 : decode cX11_judge 110 = .ok (.iload_n 2, 1) := by decide +kernel
theorem dX11_judge_111 : decode cX11_judge 111 = .ok (.iconst 1, 1) := by decide +kernel
theorem dX11_judge_112 : decode cX11_judge 112 = .ok (.iadd, 1) := by decide +kernel
theorem dX11_judge_113 : decode cX11_judge 113 = .ok (.aload_n 0, 1) := by decide +kernel
theorem dX11_judge_114 : decode cX11_judge 114 = .ok (.iload_n 1, 1) := by decide +kernel
theorem dX11_judge_115 : decode cX11_judge 115 = .ok (.invokevirtual 101, 3) := by decide +kernel
theorem dX11_judge_118 : decode cX11_judge 118 = .ok (.iconst 1, 1) := by decide +kernel
theorem dX11_judge_119 : decode cX11_judge 119 = .ok (.isub, 1) := by decide +kernel
theorem dX11_judge_120 : decode cX11_judge 120 = .ok (.iconst 0, 1) := by decide +kernel
theorem dX11_judge_121 : decode cX11_judge 121 = .ok (.iconst 1, 1) := by decide +kernel
theorem dX11_judge_122 : decode cX11_judge 122 = .ok (.invokevirtual 244, 3) := by decide +kernel
theorem dX11_judge_125 : decode cX11_judge 125 = .ok (.aload_n 0, 1) := by decide +kernel
theorem dX11_judge_126 : decode cX11_judge 126 = .ok (.getfield 9, 3) := by decide +kernel
theorem dX11_judge_129 : decode cX11_judge 129 = .ok (.iconst 0, 1) := by decide +kernel
theorem dX11_judge_130 : decode cX11_judge 130 = .ok (.iaload, 1) := by decide +kernel
theorem dX11_judge_131 : decode cX11_judge 131 = .ok (.if_icmp .le 9, 3) := by decide +kernel
theorem dX11_judge_134 : decode cX11_judge 134 = .ok (.iconst 1, 1) := by decide +kernel
theorem dX11_judge_135 : decode cX11_judge 135 = .ok (.iload_n 3, 1) := by decide +kernel
theorem dX11_judge_136 : decode cX11_judge 136 = .ok (.iadd, 1) := by decide +kernel
theorem dX11_judge_137 : decode cX11_judge 137 = .ok (.goto 4, 3) := by decide +kernel
theorem dX11_judge_140 : decode cX11_judge 140 = .ok (.iconst 0, 1) := by decide +kernel
theorem dX11_judge_141 : decode cX11_judge 141 = .ok (.ireturn, 1) := by decide +kernel
def S_X11_judge_20 (fn : Mem → Int → Int → Int → Int → Option (Int × Mem)) (p : Program) (l : Launch) (e : Env) (R : Room) (s : State) (m : MethodId) (args : Array Value) (below : List Frame) (meth : Method) (c : Code) (G : GT) (τ : Mem) (res : Int) : Prop := ∀ (σ : Mem) (H : Heap) (locs : List Loc) (ls : Array Slot) (l1 : Int) (l2 : Int) (l3 : Int) (l4 : Int), PW G σ H → va_S (AA G) s.heap H locs → fn σ l1 l2 l3 l4 = some (res, τ) → lv_has ls 6 [(0, .ref (gh G + 111)), (1, .int (i32 l1)), (2, .int (i32 l2)), (3, .int (i32 l3)), (4, .int (i32 l4))] → W p l e R s m args below meth c H locs 0 0 (MQ below (QM G (some (.int (i32 res))) τ) args s 0 0 (AA G)) (F0 m 20 ls [])
def X11_judge_B102 (rec20 : Mem → Int → Int → Int → Int → Option (Int × Mem)) (σ : Mem) (l1 : Int) (l2 : Int) (l3 : Int) (l4 : Int) : Option (Int × Mem) :=
  lt (l4 + 1) fun l4_1 =>
  rec20 σ l1 l2 l3 l4_1
def S_X11_judge_102 (fn : Mem → Int → Int → Int → Int → Option (Int × Mem)) (p : Program) (l : Launch) (e : Env) (R : Room) (s : State) (m : MethodId) (args : Array Value) (below : List Frame) (meth : Method) (c : Code) (G : GT) (τ : Mem) (res : Int) : Prop := ∀ (σ : Mem) (H : Heap) (locs : List Loc) (ls : Array Slot) (l1 : Int) (l2 : Int) (l3 : Int) (l4 : Int), PW G σ H → va_S (AA G) s.heap H locs → fn σ l1 l2 l3 l4 = some (res, τ) → lv_has ls 6 [(0, .ref (gh G + 111)), (1, .int (i32 l1)), (2, .int (i32 l2)), (3, .int (i32 l3)), (4, .int (i32 l4))] → W p l e R s m args below meth c H locs 0 0 (MQ below (QM G (some (.int (i32 res))) τ) args s 0 0 (AA G)) (F0 m 102 ls [])
def X11_judge_B20 (rec20 : Mem → Int → Int → Int → Int → Option (Int × Mem)) (σ : Mem) (l1 : Int) (l2 : Int) (l3 : Int) (l4 : Int) : Option (Int × Mem) :=
  ag 766 665 fun j1 =>
  if w32 (σ 112 j1) ≤ w32 l4 then
    bd (X11_bars σ l1) fun r2 =>
    bd (X11_rooms σ l1 (l2 + 1) (r2 - 1) 0 1) fun r3 =>
    ag 766 0 fun j4 =>
    if w32 r3 ≤ w32 (σ 112 j4) then
      some (0, σ)
    else
    some (1 + l3, σ)
  else
  bd (X11_of σ l4 1) fun r5 =>
  if w32 r5 = w32 l1 then
    bd (X11_of σ l4 2) fun r6 =>
    if w32 r6 ≤ w32 l2 then
      some (1 + l3, σ)
    else
    bd (X11_mayBe σ l4) fun r7 =>
    if w32 r7 = 0 then
      some (1 + l3, σ)
    else
    bd (X11_rooms σ l1 (l2 + 1) r6 0 1) fun r8 =>
    ag 766 0 fun j9 =>
    if w32 r8 ≤ w32 (σ 112 j9) then
      lt (l3 + 1) fun l3_10 =>
      X11_judge_B102 rec20 σ l1 r6 l3_10 l4
    else
    some (1 + l3, σ)
  else
  X11_judge_B102 rec20 σ l1 l2 l3 l4
def X11_judge_L20 : Nat → Mem → Int → Int → Int → Int → Option (Int × Mem)
  | 0 => fun _ _ _ _ _ => none
  | n + 1 => X11_judge_B20 (X11_judge_L20 n)
def X11_judge (σ : Mem) (l1 : Int) : Option (Int × Mem) :=
  bd (X11_isPart σ l1) fun r1 =>
  if w32 r1 ≠ 0 then
    X11_judge_L20 5000 σ l1 (-1) 0 0
  else
  bd2 (X11_finds σ 0) fun r2 s3 =>
  some (r2, s3)
def S_X11_judge_0 (fn : Mem → Int → Option (Int × Mem)) (p : Program) (l : Launch) (e : Env) (R : Room) (s : State) (m : MethodId) (args : Array Value) (below : List Frame) (meth : Method) (c : Code) (G : GT) (τ : Mem) (res : Int) : Prop := ∀ (σ : Mem) (H : Heap) (locs : List Loc) (ls : Array Slot) (l1 : Int), PW G σ H → va_S (AA G) s.heap H locs → fn σ l1 = some (res, τ) → lv_has ls 6 [(0, .ref (gh G + 111)), (1, .int (i32 l1))] → W p l e R s m args below meth c H locs 0 0 (MQ below (QM G (some (.int (i32 res))) τ) args s 0 0 (AA G)) (F0 m 0 ls [])
set_option maxHeartbeats 4000000 in
theorem a_X11_judge_102 {p : Program} {l : Launch} {e : Env} {R : Room} {s : State} {m : MethodId} {args : Array Value} {below : List Frame} {meth : Method} {c : Code} {G : GT} {τ : Mem} {res : Int} {rec20 : Mem → Int → Int → Int → Int → Option (Int × Mem)} (X : CX p R s m args meth c cX11_judge 6 RX11 (some FieldType.int) 8 223 G) (h20 : S_X11_judge_20 rec20 p l e R s m args below meth c G τ res) : S_X11_judge_102 (X11_judge_B102 rec20) p l e R s m args below meth c G τ res := by
  intro σ H locs ls l1 l2 l3 l4 hP hS hf hl
  unfold X11_judge_B102 at hf
  obtain ⟨l4_1, el4_1, hf⟩ := lt_inv hf
  refine lv_iinc (v := i32 l4_1) (lv' := [(4, .int (i32 l4_1)), (0, .ref (gh G + 111)), (1, .int (i32 l1)), (2, .int (i32 l2)), (3, .int (i32 l3))]) X.1 X.2.1 dX11_judge_102 hl (k := 4) rfl (by rw [← el4_1]; exact i32_add _ _) (by decide) rfl (fun ls hl => ?_)
  refine lv_goto (tgt := 20) X.1 X.2.1 dX11_judge_105 (by decide) ?_
  exact h20 σ H locs ls l1 l2 l3 l4_1 hP hS hf (lv_sub hl [1, 2, 3, 4, 0] rfl)
set_option maxHeartbeats 4000000 in
theorem a_X11_judge_20 {p : Program} {l : Launch} {e : Env} {R : Room} {s : State} {m : MethodId} {args : Array Value} {below : List Frame} {meth : Method} {c : Code} {G : GT} {τ : Mem} {res : Int} {rec20 : Mem → Int → Int → Int → Int → Option (Int × Mem)} (X : CX p R s m args meth c cX11_judge 6 RX11 (some FieldType.int) 8 223 G) (h20 : S_X11_judge_20 rec20 p l e R s m args below meth c G τ res) : S_X11_judge_20 (X11_judge_B20 rec20) p l e R s m args below meth c G τ res := by
  intro σ H locs ls l1 l2 l3 l4 hP hS hf hl
  unfold X11_judge_B20 at hf
  refine lv_iload X.1 X.2.1 dX11_judge_20 (lv_at hl 4 rfl) ?_
  refine lv_aload_n X.1 X.2.1 dX11_judge_22 rfl (lv_at hl 0 rfl) ?_
  refine g_11_0 (r := 112) X hP ks_11 rfl (tb t_1087 rfl) dX11_judge_23 ?_
  refine r_sipush X 665 (by decide) dX11_judge_26 ?_
  obtain ⟨j1, hij1, hjj1, hlj1, hf⟩ := ag_inv hf
  refine r_iald X hP (ch_11_0 ks_11).1 (ch_11_0 ks_11).2 hij1 hjj1 dX11_judge_29 ?_
  refine r_icmp_ge (tgt := 108) X dX11_judge_30 (by decide) (fun q => ?_) (fun q => ?_)
  · replace hf := it_inv q hf
    refine lv_aload_n X.1 X.2.1 dX11_judge_108 rfl (lv_at hl 0 rfl) ?_
    refine lv_iload_n X.1 X.2.1 dX11_judge_109 rfl (lv_at hl 1 rfl) ?_
    refine lv_iload_n X.1 X.2.1 dX11_judge_110 rfl (lv_at hl 2 rfl) ?_
    refine r_iconst X 1 dX11_judge_111 ?_
    refine r_iadd X dX11_judge_112 ?_
    refine lv_aload_n X.1 X.2.1 dX11_judge_113 rfl (lv_at hl 0 rfl) ?_
    refine lv_iload_n X.1 X.2.1 dX11_judge_114 rfl (lv_at hl 1 rfl) ?_
    obtain ⟨r2, hr2, hf⟩ := bd_inv hf
    refine k_X11_bars X hP hS hl.1  hr2 (tb t_1296 rfl) (by decide) (Nat.le_of_ble_eq_true rfl) dX11_judge_115 (fun H locs hP hS => ?_)
    refine r_iconst X 1 dX11_judge_118 ?_
    refine r_isub X dX11_judge_119 ?_
    refine r_iconst X 0 dX11_judge_120 ?_
    refine r_iconst X 1 dX11_judge_121 ?_
    obtain ⟨r3, hr3, hf⟩ := bd_inv hf
    refine k_X11_rooms X hP hS hl.1  hr3 (tb t_1357 rfl) (by decide) (Nat.le_of_ble_eq_true rfl) dX11_judge_122 (fun H locs hP hS => ?_)
    refine lv_aload_n X.1 X.2.1 dX11_judge_125 rfl (lv_at hl 0 rfl) ?_
    refine g_11_0 (r := 112) X hP ks_11 rfl (tb t_1087 rfl) dX11_judge_126 ?_
    refine r_iconst X 0 dX11_judge_129 ?_
    obtain ⟨j4, hij4, hjj4, hlj4, hf⟩ := ag_inv hf
    refine r_iald X hP (ch_11_0 ks_11).1 (ch_11_0 ks_11).2 hij4 hjj4 dX11_judge_130 ?_
    refine r_icmp_le (tgt := 140) X dX11_judge_131 (by decide) (fun q => ?_) (fun q => ?_)
    · replace hf := it_inv q hf
      refine r_iconst X 0 dX11_judge_140 ?_
      obtain ⟨rfl, rfl⟩ := so2_inv hf
      exact r_iret X hP hS dX11_judge_141
    · replace hf := ie_inv q hf
      refine r_iconst X 1 dX11_judge_134 ?_
      refine lv_iload_n X.1 X.2.1 dX11_judge_135 rfl (lv_at hl 3 rfl) ?_
      refine r_iadd X dX11_judge_136 ?_
      refine lv_goto (tgt := 141) X.1 X.2.1 dX11_judge_137 (by decide) ?_
      obtain ⟨rfl, rfl⟩ := so2_inv hf
      exact r_iret X hP hS dX11_judge_141
  · replace hf := ie_inv q hf
    refine lv_aload_n X.1 X.2.1 dX11_judge_33 rfl (lv_at hl 0 rfl) ?_
    refine lv_iload X.1 X.2.1 dX11_judge_34 (lv_at hl 4 rfl) ?_
    refine r_iconst X 1 dX11_judge_36 ?_
    obtain ⟨r5, hr5, hf⟩ := bd_inv hf
    refine k_X11_of X hP hS hl.1  hr5 (tb t_1489 rfl) (by decide) (Nat.le_of_ble_eq_true rfl) dX11_judge_37 (fun H locs hP hS => ?_)
    refine lv_iload_n X.1 X.2.1 dX11_judge_40 rfl (lv_at hl 1 rfl) ?_
    refine r_icmp_eq (tgt := 47) X dX11_judge_41 (by decide) (fun q => ?_) (fun q => ?_)
    · replace hf := it_inv q hf
      refine lv_aload_n X.1 X.2.1 dX11_judge_47 rfl (lv_at hl 0 rfl) ?_
      refine lv_iload X.1 X.2.1 dX11_judge_48 (lv_at hl 4 rfl) ?_
      refine r_iconst X 2 dX11_judge_50 ?_
      obtain ⟨r6, hr6, hf⟩ := bd_inv hf
      refine k_X11_of X hP hS hl.1  hr6 (tb t_1489 rfl) (by decide) (Nat.le_of_ble_eq_true rfl) dX11_judge_51 (fun H locs hP hS => ?_)
      refine lv_istore (lv' := [(5, .int (i32 r6)), (0, .ref (gh G + 111)), (1, .int (i32 l1)), (2, .int (i32 l2)), (3, .int (i32 l3)), (4, .int (i32 l4))]) X.1 X.2.1 dX11_judge_54 hl (by decide) rfl (fun ls hl => ?_)
      refine lv_iload X.1 X.2.1 dX11_judge_56 (lv_at hl 0 rfl) ?_
      refine lv_iload_n X.1 X.2.1 dX11_judge_58 rfl (lv_at hl 3 rfl) ?_
      refine r_icmp_le (tgt := 92) X dX11_judge_59 (by decide) (fun q => ?_) (fun q => ?_)
      · replace hf := it_inv q hf
        refine r_iconst X 1 dX11_judge_92 ?_
        refine lv_iload_n X.1 X.2.1 dX11_judge_93 rfl (lv_at hl 4 rfl) ?_
        refine r_iadd X dX11_judge_94 ?_
        obtain ⟨rfl, rfl⟩ := so2_inv hf
        exact r_iret X hP hS dX11_judge_95
      · replace hf := ie_inv q hf
        refine lv_aload_n X.1 X.2.1 dX11_judge_62 rfl (lv_at hl 1 rfl) ?_
        refine lv_iload X.1 X.2.1 dX11_judge_63 (lv_at hl 5 rfl) ?_
        obtain ⟨r7, hr7, hf⟩ := bd_inv hf
        refine k_X11_mayBe X hP hS hl.1  hr7 (tb t_1493 rfl) (by decide) (Nat.le_of_ble_eq_true rfl) dX11_judge_65 (fun H locs hP hS => ?_)
        refine r_if_eq (tgt := 92) X dX11_judge_68 (by decide) (fun q => ?_) (fun q => ?_)
        · replace hf := it_inv q hf
          refine r_iconst X 1 dX11_judge_92 ?_
          refine lv_iload_n X.1 X.2.1 dX11_judge_93 rfl (lv_at hl 4 rfl) ?_
          refine r_iadd X dX11_judge_94 ?_
          obtain ⟨rfl, rfl⟩ := so2_inv hf
          exact r_iret X hP hS dX11_judge_95
        · replace hf := ie_inv q hf
          refine lv_aload_n X.1 X.2.1 dX11_judge_71 rfl (lv_at hl 1 rfl) ?_
          refine lv_iload_n X.1 X.2.1 dX11_judge_72 rfl (lv_at hl 2 rfl) ?_
          refine lv_iload_n X.1 X.2.1 dX11_judge_73 rfl (lv_at hl 3 rfl) ?_
          refine r_iconst X 1 dX11_judge_74 ?_
          refine r_iadd X dX11_judge_75 ?_
          refine lv_iload X.1 X.2.1 dX11_judge_76 (lv_at hl 0 rfl) ?_
          refine r_iconst X 0 dX11_judge_78 ?_
          refine r_iconst X 1 dX11_judge_79 ?_
          obtain ⟨r8, hr8, hf⟩ := bd_inv hf
          refine k_X11_rooms X hP hS hl.1  hr8 (tb t_1357 rfl) (by decide) (Nat.le_of_ble_eq_true rfl) dX11_judge_80 (fun H locs hP hS => ?_)
          refine lv_aload_n X.1 X.2.1 dX11_judge_83 rfl (lv_at hl 1 rfl) ?_
          refine g_11_0 (r := 112) X hP ks_11 rfl (tb t_1087 rfl) dX11_judge_84 ?_
          refine r_iconst X 0 dX11_judge_87 ?_
          obtain ⟨j9, hij9, hjj9, hlj9, hf⟩ := ag_inv hf
          refine r_iald X hP (ch_11_0 ks_11).1 (ch_11_0 ks_11).2 hij9 hjj9 dX11_judge_88 ?_
          refine r_icmp_le (tgt := 96) X dX11_judge_89 (by decide) (fun q => ?_) (fun q => ?_)
          · replace hf := it_inv q hf
            refine lv_iload X.1 X.2.1 dX11_judge_96 (lv_at hl 0 rfl) ?_
            refine lv_istore_n (lv' := [(2, .int (i32 r6)), (5, .int (i32 r6)), (0, .ref (gh G + 111)), (1, .int (i32 l1)), (3, .int (i32 l3)), (4, .int (i32 l4))]) X.1 X.2.1 dX11_judge_98 rfl hl (by decide) rfl (fun ls hl => ?_)
            obtain ⟨l3_10, el3_10, hf⟩ := lt_inv hf
            refine lv_iinc (v := i32 l3_10) (lv' := [(3, .int (i32 l3_10)), (2, .int (i32 r6)), (5, .int (i32 r6)), (0, .ref (gh G + 111)), (1, .int (i32 l1)), (4, .int (i32 l4))]) X.1 X.2.1 dX11_judge_99 hl (k := 4) rfl (by rw [← el3_10]; exact i32_add _ _) (by decide) rfl (fun ls hl => ?_)
            exact a_X11_judge_102 X h20 σ H locs ls l1 r6 l3_10 l4 hP hS hf (lv_sub hl [3, 4, 1, 0, 5] rfl)
          · replace hf := ie_inv q hf
            refine r_iconst X 1 dX11_judge_92 ?_
            refine lv_iload_n X.1 X.2.1 dX11_judge_93 rfl (lv_at hl 4 rfl) ?_
            refine r_iadd X dX11_judge_94 ?_
            obtain ⟨rfl, rfl⟩ := so2_inv hf
            exact r_iret X hP hS dX11_judge_95
    · replace hf := ie_inv q hf
      refine lv_goto (tgt := 102) X.1 X.2.1 dX11_judge_44 (by decide) ?_
      exact a_X11_judge_102 X h20 σ H locs ls l1 l2 l3 l4 hP hS hf hl
theorem al_X11_judge_20 {p : Program} {l : Launch} {e : Env} {R : Room} {s : State} {m : MethodId} {args : Array Value} {below : List Frame} {meth : Method} {c : Code} {G : GT} {τ : Mem} {res : Int} (X : CX p R s m args meth c cX11_judge 6 RX11 (some FieldType.int) 8 223 G) : ∀ n, S_X11_judge_20 (X11_judge_L20 n) p l e R s m args below meth c G τ res := by
  intro n
  induction n with
  | zero =>
    intro σ H locs ls l1 l2 l3 l4 hP hS hf hl
    cases hf
  | succ n ih => exact a_X11_judge_20 X ih
set_option maxHeartbeats 4000000 in
theorem a_X11_judge_0 {p : Program} {l : Launch} {e : Env} {R : Room} {s : State} {m : MethodId} {args : Array Value} {below : List Frame} {meth : Method} {c : Code} {G : GT} {τ : Mem} {res : Int} (X : CX p R s m args meth c cX11_judge 6 RX11 (some FieldType.int) 8 223 G) : S_X11_judge_0 (X11_judge) p l e R s m args below meth c G τ res := by
  intro σ H locs ls l1 hP hS hf hl
  unfold X11_judge at hf
  refine lv_iload_n X.1 X.2.1 dX11_judge_0 rfl (lv_at hl 1 rfl) ?_
  obtain ⟨r1, hr1, hf⟩ := bd_inv hf
  refine k_X11_isPart X hP hS hl.1  hr1 (tb t_1204 rfl) (by decide) (Nat.le_of_ble_eq_true rfl) dX11_judge_1 (fun H locs hP hS => ?_)
  refine r_if_ne (tgt := 13) X dX11_judge_4 (by decide) (fun q => ?_) (fun q => ?_)
  · replace hf := it_inv q hf
    refine r_iconst X (-1) dX11_judge_13 ?_
    refine lv_istore_n (lv' := [(2, .int (i32 (-1))), (0, .ref (gh G + 111)), (1, .int (i32 l1))]) X.1 X.2.1 dX11_judge_14 rfl hl (by decide) rfl (fun ls hl => ?_)
    refine r_iconst X 0 dX11_judge_15 ?_
    refine lv_istore_n (lv' := [(3, .int (i32 0)), (2, .int (i32 (-1))), (0, .ref (gh G + 111)), (1, .int (i32 l1))]) X.1 X.2.1 dX11_judge_16 rfl hl (by decide) rfl (fun ls hl => ?_)
    refine r_iconst X 0 dX11_judge_17 ?_
    refine lv_istore (lv' := [(4, .int (i32 0)), (3, .int (i32 0)), (2, .int (i32 (-1))), (0, .ref (gh G + 111)), (1, .int (i32 l1))]) X.1 X.2.1 dX11_judge_18 hl (by decide) rfl (fun ls hl => ?_)
    exact al_X11_judge_20 X 5000 σ H locs ls l1 (-1) 0 0 hP hS hf (lv_sub hl [3, 4, 2, 1, 0] rfl)
  · replace hf := ie_inv q hf
    refine lv_aload_n X.1 X.2.1 dX11_judge_7 rfl (lv_at hl 0 rfl) ?_
    refine r_iconst X 0 dX11_judge_8 ?_
    obtain ⟨r2, s3, hr2, hf⟩ := bd2_inv hf
    refine k_X11_finds X hP hS hl.1  hr2 (tb t_1219 rfl) (by decide) (Nat.le_of_ble_eq_true rfl) dX11_judge_9 (fun H locs hP hS => ?_)
    obtain ⟨rfl, rfl⟩ := so2_inv hf
    exact r_iret X hP hS dX11_judge_12
set_option maxHeartbeats 4000000 in
theorem c_X11_judge {l : Launch} {G : GT} {σ τ : Mem} {res : Int} {l1 : Int} (hf : X11_judge σ l1 = some (res, τ)) : CT l yX11_judge cX11_judge 6 (some FieldType.int) 8 223 G [.ref (gh G + 111), .int (i32 l1)] σ τ (some (.int (i32 res))) := by
  refine CT.mk (own := RX11) (by decide) rfl (Nat.le_of_ble_eq_true rfl) ?_
  intro p e s m below meth c ls X hP hS hl
  have hl : lv_has ls 6 [(0, .ref (gh G + 111)), (1, .int (i32 l1))] := hl
  exact a_X11_judge_0 X σ s.heap [] ls l1 hP hS hf hl
theorem k_X11_judge {p : Program} {l : Launch} {e : Env} {R : Room} {s : State} {m : MethodId} {args : Array Value} {below : List Frame} {meth : Method} {c : Code} {H : Heap} {locs : List Loc} {Q : State → Prop} {cc : ByteArray} {nL : Nat} {own : String} {ret : Option FieldType} {fF fL : Nat} {G : GT} {pc idx : Nat} {ls : Array Slot} {rest : List Value} {σ τ : Mem} {res : Int} {l1 : Int} (X : CX p R s m args meth c cc nL own ret fF fL G) (hP : PW G σ H) (hS : va_S (AA G) s.heap H locs) (hls : ls.size = nL) (hf : X11_judge σ l1 = some (res, τ)) (h1 : Cond.methodLink own idx yX11_judge ∈ TB) (hR : 8 + 1 ≤ fF ∧ 8 + (6 + 11) + 223 ≤ fL) (hW : (rest.map fun v => v.category).sum ≤ 8) (hd : decode cc pc = .ok (.invokevirtual idx, 3)) (kk : ∀ (H1 : Heap) (locs1 : List Loc), PW G τ H1 → va_S (AA G) s.heap H1 locs1 → W p l e R s m args below meth c H1 locs1 0 0 Q (F0 m (pc + 3) ls (.int (i32 res) :: rest))) : W p l e R s m args below meth c H locs 0 0 Q (F0 m pc ls (.int (i32 l1) :: .ref (gh G + 111) :: rest)) := r_callV (n := 1) X hP hS hls (c_X11_judge hf) h1 (tb t_1510 rfl) (tb t_1511 rfl) (tb t_87 rfl) (tb t_1512 rfl) (by decide +kernel) hR (r_recv X hP (kd_lt ks_11 (by decide)) (cE_11 ks_11) rfl) rfl rfl hW hd kk
/-! X11_laid -/
theorem dX11_laid_0 : decode cX11_laid 0 = .ok (.iload_n 1, 1) := by decide +kernel
theorem dX11_laid_1 : decode cX11_laid 1 = .ok (.invokestatic 97, 3) := by decide +kernel
theorem dX11_laid_4 : decode cX11_laid 4 = .ok (.ifCond .eq 19, 3) := by decide +kernel
theorem dX11_laid_7 : decode cX11_laid 7 = .ok (.iload_n 2, 1) := by decide +kernel
theorem dX11_laid_8 : decode cX11_laid 8 = .ok (.ifCond .lt 15, 3) := by decide +kernel
theorem dX11_laid_11 : decode cX11_laid 11 = .ok (.iload_n 3, 1) := by decide +kernel
theorem dX11_laid_12 : decode cX11_laid 12 = .ok (.i2l, 1) := by decide +kernel
theorem dX11_laid_13 : decode cX11_laid 13 = .ok (.lconst 0, 1) := by decide +kernel
theorem dX11_laid_14 : decode cX11_laid 14 = .ok (.ldc2_w 301, 3) := by decide +kernel
theorem dX11_laid_17 : decode cX11_laid 17 = .ok (.invokestatic 93, 3) := by decide +kernel
theorem dX11_laid_20 : decode cX11_laid 20 = .ok (.ifCond .ne 9, 3) := by decide +kernel
theorem dX11_laid_23 : decode cX11_laid 23 = .ok (.aload_n 0, 1) := by decide +kernel
theorem dX11_laid_24 : decode cX11_laid 24 = .ok (.iconst 0, 1) := by decide +kernel
theorem dX11_laid_25 : decode cX11_laid 25 = .ok (.invokevirtual 122, 3) := by decide +kernel
theorem dX11_laid_28 : decode cX11_laid 28 = .ok (.ireturn, 1) := by decide +kernel
theorem dX11_laid_29 : decode cX11_laid 29 = .ok (.aload_n 0, 1) := by decide +kernel
theorem dX11_laid_30 : decode cX11_laid 30 = .ok (.iload_n 1, 1) := by decide +kernel
theorem dX11_laid_31 : decode cX11_laid 31 = .ok (.invokevirtual 298, 3) := by decide +kernel
theorem dX11_laid_34 : decode cX11_laid 34 = .ok (.ifCond .eq 11, 3) := by decide +kernel
theorem dX11_laid_37 : decode cX11_laid 37 = .ok (.iload_n 2, 1) := by decide +kernel
theorem dX11_laid_38 : decode cX11_laid 38 = .ok (.aload_n 0, 1) := by decide +kernel
theorem dX11_laid_39 : decode cX11_laid 39 = .ok (.getfield 289, 3) := by decide +kernel
theorem dX11_laid_42 : decode cX11_laid 42 = .ok (.if_icmp .lt 9, 3) := by decide +kernel
theorem dX11_laid_45 : decode cX11_laid 45 = .ok (.aload_n 0, 1) := by decide +kernel
theorem dX11_laid_46 : decode cX11_laid 46 = .ok (.iconst 3, 1) := by decide +kernel
theorem dX11_laid_47 : decode cX11_laid 47 = .ok (.invokevirtual 122, 3) := by decide +kernel
theorem dX11_laid_50 : decode cX11_laid 50 = .ok (.ireturn, 1) := by decide +kernel
theorem dX11_laid_51 : decode cX11_laid 51 = .ok (.iload_n 3, 1) := by decide +kernel
theorem dX11_laid_52 : decode cX11_laid 52 = .ok (.tableswitch 71 0 4 #[36, 43, 50, 57, 64], 36) := by decide +kernel
theorem dX11_laid_88 : decode cX11_laid 88 = .ok (.aload_n 0, 1) := by decide +kernel
theorem dX11_laid_89 : decode cX11_laid 89 = .ok (.getfield 53, 3) := by decide +kernel
theorem dX11_laid_92 : decode cX11_laid 92 = .ok (.iload_n 2, 1) := by decide +kernel
theorem dX11_laid_93 : decode cX11_laid 93 = .ok (.iaload, 1) := by decide +kernel
theorem dX11_laid_94 : decode cX11_laid 94 = .ok (.ireturn, 1) := by decide +kernel
theorem dX11_laid_95 : decode cX11_laid 95 = .ok (.aload_n 0, 1) := by decide +kernel
theorem dX11_laid_96 : decode cX11_laid 96 = .ok (.getfield 56, 3) := by decide +kernel
theorem dX11_laid_99 : decode cX11_laid 99 = .ok (.iload_n 2, 1) := by decide +kernel
theorem dX11_laid_100 : decode cX11_laid 100 = .ok (.iaload, 1) := by decide +kernel
theorem dX11_laid_101 : decode cX11_laid 101 = .ok (.ireturn, 1) := by decide +kernel
theorem dX11_laid_102 : decode cX11_laid 102 = .ok (.aload_n 0, 1) := by decide +kernel
theorem dX11_laid_103 : decode cX11_laid 103 = .ok (.getfield 59, 3) := by decide +kernel
theorem dX11_laid_106 : decode cX11_laid 106 = .ok (.iload_n 2, 1) := by decide +kernel
theorem dX11_laid_107 : decode cX11_laid 107 = .ok (.iaload, 1) := by decide +kernel
theorem dX11_laid_108 : decode cX11_laid 108 = .ok (.ireturn, 1) := by decide +kernel
theorem dX11_laid_109 : decode cX11_laid 109 = .ok (.aload_n 0, 1) := by decide +kernel
theorem dX11_laid_110 : decode cX11_laid 110 = .ok (.getfield 62, 3) := by decide +kernel
theorem dX11_laid_113 : decode cX11_laid 113 = .ok (.iload_n 2, 1) := by decide +kernel
theorem dX11_laid_114 : decode cX11_laid 114 = .ok (.iaload, 1) := by decide +kernel
theorem dX11_laid_115 : decode cX11_laid 115 = .ok (.ireturn, 1) := by decide +kernel
theorem dX11_laid_116 : decode cX11_laid 116 = .ok (.aload_n 0, 1) := by decide +kernel
theorem dX11_laid_117 : decode cX11_laid 117 = .ok (.getfield 65, 3) := by decide +kernel
theorem dX11_laid_120 : decode cX11_laid 120 = .ok (.iload_n 2, 1) := by decide +kernel
theorem dX11_laid_121 : decode cX11_laid 121 = .ok (.iaload, 1) := by decide +kernel
theorem dX11_laid_122 : decode cX11_laid 122 = .ok (.ireturn, 1) := by decide +kernel
theorem dX11_laid_123 : decode cX11_laid 123 = .ok (.aload_n 0, 1) := by decide +kernel
theorem dX11_laid_124 : decode cX11_laid 124 = .ok (.getfield 68, 3) := by decide +kernel
theorem dX11_laid_127 : decode cX11_laid 127 = .ok (.iload_n 2, 1) := by decide +kernel
theorem dX11_laid_128 : decode cX11_laid 128 = .ok (.iaload, 1) := by decide +kernel
theorem dX11_laid_129 : decode cX11_laid 129 = .ok (.ireturn, 1) := by decide +kernel
def X11_laid_B45 (σ : Mem) : Option (Int × Mem) :=
  bd2 (X11_finds σ 3) fun r1 s2 =>
  some (r1, s2)
def S_X11_laid_45 (fn : Mem → Option (Int × Mem)) (p : Program) (l : Launch) (e : Env) (R : Room) (s : State) (m : MethodId) (args : Array Value) (below : List Frame) (meth : Method) (c : Code) (G : GT) (τ : Mem) (res : Int) : Prop := ∀ (σ : Mem) (H : Heap) (locs : List Loc) (ls : Array Slot), PW G σ H → va_S (AA G) s.heap H locs → fn σ = some (res, τ) → lv_has ls 4 [(0, .ref (gh G + 111))] → W p l e R s m args below meth c H locs 0 0 (MQ below (QM G (some (.int (i32 res))) τ) args s 0 0 (AA G)) (F0 m 45 ls [])
def X11_laid_B23 (σ : Mem) : Option (Int × Mem) :=
  bd2 (X11_finds σ 0) fun r1 s2 =>
  some (r1, s2)
def S_X11_laid_23 (fn : Mem → Option (Int × Mem)) (p : Program) (l : Launch) (e : Env) (R : Room) (s : State) (m : MethodId) (args : Array Value) (below : List Frame) (meth : Method) (c : Code) (G : GT) (τ : Mem) (res : Int) : Prop := ∀ (σ : Mem) (H : Heap) (locs : List Loc) (ls : Array Slot), PW G σ H → va_S (AA G) s.heap H locs → fn σ = some (res, τ) → lv_has ls 4 [(0, .ref (gh G + 111))] → W p l e R s m args below meth c H locs 0 0 (MQ below (QM G (some (.int (i32 res))) τ) args s 0 0 (AA G)) (F0 m 23 ls [])
def X11_laid (σ : Mem) (l1 : Int) (l2 : Int) (l3 : Int) : Option (Int × Mem) :=
  bd (X11_isPart σ l1) fun r1 =>
  if w32 r1 = 0 then
    X11_laid_B23 σ
  else
  if w32 l2 < 0 then
    X11_laid_B23 σ
  else
  bd (X11_in σ (w32 l3) 0 5) fun r2 =>
  if w32 r2 ≠ 0 then
    bd2 (X11_laysOut σ l1) fun r3 s4 =>
    if w32 r3 = 0 then
      X11_laid_B45 s4
    else
    if w32 l2 < w32 (s4 111 23) then
      if w32 l3 = 0 then
        ag 40 l2 fun j5 =>
        some (s4 126 j5, s4)
      else
      if w32 l3 = 1 then
        ag 40 l2 fun j6 =>
        some (s4 127 j6, s4)
      else
      if w32 l3 = 2 then
        ag 40 l2 fun j7 =>
        some (s4 128 j7, s4)
      else
      if w32 l3 = 3 then
        ag 40 l2 fun j8 =>
        some (s4 129 j8, s4)
      else
      if w32 l3 = 4 then
        ag 40 l2 fun j9 =>
        some (s4 130 j9, s4)
      else
      ag 40 l2 fun j10 =>
      some (s4 131 j10, s4)
    else
    X11_laid_B45 s4
  else
  X11_laid_B23 σ
def S_X11_laid_0 (fn : Mem → Int → Int → Int → Option (Int × Mem)) (p : Program) (l : Launch) (e : Env) (R : Room) (s : State) (m : MethodId) (args : Array Value) (below : List Frame) (meth : Method) (c : Code) (G : GT) (τ : Mem) (res : Int) : Prop := ∀ (σ : Mem) (H : Heap) (locs : List Loc) (ls : Array Slot) (l1 : Int) (l2 : Int) (l3 : Int), PW G σ H → va_S (AA G) s.heap H locs → fn σ l1 l2 l3 = some (res, τ) → lv_has ls 4 [(0, .ref (gh G + 111)), (1, .int (i32 l1)), (2, .int (i32 l2)), (3, .int (i32 l3))] → W p l e R s m args below meth c H locs 0 0 (MQ below (QM G (some (.int (i32 res))) τ) args s 0 0 (AA G)) (F0 m 0 ls [])
set_option maxHeartbeats 4000000 in
theorem a_X11_laid_45 {p : Program} {l : Launch} {e : Env} {R : Room} {s : State} {m : MethodId} {args : Array Value} {below : List Frame} {meth : Method} {c : Code} {G : GT} {τ : Mem} {res : Int} (X : CX p R s m args meth c cX11_laid 4 RX11 (some FieldType.int) 10 270 G) : S_X11_laid_45 (X11_laid_B45) p l e R s m args below meth c G τ res := by
  intro σ H locs ls hP hS hf hl
  unfold X11_laid_B45 at hf
  refine lv_aload_n X.1 X.2.1 dX11_laid_45 rfl (lv_at hl 0 rfl) ?_
  refine r_iconst X 3 dX11_laid_46 ?_
  obtain ⟨r1, s2, hr1, hf⟩ := bd2_inv hf
  refine k_X11_finds X hP hS hl.1  hr1 (tb t_1219 rfl) (by decide) (Nat.le_of_ble_eq_true rfl) dX11_laid_47 (fun H locs hP hS => ?_)
  obtain ⟨rfl, rfl⟩ := so2_inv hf
  exact r_iret X hP hS dX11_laid_50
set_option maxHeartbeats 4000000 in
theorem a_X11_laid_23 {p : Program} {l : Launch} {e : Env} {R : Room} {s : State} {m : MethodId} {args : Array Value} {below : List Frame} {meth : Method} {c : Code} {G : GT} {τ : Mem} {res : Int} (X : CX p R s m args meth c cX11_laid 4 RX11 (some FieldType.int) 10 270 G) : S_X11_laid_23 (X11_laid_B23) p l e R s m args below meth c G τ res := by
  intro σ H locs ls hP hS hf hl
  unfold X11_laid_B23 at hf
  refine lv_aload_n X.1 X.2.1 dX11_laid_23 rfl (lv_at hl 0 rfl) ?_
  refine r_iconst X 0 dX11_laid_24 ?_
  obtain ⟨r1, s2, hr1, hf⟩ := bd2_inv hf
  refine k_X11_finds X hP hS hl.1  hr1 (tb t_1219 rfl) (by decide) (Nat.le_of_ble_eq_true rfl) dX11_laid_25 (fun H locs hP hS => ?_)
  obtain ⟨rfl, rfl⟩ := so2_inv hf
  exact r_iret X hP hS dX11_laid_28
set_option maxHeartbeats 4000000 in
theorem a_X11_laid_0 {p : Program} {l : Launch} {e : Env} {R : Room} {s : State} {m : MethodId} {args : Array Value} {below : List Frame} {meth : Method} {c : Code} {G : GT} {τ : Mem} {res : Int} (X : CX p R s m args meth c cX11_laid 4 RX11 (some FieldType.int) 10 270 G) : S_X11_laid_0 (X11_laid) p l e R s m args below meth c G τ res := by
  intro σ H locs ls l1 l2 l3 hP hS hf hl
  unfold X11_laid at hf
  refine lv_iload_n X.1 X.2.1 dX11_laid_0 rfl (lv_at hl 1 rfl) ?_
  obtain ⟨r1, hr1, hf⟩ := bd_inv hf
  refine k_X11_isPart X hP hS hl.1  hr1 (tb t_1204 rfl) (by decide) (Nat.le_of_ble_eq_true rfl) dX11_laid_1 (fun H locs hP hS => ?_)
  refine r_if_eq (tgt := 23) X dX11_laid_4 (by decide) (fun q => ?_) (fun q => ?_)
  · replace hf := it_inv q hf
    exact a_X11_laid_23 X σ H locs ls  hP hS hf (lv_sub hl [0] rfl)
  · replace hf := ie_inv q hf
    refine lv_iload_n X.1 X.2.1 dX11_laid_7 rfl (lv_at hl 2 rfl) ?_
    refine r_if_lt (tgt := 23) X dX11_laid_8 (by decide) (fun q => ?_) (fun q => ?_)
    · replace hf := it_inv q hf
      exact a_X11_laid_23 X σ H locs ls  hP hS hf (lv_sub hl [0] rfl)
    · replace hf := ie_inv q hf
      refine lv_iload_n X.1 X.2.1 dX11_laid_11 rfl (lv_at hl 3 rfl) ?_
      refine r_i2l X dX11_laid_12 ?_
      refine r_lconst X 0 0 (by decide) dX11_laid_13 ?_
      refine r_ldc2 X 5 (tb t_1429 rfl) (by decide) dX11_laid_14 ?_
      obtain ⟨r2, hr2, hf⟩ := bd_inv hf
      refine k_X11_in X hP hS hl.1  hr2 (tb t_1208 rfl) (by decide) (Nat.le_of_ble_eq_true rfl) dX11_laid_17 (fun H locs hP hS => ?_)
      refine r_if_ne (tgt := 29) X dX11_laid_20 (by decide) (fun q => ?_) (fun q => ?_)
      · replace hf := it_inv q hf
        refine lv_aload_n X.1 X.2.1 dX11_laid_29 rfl (lv_at hl 0 rfl) ?_
        refine lv_iload_n X.1 X.2.1 dX11_laid_30 rfl (lv_at hl 1 rfl) ?_
        obtain ⟨r3, s4, hr3, hf⟩ := bd2_inv hf
        refine k_X11_laysOut X hP hS hl.1  hr3 (tb t_1393 rfl) (by decide) (Nat.le_of_ble_eq_true rfl) dX11_laid_31 (fun H locs hP hS => ?_)
        refine r_if_eq (tgt := 45) X dX11_laid_34 (by decide) (fun q => ?_) (fun q => ?_)
        · replace hf := it_inv q hf
          exact a_X11_laid_45 X s4 H locs ls  hP hS hf (lv_sub hl [0] rfl)
        · replace hf := ie_inv q hf
          refine lv_iload_n X.1 X.2.1 dX11_laid_37 rfl (lv_at hl 2 rfl) ?_
          refine lv_aload_n X.1 X.2.1 dX11_laid_38 rfl (lv_at hl 0 rfl) ?_
          refine g_11_23 X hP ks_11 (tb t_1110 rfl) dX11_laid_39 ?_
          refine r_icmp_lt (tgt := 51) X dX11_laid_42 (by decide) (fun q => ?_) (fun q => ?_)
          · replace hf := it_inv q hf
            refine lv_iload_n X.1 X.2.1 dX11_laid_51 rfl (lv_at hl 3 rfl) ?_
            by_cases q0 : w32 l3 = 0
            · replace hf := it_inv q0 hf
              refine r_tsI (tgt := 88) (off := 36) X 0 dX11_laid_52 q0 (by decide) (by decide) ?_
              refine lv_aload_n X.1 X.2.1 dX11_laid_88 rfl (lv_at hl 0 rfl) ?_
              refine g_11_26 (r := 126) X hP ks_11 rfl (tb t_1113 rfl) dX11_laid_89 ?_
              refine lv_iload_n X.1 X.2.1 dX11_laid_92 rfl (lv_at hl 2 rfl) ?_
              obtain ⟨j5, hij5, hjj5, hlj5, hf⟩ := ag_inv hf
              refine r_iald X hP (ch_11_26 ks_11).1 (ch_11_26 ks_11).2 hij5 hjj5 dX11_laid_93 ?_
              obtain ⟨rfl, rfl⟩ := so2_inv hf
              exact r_iret X hP hS dX11_laid_94
            replace hf := ie_inv q0 hf
            by_cases q1 : w32 l3 = 1
            · replace hf := it_inv q1 hf
              refine r_tsI (tgt := 95) (off := 43) X 1 dX11_laid_52 q1 (by decide) (by decide) ?_
              refine lv_aload_n X.1 X.2.1 dX11_laid_95 rfl (lv_at hl 0 rfl) ?_
              refine g_11_27 (r := 127) X hP ks_11 rfl (tb t_1114 rfl) dX11_laid_96 ?_
              refine lv_iload_n X.1 X.2.1 dX11_laid_99 rfl (lv_at hl 2 rfl) ?_
              obtain ⟨j6, hij6, hjj6, hlj6, hf⟩ := ag_inv hf
              refine r_iald X hP (ch_11_27 ks_11).1 (ch_11_27 ks_11).2 hij6 hjj6 dX11_laid_100 ?_
              obtain ⟨rfl, rfl⟩ := so2_inv hf
              exact r_iret X hP hS dX11_laid_101
            replace hf := ie_inv q1 hf
            by_cases q2 : w32 l3 = 2
            · replace hf := it_inv q2 hf
              refine r_tsI (tgt := 102) (off := 50) X 2 dX11_laid_52 q2 (by decide) (by decide) ?_
              refine lv_aload_n X.1 X.2.1 dX11_laid_102 rfl (lv_at hl 0 rfl) ?_
              refine g_11_28 (r := 128) X hP ks_11 rfl (tb t_1115 rfl) dX11_laid_103 ?_
              refine lv_iload_n X.1 X.2.1 dX11_laid_106 rfl (lv_at hl 2 rfl) ?_
              obtain ⟨j7, hij7, hjj7, hlj7, hf⟩ := ag_inv hf
              refine r_iald X hP (ch_11_28 ks_11).1 (ch_11_28 ks_11).2 hij7 hjj7 dX11_laid_107 ?_
              obtain ⟨rfl, rfl⟩ := so2_inv hf
              exact r_iret X hP hS dX11_laid_108
            replace hf := ie_inv q2 hf
            by_cases q3 : w32 l3 = 3
            · replace hf := it_inv q3 hf
              refine r_tsI (tgt := 109) (off := 57) X 3 dX11_laid_52 q3 (by decide) (by decide) ?_
              refine lv_aload_n X.1 X.2.1 dX11_laid_109 rfl (lv_at hl 0 rfl) ?_
              refine g_11_29 (r := 129) X hP ks_11 rfl (tb t_1116 rfl) dX11_laid_110 ?_
              refine lv_iload_n X.1 X.2.1 dX11_laid_113 rfl (lv_at hl 2 rfl) ?_
              obtain ⟨j8, hij8, hjj8, hlj8, hf⟩ := ag_inv hf
              refine r_iald X hP (ch_11_29 ks_11).1 (ch_11_29 ks_11).2 hij8 hjj8 dX11_laid_114 ?_
              obtain ⟨rfl, rfl⟩ := so2_inv hf
              exact r_iret X hP hS dX11_laid_115
            replace hf := ie_inv q3 hf
            by_cases q4 : w32 l3 = 4
            · replace hf := it_inv q4 hf
              refine r_tsI (tgt := 116) (off := 64) X 4 dX11_laid_52 q4 (by decide) (by decide) ?_
              refine lv_aload_n X.1 X.2.1 dX11_laid_116 rfl (lv_at hl 0 rfl) ?_
              refine g_11_30 (r := 130) X hP ks_11 rfl (tb t_1117 rfl) dX11_laid_117 ?_
              refine lv_iload_n X.1 X.2.1 dX11_laid_120 rfl (lv_at hl 2 rfl) ?_
              obtain ⟨j9, hij9, hjj9, hlj9, hf⟩ := ag_inv hf
              refine r_iald X hP (ch_11_30 ks_11).1 (ch_11_30 ks_11).2 hij9 hjj9 dX11_laid_121 ?_
              obtain ⟨rfl, rfl⟩ := so2_inv hf
              exact r_iret X hP hS dX11_laid_122
            replace hf := ie_inv q4 hf
            refine r_tsO (tgt := 123) X dX11_laid_52 (by omega) (by decide) ?_
            refine lv_aload_n X.1 X.2.1 dX11_laid_123 rfl (lv_at hl 0 rfl) ?_
            refine g_11_31 (r := 131) X hP ks_11 rfl (tb t_1118 rfl) dX11_laid_124 ?_
            refine lv_iload_n X.1 X.2.1 dX11_laid_127 rfl (lv_at hl 2 rfl) ?_
            obtain ⟨j10, hij10, hjj10, hlj10, hf⟩ := ag_inv hf
            refine r_iald X hP (ch_11_31 ks_11).1 (ch_11_31 ks_11).2 hij10 hjj10 dX11_laid_128 ?_
            obtain ⟨rfl, rfl⟩ := so2_inv hf
            exact r_iret X hP hS dX11_laid_129
          · replace hf := ie_inv q hf
            exact a_X11_laid_45 X s4 H locs ls  hP hS hf (lv_sub hl [0] rfl)
      · replace hf := ie_inv q hf
        exact a_X11_laid_23 X σ H locs ls  hP hS hf (lv_sub hl [0] rfl)
set_option maxHeartbeats 4000000 in
theorem c_X11_laid {l : Launch} {G : GT} {σ τ : Mem} {res : Int} {l1 : Int} {l2 : Int} {l3 : Int} (hf : X11_laid σ l1 l2 l3 = some (res, τ)) : CT l yX11_laid cX11_laid 4 (some FieldType.int) 10 270 G [.ref (gh G + 111), .int (i32 l1), .int (i32 l2), .int (i32 l3)] σ τ (some (.int (i32 res))) := by
  refine CT.mk (own := RX11) (by decide) rfl (Nat.le_of_ble_eq_true rfl) ?_
  intro p e s m below meth c ls X hP hS hl
  have hl : lv_has ls 4 [(0, .ref (gh G + 111)), (1, .int (i32 l1)), (2, .int (i32 l2)), (3, .int (i32 l3))] := hl
  exact a_X11_laid_0 X σ s.heap [] ls l1 l2 l3 hP hS hf hl
theorem k_X11_laid {p : Program} {l : Launch} {e : Env} {R : Room} {s : State} {m : MethodId} {args : Array Value} {below : List Frame} {meth : Method} {c : Code} {H : Heap} {locs : List Loc} {Q : State → Prop} {cc : ByteArray} {nL : Nat} {own : String} {ret : Option FieldType} {fF fL : Nat} {G : GT} {pc idx : Nat} {ls : Array Slot} {rest : List Value} {σ τ : Mem} {res : Int} {l1 : Int} {l2 : Int} {l3 : Int} (X : CX p R s m args meth c cc nL own ret fF fL G) (hP : PW G σ H) (hS : va_S (AA G) s.heap H locs) (hls : ls.size = nL) (hf : X11_laid σ l1 l2 l3 = some (res, τ)) (h1 : Cond.methodLink own idx yX11_laid ∈ TB) (hR : 10 + 1 ≤ fF ∧ 8 + (4 + 11) + 270 ≤ fL) (hW : (rest.map fun v => v.category).sum ≤ 8) (hd : decode cc pc = .ok (.invokevirtual idx, 3)) (kk : ∀ (H1 : Heap) (locs1 : List Loc), PW G τ H1 → va_S (AA G) s.heap H1 locs1 → W p l e R s m args below meth c H1 locs1 0 0 Q (F0 m (pc + 3) ls (.int (i32 res) :: rest))) : W p l e R s m args below meth c H locs 0 0 Q (F0 m pc ls (.int (i32 l3) :: .int (i32 l2) :: .int (i32 l1) :: .ref (gh G + 111) :: rest)) := r_callV (n := 3) X hP hS hls (c_X11_laid hf) h1 (tb t_1426 rfl) (tb t_1427 rfl) (tb t_87 rfl) (tb t_1428 rfl) (by decide +kernel) hR (r_recv X hP (kd_lt ks_11 (by decide)) (cE_11 ks_11) rfl) rfl rfl hW hd kk
/-! X11_lay -/
theorem dX11_lay_0 : decode cX11_lay 0 = .ok (.iload_n 1, 1) := by decide +kernel
theorem dX11_lay_1 : decode cX11_lay 1 = .ok (.i2l, 1) := by decide +kernel
theorem dX11_lay_2 : decode cX11_lay 2 = .ok (.lconst 0, 1) := by decide +kernel
theorem dX11_lay_3 : decode cX11_lay 3 = .ok (.ldc2_w 129, 3) := by decide +kernel
theorem dX11_lay_6 : decode cX11_lay 6 = .ok (.invokestatic 93, 3) := by decide +kernel
theorem dX11_lay_9 : decode cX11_lay 9 = .ok (.ifCond .eq 12, 3) := by decide +kernel
theorem dX11_lay_12 : decode cX11_lay 12 = .ok (.aload_n 0, 1) := by decide +kernel
theorem dX11_lay_13 : decode cX11_lay 13 = .ok (.iload_n 2, 1) := by decide +kernel
theorem dX11_lay_14 : decode cX11_lay 14 = .ok (.iload_n 3, 1) := by decide +kernel
theorem dX11_lay_15 : decode cX11_lay 15 = .ok (.invokevirtual 211, 3) := by decide +kernel
theorem dX11_lay_18 : decode cX11_lay 18 = .ok (.ifCond .ne 9, 3) := by decide +kernel
theorem dX11_lay_21 : decode cX11_lay 21 = .ok (.aload_n 0, 1) := by decide +kernel
theorem dX11_lay_22 : decode cX11_lay 22 = .ok (.iconst 0, 1) := by decide +kernel
theorem dX11_lay_23 : decode cX11_lay 23 = .ok (.invokevirtual 122, 3) := by decide +kernel
theorem dX11_lay_26 : decode cX11_lay 26 = .ok (.ireturn, 1) := by decide +kernel
theorem dX11_lay_27 : decode cX11_lay 27 = .ok (.aload_n 0, 1) := by decide +kernel
theorem dX11_lay_28 : decode cX11_lay 28 = .ok (.getfield 9, 3) := by decide +kernel
theorem dX11_lay_31 : decode cX11_lay 31 = .ok (.sipush 665, 3) := by decide +kernel
theorem dX11_lay_34 : decode cX11_lay 34 = .ok (.iaload, 1) := by decide +kernel
theorem dX11_lay_35 : decode cX11_lay 35 = .ok (.istore 4, 2) := by decide +kernel
theorem dX11_lay_37 : decode cX11_lay 37 = .ok (.iload 4, 2) := by decide +kernel
theorem dX11_lay_39 : decode cX11_lay 39 = .ok (.bipush 30, 2) := by decide +kernel
theorem dX11_lay_41 : decode cX11_lay 41 = .ok (.if_icmp .ne 9, 3) := by decide +kernel
theorem dX11_lay_44 : decode cX11_lay 44 = .ok (.aload_n 0, 1) := by decide +kernel
theorem dX11_lay_45 : decode cX11_lay 45 = .ok (.iconst 1, 1) := by decide +kernel
theorem dX11_lay_46 : decode cX11_lay 46 = .ok (.invokevirtual 122, 3) := by decide +kernel
theorem dX11_lay_49 : decode cX11_lay 49 = .ok (.ireturn, 1) := by decide +kernel
theorem dX11_lay_50 : decode cX11_lay 50 = .ok (.aload_n 0, 1) := by decide +kernel
theorem dX11_lay_51 : decode cX11_lay 51 = .ok (.getfield 9, 3) := by decide +kernel
theorem dX11_lay_54 : decode cX11_lay 54 = .ok (.sipush 666, 3) := by decide +kernel
theorem dX11_lay_57 : decode cX11_lay 57 = .ok (.iconst 3, 1) := by decide +kernel
theorem dX11_lay_58 : decode cX11_lay 58 = .ok (.iload 4, 2) := by decide +kernel
theorem dX11_lay_60 : decode cX11_lay 60 = .ok (.imul, 1) := by decide +kernel
theorem dX11_lay_61 : decode cX11_lay 61 = .ok (.iadd, 1) := by decide +kernel
theorem dX11_lay_62 : decode cX11_lay 62 = .ok (.iload_n 1, 1) := by decide +kernel
theorem dX11_lay_63 : decode cX11_lay 63 = .ok (.iastore, 1) := by decide +kernel
theorem dX11_lay_64 : decode cX11_lay 64 = .ok (.aload_n 0, 1) := by decide +kernel
theorem dX11_lay_65 : decode cX11_lay 65 = .ok (.getfield 9, 3) := by decide +kernel
theorem dX11_lay_68 : decode cX11_lay 68 = .ok (.sipush 666, 3) := by decide +kernel
theorem dX11_lay_71 : decode cX11_lay 71 = .ok (.iconst 3, 1) := by decide +kernel
theorem dX11_lay_72 : decode cX11_lay 72 = .ok (.iload 4, 2) := by decide +kernel
theorem dX11_lay_74 : decode cX11_lay 74 = .ok (.imul, 1) := by decide +kernel
theorem dX11_lay_75 : decode cX11_lay 75 = .ok (.iadd, 1) := by decide +kernel
theorem dX11_lay_76 : decode cX11_lay 76 = .ok (.iconst 1, 1) := by decide +kernel
theorem dX11_lay_77 : decode cX11_lay 77 = .ok (.iadd, 1) := by decide +kernel
theorem dX11_lay_78 : decode cX11_lay 78 = .ok (.iload_n 2, 1) := by decide +kernel
theorem dX11_lay_79 : decode cX11_lay 79 = .ok (.iastore, 1) := by decide +kernel
theorem dX11_lay_80 : decode cX11_lay 80 = .ok (.aload_n 0, 1) := by decide +kernel
theorem dX11_lay_81 : decode cX11_lay 81 = .ok (.getfield 9, 3) := by decide +kernel
theorem dX11_lay_84 : decode cX11_lay 84 = .ok (.sipush 666, 3) := by decide +kernel
theorem dX11_lay_87 : decode cX11_lay 87 = .ok (.iconst 3, 1) := by decide +kernel
theorem dX11_lay_88 : decode cX11_lay 88 = .ok (.iload 4, 2) := by decide +kernel
theorem dX11_lay_90 : decode cX11_lay 90 = .ok (.imul, 1) := by decide +kernel
theorem dX11_lay_91 : decode cX11_lay 91 = .ok (.iadd, 1) := by decide +kernel
theorem dX11_lay_92 : decode cX11_lay 92 = .ok (.iconst 2, 1) := by decide +kernel
theorem dX11_lay_93 : decode cX11_lay 93 = .ok (.iadd, 1) := by decide +kernel
theorem dX11_lay_94 : decode cX11_lay 94 = .ok (.iload_n 3, 1) := by decide +kernel
theorem dX11_lay_95 : decode cX11_lay 95 = .ok (.iastore, 1) := by decide +kernel
theorem dX11_lay_96 : decode cX11_lay 96 = .ok (.aload_n 0, 1) := by decide +kernel
theorem dX11_lay_97 : decode cX11_lay 97 = .ok (.getfield 9, 3) := by decide +kernel
theorem dX11_lay_100 : decode cX11_lay 100 = .ok (.sipush 665, 3) := by decide +kernel
theorem dX11_lay_103 : decode cX11_lay 103 = .ok (.dup2, 1) := by decide +kernel
theorem dX11_lay_104 : decode cX11_lay 104 = .ok (.iaload, 1) := by decide +kernel
theorem dX11_lay_105 : decode cX11_lay 105 = .ok (.iconst 1, 1) := by decide +kernel
theorem dX11_lay_106 : decode cX11_lay 106 = .ok (.iadd, 1) := by decide +kernel
theorem dX11_lay_107 : decode cX11_lay 107 = .ok (.iastore, 1) := by decide +kernel
theorem dX11_lay_108 : decode cX11_lay 108 = .ok (.iload 4, 2) := by decide +kernel
theorem dX11_lay_110 : decode cX11_lay 110 = .ok (.ireturn, 1) := by decide +kernel
def X11_lay_B21 (σ : Mem) : Option (Int × Mem) :=
  bd2 (X11_finds σ 0) fun r1 s2 =>
  some (r1, s2)
def S_X11_lay_21 (fn : Mem → Option (Int × Mem)) (p : Program) (l : Launch) (e : Env) (R : Room) (s : State) (m : MethodId) (args : Array Value) (below : List Frame) (meth : Method) (c : Code) (G : GT) (τ : Mem) (res : Int) : Prop := ∀ (σ : Mem) (H : Heap) (locs : List Loc) (ls : Array Slot), PW G σ H → va_S (AA G) s.heap H locs → fn σ = some (res, τ) → lv_has ls 5 [(0, .ref (gh G + 111))] → W p l e R s m args below meth c H locs 0 0 (MQ below (QM G (some (.int (i32 res))) τ) args s 0 0 (AA G)) (F0 m 21 ls [])
def X11_lay (σ : Mem) (l1 : Int) (l2 : Int) (l3 : Int) : Option (Int × Mem) :=
  bd (X11_in σ (w32 l1) 0 6) fun r1 =>
  if w32 r1 = 0 then
    X11_lay_B21 σ
  else
  bd (X11_isBar σ l2 l3) fun r2 =>
  if w32 r2 ≠ 0 then
    ag 766 665 fun j3 =>
    lt (σ 112 j3) fun l4_4 =>
    if w32 l4_4 ≠ w32 30 then
      ag 766 (666 + (3 * l4_4)) fun j5 =>
      lt (st σ 112 j5 l1) fun s6 =>
      ag 766 ((666 + (3 * l4_4)) + 1) fun j7 =>
      lt (st s6 112 j7 l2) fun s8 =>
      ag 766 ((666 + (3 * l4_4)) + 2) fun j9 =>
      lt (st s8 112 j9 l3) fun s10 =>
      ag 766 665 fun j11 =>
      ag 766 665 fun j12 =>
      lt (st s10 112 j12 ((s10 112 j11) + 1)) fun s13 =>
      some (l4_4, s13)
    else
    bd2 (X11_finds σ 1) fun r14 s15 =>
    some (r14, s15)
  else
  X11_lay_B21 σ
def S_X11_lay_0 (fn : Mem → Int → Int → Int → Option (Int × Mem)) (p : Program) (l : Launch) (e : Env) (R : Room) (s : State) (m : MethodId) (args : Array Value) (below : List Frame) (meth : Method) (c : Code) (G : GT) (τ : Mem) (res : Int) : Prop := ∀ (σ : Mem) (H : Heap) (locs : List Loc) (ls : Array Slot) (l1 : Int) (l2 : Int) (l3 : Int), PW G σ H → va_S (AA G) s.heap H locs → fn σ l1 l2 l3 = some (res, τ) → lv_has ls 5 [(0, .ref (gh G + 111)), (1, .int (i32 l1)), (2, .int (i32 l2)), (3, .int (i32 l3))] → W p l e R s m args below meth c H locs 0 0 (MQ below (QM G (some (.int (i32 res))) τ) args s 0 0 (AA G)) (F0 m 0 ls [])
set_option maxHeartbeats 4000000 in
theorem a_X11_lay_21 {p : Program} {l : Launch} {e : Env} {R : Room} {s : State} {m : MethodId} {args : Array Value} {below : List Frame} {meth : Method} {c : Code} {G : GT} {τ : Mem} {res : Int} (X : CX p R s m args meth c cX11_lay 5 RX11 (some FieldType.int) 4 127 G) : S_X11_lay_21 (X11_lay_B21) p l e R s m args below meth c G τ res := by
  intro σ H locs ls hP hS hf hl
  unfold X11_lay_B21 at hf
  refine lv_aload_n X.1 X.2.1 dX11_lay_21 rfl (lv_at hl 0 rfl) ?_
  refine r_iconst X 0 dX11_lay_22 ?_
  obtain ⟨r1, s2, hr1, hf⟩ := bd2_inv hf
  refine k_X11_finds X hP hS hl.1  hr1 (tb t_1219 rfl) (by decide) (Nat.le_of_ble_eq_true rfl) dX11_lay_23 (fun H locs hP hS => ?_)
  obtain ⟨rfl, rfl⟩ := so2_inv hf
  exact r_iret X hP hS dX11_lay_26
set_option maxHeartbeats 4000000 in
theorem a_X11_lay_0 {p : Program} {l : Launch} {e : Env} {R : Room} {s : State} {m : MethodId} {args : Array Value} {below : List Frame} {meth : Method} {c : Code} {G : GT} {τ : Mem} {res : Int} (X : CX p R s m args meth c cX11_lay 5 RX11 (some FieldType.int) 4 127 G) : S_X11_lay_0 (X11_lay) p l e R s m args below meth c G τ res := by
  intro σ H locs ls l1 l2 l3 hP hS hf hl
  unfold X11_lay at hf
  refine lv_iload_n X.1 X.2.1 dX11_lay_0 rfl (lv_at hl 1 rfl) ?_
  refine r_i2l X dX11_lay_1 ?_
  refine r_lconst X 0 0 (by decide) dX11_lay_2 ?_
  refine r_ldc2 X 6 (tb t_1230 rfl) (by decide) dX11_lay_3 ?_
  obtain ⟨r1, hr1, hf⟩ := bd_inv hf
  refine k_X11_in X hP hS hl.1  hr1 (tb t_1208 rfl) (by decide) (Nat.le_of_ble_eq_true rfl) dX11_lay_6 (fun H locs hP hS => ?_)
  refine r_if_eq (tgt := 21) X dX11_lay_9 (by decide) (fun q => ?_) (fun q => ?_)
  · replace hf := it_inv q hf
    exact a_X11_lay_21 X σ H locs ls  hP hS hf (lv_sub hl [0] rfl)
  · replace hf := ie_inv q hf
    refine lv_aload_n X.1 X.2.1 dX11_lay_12 rfl (lv_at hl 0 rfl) ?_
    refine lv_iload_n X.1 X.2.1 dX11_lay_13 rfl (lv_at hl 2 rfl) ?_
    refine lv_iload_n X.1 X.2.1 dX11_lay_14 rfl (lv_at hl 3 rfl) ?_
    obtain ⟨r2, hr2, hf⟩ := bd_inv hf
    refine k_X11_isBar X hP hS hl.1  hr2 (tb t_1307 rfl) (by decide) (Nat.le_of_ble_eq_true rfl) dX11_lay_15 (fun H locs hP hS => ?_)
    refine r_if_ne (tgt := 27) X dX11_lay_18 (by decide) (fun q => ?_) (fun q => ?_)
    · replace hf := it_inv q hf
      refine lv_aload_n X.1 X.2.1 dX11_lay_27 rfl (lv_at hl 0 rfl) ?_
      refine g_11_0 (r := 112) X hP ks_11 rfl (tb t_1087 rfl) dX11_lay_28 ?_
      refine r_sipush X 665 (by decide) dX11_lay_31 ?_
      obtain ⟨j3, hij3, hjj3, hlj3, hf⟩ := ag_inv hf
      refine r_iald X hP (ch_11_0 ks_11).1 (ch_11_0 ks_11).2 hij3 hjj3 dX11_lay_34 ?_
      obtain ⟨l4_4, el4_4, hf⟩ := lt_inv hf
      refine r_eqi el4_4 ?_
      refine lv_istore (lv' := [(4, .int (i32 l4_4)), (0, .ref (gh G + 111)), (1, .int (i32 l1)), (2, .int (i32 l2)), (3, .int (i32 l3))]) X.1 X.2.1 dX11_lay_35 hl (by decide) rfl (fun ls hl => ?_)
      refine lv_iload X.1 X.2.1 dX11_lay_37 (lv_at hl 0 rfl) ?_
      refine r_bipush X 30 (by decide) dX11_lay_39 ?_
      refine r_icmp_ne (tgt := 50) X dX11_lay_41 (by decide) (fun q => ?_) (fun q => ?_)
      · replace hf := it_inv q hf
        refine lv_aload_n X.1 X.2.1 dX11_lay_50 rfl (lv_at hl 1 rfl) ?_
        refine g_11_0 (r := 112) X hP ks_11 rfl (tb t_1087 rfl) dX11_lay_51 ?_
        refine r_sipush X 666 (by decide) dX11_lay_54 ?_
        refine r_iconst X 3 dX11_lay_57 ?_
        refine lv_iload X.1 X.2.1 dX11_lay_58 (lv_at hl 0 rfl) ?_
        refine r_imul X dX11_lay_60 ?_
        refine r_iadd X dX11_lay_61 ?_
        refine lv_iload_n X.1 X.2.1 dX11_lay_62 rfl (lv_at hl 2 rfl) ?_
        obtain ⟨j5, hij5, hjj5, hlj5, hf⟩ := ag_inv hf
        refine r_iast X hP hS (ch_11_0 ks_11).1 (ch_11_0 ks_11).2 hij5 hjj5 dX11_lay_63 (fun H locs hP hS => ?_)
        obtain ⟨s6, es6, hf⟩ := lt_inv hf
        rw [es6] at hP
        refine lv_aload_n X.1 X.2.1 dX11_lay_64 rfl (lv_at hl 1 rfl) ?_
        refine g_11_0 (r := 112) X hP ks_11 rfl (tb t_1087 rfl) dX11_lay_65 ?_
        refine r_sipush X 666 (by decide) dX11_lay_68 ?_
        refine r_iconst X 3 dX11_lay_71 ?_
        refine lv_iload X.1 X.2.1 dX11_lay_72 (lv_at hl 0 rfl) ?_
        refine r_imul X dX11_lay_74 ?_
        refine r_iadd X dX11_lay_75 ?_
        refine r_iconst X 1 dX11_lay_76 ?_
        refine r_iadd X dX11_lay_77 ?_
        refine lv_iload_n X.1 X.2.1 dX11_lay_78 rfl (lv_at hl 3 rfl) ?_
        obtain ⟨j7, hij7, hjj7, hlj7, hf⟩ := ag_inv hf
        refine r_iast X hP hS (ch_11_0 ks_11).1 (ch_11_0 ks_11).2 hij7 hjj7 dX11_lay_79 (fun H locs hP hS => ?_)
        obtain ⟨s8, es8, hf⟩ := lt_inv hf
        rw [es8] at hP
        refine lv_aload_n X.1 X.2.1 dX11_lay_80 rfl (lv_at hl 1 rfl) ?_
        refine g_11_0 (r := 112) X hP ks_11 rfl (tb t_1087 rfl) dX11_lay_81 ?_
        refine r_sipush X 666 (by decide) dX11_lay_84 ?_
        refine r_iconst X 3 dX11_lay_87 ?_
        refine lv_iload X.1 X.2.1 dX11_lay_88 (lv_at hl 0 rfl) ?_
        refine r_imul X dX11_lay_90 ?_
        refine r_iadd X dX11_lay_91 ?_
        refine r_iconst X 2 dX11_lay_92 ?_
        refine r_iadd X dX11_lay_93 ?_
        refine lv_iload_n X.1 X.2.1 dX11_lay_94 rfl (lv_at hl 4 rfl) ?_
        obtain ⟨j9, hij9, hjj9, hlj9, hf⟩ := ag_inv hf
        refine r_iast X hP hS (ch_11_0 ks_11).1 (ch_11_0 ks_11).2 hij9 hjj9 dX11_lay_95 (fun H locs hP hS => ?_)
        obtain ⟨s10, es10, hf⟩ := lt_inv hf
        rw [es10] at hP
        refine lv_aload_n X.1 X.2.1 dX11_lay_96 rfl (lv_at hl 1 rfl) ?_
        refine g_11_0 (r := 112) X hP ks_11 rfl (tb t_1087 rfl) dX11_lay_97 ?_
        refine r_sipush X 665 (by decide) dX11_lay_100 ?_
        refine lv_dup2_11 X.1 X.2.1 dX11_lay_103 rfl rfl ?_
        obtain ⟨j11, hij11, hjj11, hlj11, hf⟩ := ag_inv hf
        refine r_iald X hP (ch_11_0 ks_11).1 (ch_11_0 ks_11).2 hij11 hjj11 dX11_lay_104 ?_
        refine r_iconst X 1 dX11_lay_105 ?_
        refine r_iadd X dX11_lay_106 ?_
        obtain ⟨j12, hij12, hjj12, hlj12, hf⟩ := ag_inv hf
        refine r_iast X hP hS (ch_11_0 ks_11).1 (ch_11_0 ks_11).2 hij12 hjj12 dX11_lay_107 (fun H locs hP hS => ?_)
        obtain ⟨s13, es13, hf⟩ := lt_inv hf
        rw [es13] at hP
        refine lv_iload X.1 X.2.1 dX11_lay_108 (lv_at hl 0 rfl) ?_
        obtain ⟨rfl, rfl⟩ := so2_inv hf
        exact r_iret X hP hS dX11_lay_110
      · replace hf := ie_inv q hf
        refine lv_aload_n X.1 X.2.1 dX11_lay_44 rfl (lv_at hl 1 rfl) ?_
        refine r_iconst X 1 dX11_lay_45 ?_
        obtain ⟨r14, s15, hr14, hf⟩ := bd2_inv hf
        refine k_X11_finds X hP hS hl.1  hr14 (tb t_1219 rfl) (by decide) (Nat.le_of_ble_eq_true rfl) dX11_lay_46 (fun H locs hP hS => ?_)
        obtain ⟨rfl, rfl⟩ := so2_inv hf
        exact r_iret X hP hS dX11_lay_49
    · replace hf := ie_inv q hf
      exact a_X11_lay_21 X σ H locs ls  hP hS hf (lv_sub hl [0] rfl)
set_option maxHeartbeats 4000000 in
theorem c_X11_lay {l : Launch} {G : GT} {σ τ : Mem} {res : Int} {l1 : Int} {l2 : Int} {l3 : Int} (hf : X11_lay σ l1 l2 l3 = some (res, τ)) : CT l yX11_lay cX11_lay 5 (some FieldType.int) 4 127 G [.ref (gh G + 111), .int (i32 l1), .int (i32 l2), .int (i32 l3)] σ τ (some (.int (i32 res))) := by
  refine CT.mk (own := RX11) (by decide) rfl (Nat.le_of_ble_eq_true rfl) ?_
  intro p e s m below meth c ls X hP hS hl
  have hl : lv_has ls 5 [(0, .ref (gh G + 111)), (1, .int (i32 l1)), (2, .int (i32 l2)), (3, .int (i32 l3))] := hl
  exact a_X11_lay_0 X σ s.heap [] ls l1 l2 l3 hP hS hf hl
theorem k_X11_lay {p : Program} {l : Launch} {e : Env} {R : Room} {s : State} {m : MethodId} {args : Array Value} {below : List Frame} {meth : Method} {c : Code} {H : Heap} {locs : List Loc} {Q : State → Prop} {cc : ByteArray} {nL : Nat} {own : String} {ret : Option FieldType} {fF fL : Nat} {G : GT} {pc idx : Nat} {ls : Array Slot} {rest : List Value} {σ τ : Mem} {res : Int} {l1 : Int} {l2 : Int} {l3 : Int} (X : CX p R s m args meth c cc nL own ret fF fL G) (hP : PW G σ H) (hS : va_S (AA G) s.heap H locs) (hls : ls.size = nL) (hf : X11_lay σ l1 l2 l3 = some (res, τ)) (h1 : Cond.methodLink own idx yX11_lay ∈ TB) (hR : 4 + 1 ≤ fF ∧ 8 + (5 + 11) + 127 ≤ fL) (hW : (rest.map fun v => v.category).sum ≤ 8) (hd : decode cc pc = .ok (.invokevirtual idx, 3)) (kk : ∀ (H1 : Heap) (locs1 : List Loc), PW G τ H1 → va_S (AA G) s.heap H1 locs1 → W p l e R s m args below meth c H1 locs1 0 0 Q (F0 m (pc + 3) ls (.int (i32 res) :: rest))) : W p l e R s m args below meth c H locs 0 0 Q (F0 m pc ls (.int (i32 l3) :: .int (i32 l2) :: .int (i32 l1) :: .ref (gh G + 111) :: rest)) := r_callV (n := 3) X hP hS hls (c_X11_lay hf) h1 (tb t_1478 rfl) (tb t_1479 rfl) (tb t_87 rfl) (tb t_1480 rfl) (by decide +kernel) hR (r_recv X hP (kd_lt ks_11 (by decide)) (cE_11 ks_11) rfl) rfl rfl hW hd kk
/-! X11_line -/
theorem dX11_line_0 : decode cX11_line 0 = .ok (.aload_n 0, 1) := by decide +kernel
theorem dX11_line_1 : decode cX11_line 1 = .ok (.iload_n 1, 1) := by decide +kernel
theorem dX11_line_2 : decode cX11_line 2 = .ok (.iload_n 2, 1) := by decide +kernel
theorem dX11_line_3 : decode cX11_line 3 = .ok (.iload_n 3, 1) := by decide +kernel
theorem dX11_line_4 : decode cX11_line 4 = .ok (.iload 4, 2) := by decide +kernel
theorem dX11_line_6 : decode cX11_line 6 = .ok (.invokevirtual 240, 3) := by decide +kernel
theorem dX11_line_9 : decode cX11_line 9 = .ok (.ifCond .ne 9, 3) := by decide +kernel
theorem dX11_line_12 : decode cX11_line 12 = .ok (.aload_n 0, 1) := by decide +kernel
theorem dX11_line_13 : decode cX11_line 13 = .ok (.iconst 0, 1) := by decide +kernel
theorem dX11_line_14 : decode cX11_line 14 = .ok (.invokevirtual 122, 3) := by decide +kernel
theorem dX11_line_17 : decode cX11_line 17 = .ok (.ireturn, 1) := by decide +kernel
theorem dX11_line_18 : decode cX11_line 18 = .ok (.aload_n 0, 1) := by decide +kernel
theorem dX11_line_19 : decode cX11_line 19 = .ok (.iload_n 1, 1) := by decide +kernel
theorem dX11_line_20 : decode cX11_line 20 = .ok (.iload_n 2, 1) := by decide +kernel
theorem dX11_line_21 : decode cX11_line 21 = .ok (.iload_n 3, 1) := by decide +kernel
theorem dX11_line_22 : decode cX11_line 22 = .ok (.iload 4, 2) := by decide +kernel
theorem dX11_line_24 : decode cX11_line 24 = .ok (.iconst 1, 1) := by decide +kernel
theorem dX11_line_25 : decode cX11_line 25 = .ok (.invokevirtual 244, 3) := by decide +kernel
theorem dX11_line_28 : decode cX11_line 28 = .ok (.istore 5, 2) := by decide +kernel
theorem dX11_line_30 : decode cX11_line 30 = .ok (.iload 5, 2) := by decide +kernel
theorem dX11_line_32 : decode cX11_line 32 = .ok (.aload_n 0, 1) := by decide +kernel
theorem dX11_line_33 : decode cX11_line 33 = .ok (.getfield 9, 3) := by decide +kernel
theorem dX11_line_36 : decode cX11_line 36 = .ok (.iconst 0, 1) := by decide +kernel
theorem dX11_line_37 : decode cX11_line 37 = .ok (.iaload, 1) := by decide +kernel
theorem dX11_line_38 : decode cX11_line 38 = .ok (.if_icmp .le 9, 3) := by decide +kernel
theorem dX11_line_41 : decode cX11_line 41 = .ok (.aload_n 0, 1) := by decide +kernel
theorem dX11_line_42 : decode cX11_line 42 = .ok (.iconst 2, 1) := by decide +kernel
theorem dX11_line_43 : decode cX11_line 43 = .ok (.invokevirtual 122, 3) := by decide +kernel
theorem dX11_line_46 : decode cX11_line 46 = .ok (.ireturn, 1) := by decide +kernel
theorem dX11_line_47 : decode cX11_line 47 = .ok (.aload_n 0, 1) := by decide +kernel
theorem dX11_line_48 : decode cX11_line 48 = .ok (.iload_n 1, 1) := by decide +kernel
theorem dX11_line_49 : decode cX11_line 49 = .ok (.iload_n 3, 1) := by decide +kernel
theorem dX11_line_50 : decode cX11_line 50 = .ok (.invokevirtual 248, 3) := by decide +kernel
theorem dX11_line_53 : decode cX11_line 53 = .ok (.ifCond .eq 17, 3) := by decide +kernel
theorem dX11_line_56 : decode cX11_line 56 = .ok (.aload_n 0, 1) := by decide +kernel
theorem dX11_line_57 : decode cX11_line 57 = .ok (.iload_n 1, 1) := by decide +kernel
theorem dX11_line_58 : decode cX11_line 58 = .ok (.iload_n 2, 1) := by decide +kernel
theorem dX11_line_59 : decode cX11_line 59 = .ok (.iload_n 3, 1) := by decide +kernel
theorem dX11_line_60 : decode cX11_line 60 = .ok (.iload 4, 2) := by decide +kernel
theorem dX11_line_62 : decode cX11_line 62 = .ok (.iload 5, 2) := by decide +kernel
theorem dX11_line_64 : decode cX11_line 64 = .ok (.invokevirtual 251, 3) := by decide +kernel
theorem dX11_line_67 : decode cX11_line 67 = .ok (.goto 8, 3) := by decide +kernel
theorem dX11_line_70 : decode cX11_line 70 = .ok (.aload_n 0, 1) := by decide +kernel
theorem dX11_line_71 : decode cX11_line 71 = .ok (.iconst 4, 1) := by decide +kernel
theorem dX11_line_72 : decode cX11_line 72 = .ok (.invokevirtual 122, 3) := by decide +kernel
theorem dX11_line_75 : decode cX11_line 75 = .ok (.ireturn, 1) := by decide +kernel
def X11_line (σ : Mem) (l1 : Int) (l2 : Int) (l3 : Int) (l4 : Int) : Option (Int × Mem) :=
  bd (X11_isSpan σ l1 l2 l3 l4) fun r1 =>
  if w32 r1 ≠ 0 then
    bd (X11_rooms σ l1 l2 l3 l4 1) fun r2 =>
    ag 766 0 fun j3 =>
    if w32 r2 ≤ w32 (σ 112 j3) then
      bd (X11_mayEnd σ l1 l3) fun r4 =>
      if w32 r4 = 0 then
        bd2 (X11_finds σ 4) fun r5 s6 =>
        some (r5, s6)
      else
      bd (X11_lineCost σ l1 l2 l3 l4 r2) fun r7 =>
      some (r7, σ)
    else
    bd2 (X11_finds σ 2) fun r8 s9 =>
    some (r8, s9)
  else
  bd2 (X11_finds σ 0) fun r10 s11 =>
  some (r10, s11)
def S_X11_line_0 (fn : Mem → Int → Int → Int → Int → Option (Int × Mem)) (p : Program) (l : Launch) (e : Env) (R : Room) (s : State) (m : MethodId) (args : Array Value) (below : List Frame) (meth : Method) (c : Code) (G : GT) (τ : Mem) (res : Int) : Prop := ∀ (σ : Mem) (H : Heap) (locs : List Loc) (ls : Array Slot) (l1 : Int) (l2 : Int) (l3 : Int) (l4 : Int), PW G σ H → va_S (AA G) s.heap H locs → fn σ l1 l2 l3 l4 = some (res, τ) → lv_has ls 6 [(0, .ref (gh G + 111)), (1, .int (i32 l1)), (2, .int (i32 l2)), (3, .int (i32 l3)), (4, .int (i32 l4))] → W p l e R s m args below meth c H locs 0 0 (MQ below (QM G (some (.int (i32 res))) τ) args s 0 0 (AA G)) (F0 m 0 ls [])
set_option maxHeartbeats 4000000 in
theorem a_X11_line_0 {p : Program} {l : Launch} {e : Env} {R : Room} {s : State} {m : MethodId} {args : Array Value} {below : List Frame} {meth : Method} {c : Code} {G : GT} {τ : Mem} {res : Int} (X : CX p R s m args meth c cX11_line 6 RX11 (some FieldType.int) 5 153 G) : S_X11_line_0 (X11_line) p l e R s m args below meth c G τ res := by
  intro σ H locs ls l1 l2 l3 l4 hP hS hf hl
  unfold X11_line at hf
  refine lv_aload_n X.1 X.2.1 dX11_line_0 rfl (lv_at hl 0 rfl) ?_
  refine lv_iload_n X.1 X.2.1 dX11_line_1 rfl (lv_at hl 1 rfl) ?_
  refine lv_iload_n X.1 X.2.1 dX11_line_2 rfl (lv_at hl 2 rfl) ?_
  refine lv_iload_n X.1 X.2.1 dX11_line_3 rfl (lv_at hl 3 rfl) ?_
  refine lv_iload X.1 X.2.1 dX11_line_4 (lv_at hl 4 rfl) ?_
  obtain ⟨r1, hr1, hf⟩ := bd_inv hf
  refine k_X11_isSpan X hP hS hl.1  hr1 (tb t_1353 rfl) (by decide) (Nat.le_of_ble_eq_true rfl) dX11_line_6 (fun H locs hP hS => ?_)
  refine r_if_ne (tgt := 18) X dX11_line_9 (by decide) (fun q => ?_) (fun q => ?_)
  · replace hf := it_inv q hf
    refine lv_aload_n X.1 X.2.1 dX11_line_18 rfl (lv_at hl 0 rfl) ?_
    refine lv_iload_n X.1 X.2.1 dX11_line_19 rfl (lv_at hl 1 rfl) ?_
    refine lv_iload_n X.1 X.2.1 dX11_line_20 rfl (lv_at hl 2 rfl) ?_
    refine lv_iload_n X.1 X.2.1 dX11_line_21 rfl (lv_at hl 3 rfl) ?_
    refine lv_iload X.1 X.2.1 dX11_line_22 (lv_at hl 4 rfl) ?_
    refine r_iconst X 1 dX11_line_24 ?_
    obtain ⟨r2, hr2, hf⟩ := bd_inv hf
    refine k_X11_rooms X hP hS hl.1  hr2 (tb t_1357 rfl) (by decide) (Nat.le_of_ble_eq_true rfl) dX11_line_25 (fun H locs hP hS => ?_)
    refine lv_istore (lv' := [(5, .int (i32 r2)), (0, .ref (gh G + 111)), (1, .int (i32 l1)), (2, .int (i32 l2)), (3, .int (i32 l3)), (4, .int (i32 l4))]) X.1 X.2.1 dX11_line_28 hl (by decide) rfl (fun ls hl => ?_)
    refine lv_iload X.1 X.2.1 dX11_line_30 (lv_at hl 0 rfl) ?_
    refine lv_aload_n X.1 X.2.1 dX11_line_32 rfl (lv_at hl 1 rfl) ?_
    refine g_11_0 (r := 112) X hP ks_11 rfl (tb t_1087 rfl) dX11_line_33 ?_
    refine r_iconst X 0 dX11_line_36 ?_
    obtain ⟨j3, hij3, hjj3, hlj3, hf⟩ := ag_inv hf
    refine r_iald X hP (ch_11_0 ks_11).1 (ch_11_0 ks_11).2 hij3 hjj3 dX11_line_37 ?_
    refine r_icmp_le (tgt := 47) X dX11_line_38 (by decide) (fun q => ?_) (fun q => ?_)
    · replace hf := it_inv q hf
      refine lv_aload_n X.1 X.2.1 dX11_line_47 rfl (lv_at hl 1 rfl) ?_
      refine lv_iload_n X.1 X.2.1 dX11_line_48 rfl (lv_at hl 2 rfl) ?_
      refine lv_iload_n X.1 X.2.1 dX11_line_49 rfl (lv_at hl 4 rfl) ?_
      obtain ⟨r4, hr4, hf⟩ := bd_inv hf
      refine k_X11_mayEnd X hP hS hl.1  hr4 (tb t_1361 rfl) (by decide) (Nat.le_of_ble_eq_true rfl) dX11_line_50 (fun H locs hP hS => ?_)
      refine r_if_eq (tgt := 70) X dX11_line_53 (by decide) (fun q => ?_) (fun q => ?_)
      · replace hf := it_inv q hf
        refine lv_aload_n X.1 X.2.1 dX11_line_70 rfl (lv_at hl 1 rfl) ?_
        refine r_iconst X 4 dX11_line_71 ?_
        obtain ⟨r5, s6, hr5, hf⟩ := bd2_inv hf
        refine k_X11_finds X hP hS hl.1  hr5 (tb t_1219 rfl) (by decide) (Nat.le_of_ble_eq_true rfl) dX11_line_72 (fun H locs hP hS => ?_)
        obtain ⟨rfl, rfl⟩ := so2_inv hf
        exact r_iret X hP hS dX11_line_75
      · replace hf := ie_inv q hf
        refine lv_aload_n X.1 X.2.1 dX11_line_56 rfl (lv_at hl 1 rfl) ?_
        refine lv_iload_n X.1 X.2.1 dX11_line_57 rfl (lv_at hl 2 rfl) ?_
        refine lv_iload_n X.1 X.2.1 dX11_line_58 rfl (lv_at hl 3 rfl) ?_
        refine lv_iload_n X.1 X.2.1 dX11_line_59 rfl (lv_at hl 4 rfl) ?_
        refine lv_iload X.1 X.2.1 dX11_line_60 (lv_at hl 5 rfl) ?_
        refine lv_iload X.1 X.2.1 dX11_line_62 (lv_at hl 0 rfl) ?_
        obtain ⟨r7, hr7, hf⟩ := bd_inv hf
        refine k_X11_lineCost X hP hS hl.1  hr7 (tb t_1369 rfl) (by decide) (Nat.le_of_ble_eq_true rfl) dX11_line_64 (fun H locs hP hS => ?_)
        refine lv_goto (tgt := 75) X.1 X.2.1 dX11_line_67 (by decide) ?_
        obtain ⟨rfl, rfl⟩ := so2_inv hf
        exact r_iret X hP hS dX11_line_75
    · replace hf := ie_inv q hf
      refine lv_aload_n X.1 X.2.1 dX11_line_41 rfl (lv_at hl 1 rfl) ?_
      refine r_iconst X 2 dX11_line_42 ?_
      obtain ⟨r8, s9, hr8, hf⟩ := bd2_inv hf
      refine k_X11_finds X hP hS hl.1  hr8 (tb t_1219 rfl) (by decide) (Nat.le_of_ble_eq_true rfl) dX11_line_43 (fun H locs hP hS => ?_)
      obtain ⟨rfl, rfl⟩ := so2_inv hf
      exact r_iret X hP hS dX11_line_46
  · replace hf := ie_inv q hf
    refine lv_aload_n X.1 X.2.1 dX11_line_12 rfl (lv_at hl 0 rfl) ?_
    refine r_iconst X 0 dX11_line_13 ?_
    obtain ⟨r10, s11, hr10, hf⟩ := bd2_inv hf
    refine k_X11_finds X hP hS hl.1  hr10 (tb t_1219 rfl) (by decide) (Nat.le_of_ble_eq_true rfl) dX11_line_14 (fun H locs hP hS => ?_)
    obtain ⟨rfl, rfl⟩ := so2_inv hf
    exact r_iret X hP hS dX11_line_17
set_option maxHeartbeats 4000000 in
theorem c_X11_line {l : Launch} {G : GT} {σ τ : Mem} {res : Int} {l1 : Int} {l2 : Int} {l3 : Int} {l4 : Int} (hf : X11_line σ l1 l2 l3 l4 = some (res, τ)) : CT l yX11_line cX11_line 6 (some FieldType.int) 5 153 G [.ref (gh G + 111), .int (i32 l1), .int (i32 l2), .int (i32 l3), .int (i32 l4)] σ τ (some (.int (i32 res))) := by
  refine CT.mk (own := RX11) (by decide) rfl (Nat.le_of_ble_eq_true rfl) ?_
  intro p e s m below meth c ls X hP hS hl
  have hl : lv_has ls 6 [(0, .ref (gh G + 111)), (1, .int (i32 l1)), (2, .int (i32 l2)), (3, .int (i32 l3)), (4, .int (i32 l4))] := hl
  exact a_X11_line_0 X σ s.heap [] ls l1 l2 l3 l4 hP hS hf hl
theorem k_X11_line {p : Program} {l : Launch} {e : Env} {R : Room} {s : State} {m : MethodId} {args : Array Value} {below : List Frame} {meth : Method} {c : Code} {H : Heap} {locs : List Loc} {Q : State → Prop} {cc : ByteArray} {nL : Nat} {own : String} {ret : Option FieldType} {fF fL : Nat} {G : GT} {pc idx : Nat} {ls : Array Slot} {rest : List Value} {σ τ : Mem} {res : Int} {l1 : Int} {l2 : Int} {l3 : Int} {l4 : Int} (X : CX p R s m args meth c cc nL own ret fF fL G) (hP : PW G σ H) (hS : va_S (AA G) s.heap H locs) (hls : ls.size = nL) (hf : X11_line σ l1 l2 l3 l4 = some (res, τ)) (h1 : Cond.methodLink own idx yX11_line ∈ TB) (hR : 5 + 1 ≤ fF ∧ 8 + (6 + 11) + 153 ≤ fL) (hW : (rest.map fun v => v.category).sum ≤ 8) (hd : decode cc pc = .ok (.invokevirtual idx, 3)) (kk : ∀ (H1 : Heap) (locs1 : List Loc), PW G τ H1 → va_S (AA G) s.heap H1 locs1 → W p l e R s m args below meth c H1 locs1 0 0 Q (F0 m (pc + 3) ls (.int (i32 res) :: rest))) : W p l e R s m args below meth c H locs 0 0 Q (F0 m pc ls (.int (i32 l4) :: .int (i32 l3) :: .int (i32 l2) :: .int (i32 l1) :: .ref (gh G + 111) :: rest)) := r_callV (n := 4) X hP hS hls (c_X11_line hf) h1 (tb t_1350 rfl) (tb t_1351 rfl) (tb t_87 rfl) (tb t_1352 rfl) (by decide +kernel) hR (r_recv X hP (kd_lt ks_11 (by decide)) (cE_11 ks_11) rfl) rfl rfl hW hd kk
/-! X11_maySet -/
theorem dX11_maySet_0 : decode cX11_maySet 0 = .ok (.iload_n 1, 1) := by decide +kernel
theorem dX11_maySet_1 : decode cX11_maySet 1 = .ok (.ifCond .ne 17, 3) := by decide +kernel
theorem dX11_maySet_4 : decode cX11_maySet 4 = .ok (.iload_n 2, 1) := by decide +kernel
theorem dX11_maySet_5 : decode cX11_maySet 5 = .ok (.i2l, 1) := by decide +kernel
theorem dX11_maySet_6 : decode cX11_maySet 6 = .ok (.ldc2_w 108, 3) := by decide +kernel
theorem dX11_maySet_9 : decode cX11_maySet 9 = .ok (.ldc2_w 110, 3) := by decide +kernel
theorem dX11_maySet_12 : decode cX11_maySet 12 = .ok (.invokestatic 93, 3) := by decide +kernel
theorem dX11_maySet_15 : decode cX11_maySet 15 = .ok (.goto 61, 3) := by decide +kernel
theorem dX11_maySet_18 : decode cX11_maySet 18 = .ok (.iload_n 1, 1) := by decide +kernel
theorem dX11_maySet_19 : decode cX11_maySet 19 = .ok (.iconst 1, 1) := by decide +kernel
theorem dX11_maySet_20 : decode cX11_maySet 20 = .ok (.if_icmp .ne 15, 3) := by decide +kernel
theorem dX11_maySet_23 : decode cX11_maySet 23 = .ok (.iload_n 2, 1) := by decide +kernel
theorem dX11_maySet_24 : decode cX11_maySet 24 = .ok (.i2l, 1) := by decide +kernel
theorem dX11_maySet_25 : decode cX11_maySet 25 = .ok (.lconst 0, 1) := by decide +kernel
theorem dX11_maySet_26 : decode cX11_maySet 26 = .ok (.ldc2_w 112, 3) := by decide +kernel
theorem dX11_maySet_29 : decode cX11_maySet 29 = .ok (.invokestatic 93, 3) := by decide +kernel
theorem dX11_maySet_32 : decode cX11_maySet 32 = .ok (.goto 44, 3) := by decide +kernel
theorem dX11_maySet_35 : decode cX11_maySet 35 = .ok (.iload_n 1, 1) := by decide +kernel
theorem dX11_maySet_36 : decode cX11_maySet 36 = .ok (.iconst 2, 1) := by decide +kernel
theorem dX11_maySet_37 : decode cX11_maySet 37 = .ok (.if_icmp .ne 30, 3) := by decide +kernel
theorem dX11_maySet_40 : decode cX11_maySet 40 = .ok (.iload_n 2, 1) := by decide +kernel
theorem dX11_maySet_41 : decode cX11_maySet 41 = .ok (.i2l, 1) := by decide +kernel
theorem dX11_maySet_42 : decode cX11_maySet 42 = .ok (.ldc2_w 114, 3) := by decide +kernel
theorem dX11_maySet_45 : decode cX11_maySet 45 = .ok (.ldc2_w 91, 3) := by decide +kernel
theorem dX11_maySet_48 : decode cX11_maySet 48 = .ok (.invokestatic 93, 3) := by decide +kernel
theorem dX11_maySet_51 : decode cX11_maySet 51 = .ok (.ifCond .eq 12, 3) := by decide +kernel
theorem dX11_maySet_54 : decode cX11_maySet 54 = .ok (.iload_n 2, 1) := by decide +kernel
theorem dX11_maySet_55 : decode cX11_maySet 55 = .ok (.iload_n 0, 1) := by decide +kernel
theorem dX11_maySet_56 : decode cX11_maySet 56 = .ok (.if_icmp .eq 7, 3) := by decide +kernel
theorem dX11_maySet_59 : decode cX11_maySet 59 = .ok (.iconst 1, 1) := by decide +kernel
theorem dX11_maySet_60 : decode cX11_maySet 60 = .ok (.goto 16, 3) := by decide +kernel
theorem dX11_maySet_63 : decode cX11_maySet 63 = .ok (.iconst 0, 1) := by decide +kernel
theorem dX11_maySet_64 : decode cX11_maySet 64 = .ok (.goto 12, 3) := by decide +kernel
theorem dX11_maySet_67 : decode cX11_maySet 67 = .ok (.iload_n 2, 1) := by decide +kernel
theorem dX11_maySet_68 : decode cX11_maySet 68 = .ok (.i2l, 1) := by decide +kernel
theorem dX11_maySet_69 : decode cX11_maySet 69 = .ok (.lconst 0, 1) := by decide +kernel
theorem dX11_maySet_70 : decode cX11_maySet 70 = .ok (.ldc2_w 116, 3) := by decide +kernel
theorem dX11_maySet_73 : decode cX11_maySet 73 = .ok (.invokestatic 93, 3) := by decide +kernel
theorem dX11_maySet_76 : decode cX11_maySet 76 = .ok (.ireturn, 1) := by decide +kernel
def X11_maySet (σ : Mem) (l0 : Int) (l1 : Int) (l2 : Int) : Option (Int) :=
  if w32 l1 ≠ 0 then
    if w32 l1 ≠ w32 1 then
      if w32 l1 ≠ w32 2 then
        bd (X11_in σ (w32 l2) 0 1023) fun r1 =>
        bg r1 <|
        some r1
      else
      bd (X11_in σ (w32 l2) (-1) 3) fun r3 =>
      if w32 r3 = 0 then
        some 0
      else
      if w32 l2 = w32 l0 then
        some 0
      else
      some 1
    else
    bd (X11_in σ (w32 l2) 0 8) fun r4 =>
    bg r4 <|
    some r4
  else
  bd (X11_in σ (w32 l2) 30 240) fun r6 =>
  bg r6 <|
  some r6
def S_X11_maySet_0 (fn : Int → Int → Int → Option (Int)) (p : Program) (l : Launch) (e : Env) (R : Room) (s : State) (m : MethodId) (args : Array Value) (below : List Frame) (meth : Method) (c : Code) (G : GT) (σ : Mem) (res : Int) : Prop := ∀ (H : Heap) (locs : List Loc) (ls : Array Slot) (l0 : Int) (l1 : Int) (l2 : Int), PW G σ H → va_S (AA G) s.heap H locs → fn l0 l1 l2 = some res → lv_has ls 3 [(0, .int (i32 l0)), (1, .int (i32 l1)), (2, .int (i32 l2))] → W p l e R s m args below meth c H locs 0 0 (MQ below (QM G (some (.int (i32 res))) σ) args s 0 0 (AA G)) (F0 m 0 ls [])
set_option maxHeartbeats 4000000 in
theorem a_X11_maySet_0 {p : Program} {l : Launch} {e : Env} {R : Room} {s : State} {m : MethodId} {args : Array Value} {below : List Frame} {meth : Method} {c : Code} {G : GT} {σ : Mem} {res : Int} (X : CX p R s m args meth c cX11_maySet 3 RX11 (some FieldType.boolean) 2 85 G) : S_X11_maySet_0 (X11_maySet σ) p l e R s m args below meth c G σ res := by
  intro H locs ls l0 l1 l2 hP hS hf hl
  unfold X11_maySet at hf
  refine lv_iload_n X.1 X.2.1 dX11_maySet_0 rfl (lv_at hl 1 rfl) ?_
  refine r_if_ne (tgt := 18) X dX11_maySet_1 (by decide) (fun q => ?_) (fun q => ?_)
  · replace hf := it_inv q hf
    refine lv_iload_n X.1 X.2.1 dX11_maySet_18 rfl (lv_at hl 1 rfl) ?_
    refine r_iconst X 1 dX11_maySet_19 ?_
    refine r_icmp_ne (tgt := 35) X dX11_maySet_20 (by decide) (fun q => ?_) (fun q => ?_)
    · replace hf := it_inv q hf
      refine lv_iload_n X.1 X.2.1 dX11_maySet_35 rfl (lv_at hl 1 rfl) ?_
      refine r_iconst X 2 dX11_maySet_36 ?_
      refine r_icmp_ne (tgt := 67) X dX11_maySet_37 (by decide) (fun q => ?_) (fun q => ?_)
      · replace hf := it_inv q hf
        refine lv_iload_n X.1 X.2.1 dX11_maySet_67 rfl (lv_at hl 2 rfl) ?_
        refine r_i2l X dX11_maySet_68 ?_
        refine r_lconst X 0 0 (by decide) dX11_maySet_69 ?_
        refine r_ldc2 X 1023 (tb t_1218 rfl) (by decide) dX11_maySet_70 ?_
        obtain ⟨r1, hr1, hf⟩ := bd_inv hf
        refine k_X11_in X hP hS hl.1  hr1 (tb t_1208 rfl) (by decide) (Nat.le_of_ble_eq_true rfl) dX11_maySet_73 (fun H locs hP hS => ?_)
        obtain ⟨hb2, hf⟩ := bg_inv hf
        cases so_inv hf
        exact r_zret X hP hS hb2 dX11_maySet_76
      · replace hf := ie_inv q hf
        refine lv_iload_n X.1 X.2.1 dX11_maySet_40 rfl (lv_at hl 2 rfl) ?_
        refine r_i2l X dX11_maySet_41 ?_
        refine r_ldc2 X (-1) (tb t_1217 rfl) (by decide) dX11_maySet_42 ?_
        refine r_ldc2 X 3 (tb t_1207 rfl) (by decide) dX11_maySet_45 ?_
        obtain ⟨r3, hr3, hf⟩ := bd_inv hf
        refine k_X11_in X hP hS hl.1  hr3 (tb t_1208 rfl) (by decide) (Nat.le_of_ble_eq_true rfl) dX11_maySet_48 (fun H locs hP hS => ?_)
        refine r_if_eq (tgt := 63) X dX11_maySet_51 (by decide) (fun q => ?_) (fun q => ?_)
        · replace hf := it_inv q hf
          refine r_iconst X 0 dX11_maySet_63 ?_
          refine lv_goto (tgt := 76) X.1 X.2.1 dX11_maySet_64 (by decide) ?_
          cases so_inv hf
          exact r_zret X hP hS (Or.inl rfl) dX11_maySet_76
        · replace hf := ie_inv q hf
          refine lv_iload_n X.1 X.2.1 dX11_maySet_54 rfl (lv_at hl 2 rfl) ?_
          refine lv_iload_n X.1 X.2.1 dX11_maySet_55 rfl (lv_at hl 0 rfl) ?_
          refine r_icmp_eq (tgt := 63) X dX11_maySet_56 (by decide) (fun q => ?_) (fun q => ?_)
          · replace hf := it_inv q hf
            refine r_iconst X 0 dX11_maySet_63 ?_
            refine lv_goto (tgt := 76) X.1 X.2.1 dX11_maySet_64 (by decide) ?_
            cases so_inv hf
            exact r_zret X hP hS (Or.inl rfl) dX11_maySet_76
          · replace hf := ie_inv q hf
            refine r_iconst X 1 dX11_maySet_59 ?_
            refine lv_goto (tgt := 76) X.1 X.2.1 dX11_maySet_60 (by decide) ?_
            cases so_inv hf
            exact r_zret X hP hS (Or.inr rfl) dX11_maySet_76
    · replace hf := ie_inv q hf
      refine lv_iload_n X.1 X.2.1 dX11_maySet_23 rfl (lv_at hl 2 rfl) ?_
      refine r_i2l X dX11_maySet_24 ?_
      refine r_lconst X 0 0 (by decide) dX11_maySet_25 ?_
      refine r_ldc2 X 8 (tb t_1216 rfl) (by decide) dX11_maySet_26 ?_
      obtain ⟨r4, hr4, hf⟩ := bd_inv hf
      refine k_X11_in X hP hS hl.1  hr4 (tb t_1208 rfl) (by decide) (Nat.le_of_ble_eq_true rfl) dX11_maySet_29 (fun H locs hP hS => ?_)
      refine lv_goto (tgt := 76) X.1 X.2.1 dX11_maySet_32 (by decide) ?_
      obtain ⟨hb5, hf⟩ := bg_inv hf
      cases so_inv hf
      exact r_zret X hP hS hb5 dX11_maySet_76
  · replace hf := ie_inv q hf
    refine lv_iload_n X.1 X.2.1 dX11_maySet_4 rfl (lv_at hl 2 rfl) ?_
    refine r_i2l X dX11_maySet_5 ?_
    refine r_ldc2 X 30 (tb t_1214 rfl) (by decide) dX11_maySet_6 ?_
    refine r_ldc2 X 240 (tb t_1215 rfl) (by decide) dX11_maySet_9 ?_
    obtain ⟨r6, hr6, hf⟩ := bd_inv hf
    refine k_X11_in X hP hS hl.1  hr6 (tb t_1208 rfl) (by decide) (Nat.le_of_ble_eq_true rfl) dX11_maySet_12 (fun H locs hP hS => ?_)
    refine lv_goto (tgt := 76) X.1 X.2.1 dX11_maySet_15 (by decide) ?_
    obtain ⟨hb7, hf⟩ := bg_inv hf
    cases so_inv hf
    exact r_zret X hP hS hb7 dX11_maySet_76
set_option maxHeartbeats 4000000 in
theorem c_X11_maySet {l : Launch} {G : GT} {σ : Mem} {res : Int} {l0 : Int} {l1 : Int} {l2 : Int} (hf : X11_maySet σ l0 l1 l2 = some res) : CT l yX11_maySet cX11_maySet 3 (some FieldType.boolean) 2 85 G [.int (i32 l0), .int (i32 l1), .int (i32 l2)] σ σ (some (.int (i32 res))) := by
  refine CT.mk (own := RX11) (by decide) rfl (Nat.le_of_ble_eq_true rfl) ?_
  intro p e s m below meth c ls X hP hS hl
  have hl : lv_has ls 3 [(0, .int (i32 l0)), (1, .int (i32 l1)), (2, .int (i32 l2))] := hl
  exact a_X11_maySet_0 X  s.heap [] ls l0 l1 l2 hP hS hf hl
theorem k_X11_maySet {p : Program} {l : Launch} {e : Env} {R : Room} {s : State} {m : MethodId} {args : Array Value} {below : List Frame} {meth : Method} {c : Code} {H : Heap} {locs : List Loc} {Q : State → Prop} {cc : ByteArray} {nL : Nat} {own : String} {ret : Option FieldType} {fF fL : Nat} {G : GT} {pc idx : Nat} {ls : Array Slot} {rest : List Value} {σ : Mem} {res : Int} {l0 : Int} {l1 : Int} {l2 : Int} (X : CX p R s m args meth c cc nL own ret fF fL G) (hP : PW G σ H) (hS : va_S (AA G) s.heap H locs) (hls : ls.size = nL) (hf : X11_maySet σ l0 l1 l2 = some res) (h1 : Cond.methodLink own idx yX11_maySet ∈ TB) (hR : 2 + 1 ≤ fF ∧ 8 + (3 + 11) + 85 ≤ fL) (hW : (rest.map fun v => v.category).sum ≤ 8) (hd : decode cc pc = .ok (.invokestatic idx, 3)) (kk : ∀ (H1 : Heap) (locs1 : List Loc), PW G σ H1 → va_S (AA G) s.heap H1 locs1 → W p l e R s m args below meth c H1 locs1 0 0 Q (F0 m (pc + 3) ls (.int (i32 res) :: rest))) : W p l e R s m args below meth c H locs 0 0 Q (F0 m pc ls (.int (i32 l2) :: .int (i32 l1) :: .int (i32 l0) :: rest)) := r_callS (n := 3) X hP hS hls (c_X11_maySet hf) h1 (tb t_1212 rfl) (tb t_87 rfl) (tb t_1213 rfl) (by decide +kernel) hR rfl rfl hW hd kk
theorem kn_X11_maySet {p : Program} {l : Launch} {e : Env} {R : Room} {s : State} {m : MethodId} {args : Array Value} {below : List Frame} {meth : Method} {c : Code} {H : Heap} {locs : List Loc} {Q : State → Prop} {cc : ByteArray} {nL : Nat} {own : String} {ret : Option FieldType} {fF fL : Nat} {G : GT} {pc idx : Nat} {ls : Array Slot} {rest : List Value} {σ : Mem} {res : Int} {l0 : Int} {l1 : Int} {l2 : Int} (X : CX p R s m args meth c cc nL own ret fF fL G) (hP : PW G σ H) (hS : va_S (AA G) s.heap H locs) (hls : ls.size = nL) (hf : X11_maySet σ l0 l1 l2 = some res) {host : String} (h1 : Cond.methodLinkNest own idx yX11_maySet host ∈ NWl) (hR : 2 + 1 ≤ fF ∧ 8 + (3 + 11) + 85 ≤ fL) (hW : (rest.map fun v => v.category).sum ≤ 8) (hd : decode cc pc = .ok (.invokestatic idx, 3)) (kk : ∀ (H1 : Heap) (locs1 : List Loc), PW G σ H1 → va_S (AA G) s.heap H1 locs1 → W p l e R s m args below meth c H1 locs1 0 0 Q (F0 m (pc + 3) ls (.int (i32 res) :: rest))) : W p l e R s m args below meth c H locs 0 0 Q (F0 m pc ls (.int (i32 l2) :: .int (i32 l1) :: .int (i32 l0) :: rest)) := r_callSN (n := 3) X hP hS hls (c_X11_maySet hf) h1 (tb t_1212 rfl) (tb t_87 rfl) (tb t_1213 rfl) (by decide +kernel) hR rfl rfl hW hd kk
