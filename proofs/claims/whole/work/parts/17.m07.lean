/-! X11_free -/
theorem dX11_free_0 : decode cX11_free 0 = .ok (.aload_n 0, 1) := by decide +kernel
theorem dX11_free_1 : decode cX11_free 1 = .ok (.iload_n 1, 1) := by decide +kernel
theorem dX11_free_2 : decode cX11_free 2 = .ok (.iload_n 2, 1) := by decide +kernel
theorem dX11_free_3 : decode cX11_free 3 = .ok (.iconst (-1), 1) := by decide +kernel
theorem dX11_free_4 : decode cX11_free 4 = .ok (.iconst 0, 1) := by decide +kernel
theorem dX11_free_5 : decode cX11_free 5 = .ok (.invokevirtual 225, 3) := by decide +kernel
theorem dX11_free_8 : decode cX11_free 8 = .ok (.aload_n 0, 1) := by decide +kernel
theorem dX11_free_9 : decode cX11_free 9 = .ok (.iload_n 1, 1) := by decide +kernel
theorem dX11_free_10 : decode cX11_free 10 = .ok (.iload_n 2, 1) := by decide +kernel
theorem dX11_free_11 : decode cX11_free 11 = .ok (.iconst 1, 1) := by decide +kernel
theorem dX11_free_12 : decode cX11_free 12 = .ok (.iadd, 1) := by decide +kernel
theorem dX11_free_13 : decode cX11_free 13 = .ok (.iconst 1, 1) := by decide +kernel
theorem dX11_free_14 : decode cX11_free 14 = .ok (.iload_n 3, 1) := by decide +kernel
theorem dX11_free_15 : decode cX11_free 15 = .ok (.ifCond .eq 17, 3) := by decide +kernel
theorem dX11_free_18 : decode cX11_free 18 = .ok (.aload_n 0, 1) := by decide +kernel
theorem dX11_free_19 : decode cX11_free 19 = .ok (.getfield 9, 3) := by decide +kernel
theorem dX11_free_22 : decode cX11_free 22 = .ok (.iload_n 1, 1) := by decide +kernel
theorem dX11_free_23 : decode cX11_free 23 = .ok (.invokestatic 86, 3) := by decide +kernel
theorem dX11_free_26 : decode cX11_free 26 = .ok (.iconst 1, 1) := by decide +kernel
theorem dX11_free_27 : decode cX11_free 27 = .ok (.iadd, 1) := by decide +kernel
theorem dX11_free_28 : decode cX11_free 28 = .ok (.iaload, 1) := by decide +kernel
theorem dX11_free_29 : decode cX11_free 29 = .ok (.goto 4, 3) := by decide +kernel
theorem dX11_free_32 : decode cX11_free 32 = .ok (.iconst 0, 1) := by decide +kernel
theorem dX11_free_33 : decode cX11_free 33 = .ok (.invokevirtual 225, 3) := by decide +kernel
theorem dX11_free_36 : decode cX11_free 36 = .ok (.iadd, 1) := by decide +kernel
theorem dX11_free_37 : decode cX11_free 37 = .ok (.istore 4, 2) := by decide +kernel
theorem dX11_free_39 : decode cX11_free 39 = .ok (.iload 4, 2) := by decide +kernel
theorem dX11_free_41 : decode cX11_free 41 = .ok (.sipush 6000, 3) := by decide +kernel
theorem dX11_free_44 : decode cX11_free 44 = .ok (.imul, 1) := by decide +kernel
theorem dX11_free_45 : decode cX11_free 45 = .ok (.aload_n 0, 1) := by decide +kernel
theorem dX11_free_46 : decode cX11_free 46 = .ok (.getfield 9, 3) := by decide +kernel
theorem dX11_free_49 : decode cX11_free 49 = .ok (.iload_n 1, 1) := by decide +kernel
theorem dX11_free_50 : decode cX11_free 50 = .ok (.invokestatic 86, 3) := by decide +kernel
theorem dX11_free_53 : decode cX11_free 53 = .ok (.iaload, 1) := by decide +kernel
theorem dX11_free_54 : decode cX11_free 54 = .ok (.idiv, 1) := by decide +kernel
theorem dX11_free_55 : decode cX11_free 55 = .ok (.ireturn, 1) := by decide +kernel
def X11_free_B33 (σ : Mem) (l1 : Int) (k0 : Int) (k2 : Int) (k3 : Int) (k4 : Int) (k5 : Int) : Option (Int) :=
  bd (X11_beatsFree σ k2 k3 k4 k5) fun r1 =>
  lt (k0 + r1) fun l4_2 =>
  bd (X11_part σ l1) fun r3 =>
  ag 766 r3 fun j4 =>
  dg (σ 112 j4) <|
  some (idv (l4_2 * 6000) (σ 112 j4))
def S_X11_free_33 (fn : Int → Int → Int → Int → Int → Int → Option (Int)) (p : Program) (l : Launch) (e : Env) (R : Room) (s : State) (m : MethodId) (args : Array Value) (below : List Frame) (meth : Method) (c : Code) (G : GT) (σ : Mem) (res : Int) : Prop := ∀ (H : Heap) (locs : List Loc) (ls : Array Slot) (l1 : Int) (k0 : Int) (k2 : Int) (k3 : Int) (k4 : Int) (k5 : Int), PW G σ H → va_S (AA G) s.heap H locs → fn l1 k0 k2 k3 k4 k5 = some res → lv_has ls 5 [(0, .ref (gh G + 111)), (1, .int (i32 l1))] → W p l e R s m args below meth c H locs 0 0 (MQ below (QM G (some (.int (i32 res))) σ) args s 0 0 (AA G)) (F0 m 33 ls [.int (i32 k5), .int (i32 k4), .int (i32 k3), .int (i32 k2), .ref (gh G + 111), .int (i32 k0)])
def X11_free (σ : Mem) (l1 : Int) (l2 : Int) (l3 : Int) : Option (Int) :=
  bd (X11_beatsFree σ l1 l2 (-1) 0) fun r1 =>
  if w32 l3 = 0 then
    X11_free_B33 σ l1 r1 l1 (l2 + 1) 1 0
  else
  bd (X11_part σ l1) fun r2 =>
  ag 766 (r2 + 1) fun j3 =>
  X11_free_B33 σ l1 r1 l1 (l2 + 1) 1 (σ 112 j3)
def S_X11_free_0 (fn : Int → Int → Int → Option (Int)) (p : Program) (l : Launch) (e : Env) (R : Room) (s : State) (m : MethodId) (args : Array Value) (below : List Frame) (meth : Method) (c : Code) (G : GT) (σ : Mem) (res : Int) : Prop := ∀ (H : Heap) (locs : List Loc) (ls : Array Slot) (l1 : Int) (l2 : Int) (l3 : Int), PW G σ H → va_S (AA G) s.heap H locs → fn l1 l2 l3 = some res → lv_has ls 5 [(0, .ref (gh G + 111)), (1, .int (i32 l1)), (2, .int (i32 l2)), (3, .int (i32 l3))] → W p l e R s m args below meth c H locs 0 0 (MQ below (QM G (some (.int (i32 res))) σ) args s 0 0 (AA G)) (F0 m 0 ls [])
set_option maxHeartbeats 4000000 in
theorem a_X11_free_33 {p : Program} {l : Launch} {e : Env} {R : Room} {s : State} {m : MethodId} {args : Array Value} {below : List Frame} {meth : Method} {c : Code} {G : GT} {σ : Mem} {res : Int} (X : CX p R s m args meth c cX11_free 5 RX11 (some FieldType.int) 5 152 G) : S_X11_free_33 (X11_free_B33 σ) p l e R s m args below meth c G σ res := by
  intro H locs ls l1 k0 k2 k3 k4 k5 hP hS hf hl
  unfold X11_free_B33 at hf
  obtain ⟨r1, hr1, hf⟩ := bd_inv hf
  refine k_X11_beatsFree X hP hS hl.1  hr1 (tb t_1329 rfl) (by decide) (Nat.le_of_ble_eq_true rfl) dX11_free_33 (fun H locs hP hS => ?_)
  refine r_iadd X dX11_free_36 ?_
  obtain ⟨l4_2, el4_2, hf⟩ := lt_inv hf
  refine r_eqi el4_2 ?_
  refine lv_istore (lv' := [(4, .int (i32 l4_2)), (0, .ref (gh G + 111)), (1, .int (i32 l1))]) X.1 X.2.1 dX11_free_37 hl (by decide) rfl (fun ls hl => ?_)
  refine lv_iload X.1 X.2.1 dX11_free_39 (lv_at hl 0 rfl) ?_
  refine r_sipush X 6000 (by decide) dX11_free_41 ?_
  refine r_imul X dX11_free_44 ?_
  refine lv_aload_n X.1 X.2.1 dX11_free_45 rfl (lv_at hl 1 rfl) ?_
  refine g_11_0 (r := 112) X hP ks_11 rfl (tb t_1087 rfl) dX11_free_46 ?_
  refine lv_iload_n X.1 X.2.1 dX11_free_49 rfl (lv_at hl 2 rfl) ?_
  obtain ⟨r3, hr3, hf⟩ := bd_inv hf
  refine k_X11_part X hP hS hl.1  hr3 (tb t_1084 rfl) (by decide) (Nat.le_of_ble_eq_true rfl) dX11_free_50 (fun H locs hP hS => ?_)
  obtain ⟨j4, hij4, hjj4, hlj4, hf⟩ := ag_inv hf
  refine r_iald X hP (ch_11_0 ks_11).1 (ch_11_0 ks_11).2 hij4 hjj4 dX11_free_53 ?_
  obtain ⟨hz5, hf⟩ := dg_inv hf
  refine r_idiv X hz5 dX11_free_54 ?_
  cases so_inv hf
  exact r_iret X hP hS dX11_free_55
set_option maxHeartbeats 4000000 in
theorem a_X11_free_0 {p : Program} {l : Launch} {e : Env} {R : Room} {s : State} {m : MethodId} {args : Array Value} {below : List Frame} {meth : Method} {c : Code} {G : GT} {σ : Mem} {res : Int} (X : CX p R s m args meth c cX11_free 5 RX11 (some FieldType.int) 5 152 G) : S_X11_free_0 (X11_free σ) p l e R s m args below meth c G σ res := by
  intro H locs ls l1 l2 l3 hP hS hf hl
  unfold X11_free at hf
  refine lv_aload_n X.1 X.2.1 dX11_free_0 rfl (lv_at hl 0 rfl) ?_
  refine lv_iload_n X.1 X.2.1 dX11_free_1 rfl (lv_at hl 1 rfl) ?_
  refine lv_iload_n X.1 X.2.1 dX11_free_2 rfl (lv_at hl 2 rfl) ?_
  refine r_iconst X (-1) dX11_free_3 ?_
  refine r_iconst X 0 dX11_free_4 ?_
  obtain ⟨r1, hr1, hf⟩ := bd_inv hf
  refine k_X11_beatsFree X hP hS hl.1  hr1 (tb t_1329 rfl) (by decide) (Nat.le_of_ble_eq_true rfl) dX11_free_5 (fun H locs hP hS => ?_)
  refine lv_aload_n X.1 X.2.1 dX11_free_8 rfl (lv_at hl 0 rfl) ?_
  refine lv_iload_n X.1 X.2.1 dX11_free_9 rfl (lv_at hl 1 rfl) ?_
  refine lv_iload_n X.1 X.2.1 dX11_free_10 rfl (lv_at hl 2 rfl) ?_
  refine r_iconst X 1 dX11_free_11 ?_
  refine r_iadd X dX11_free_12 ?_
  refine r_iconst X 1 dX11_free_13 ?_
  refine lv_iload_n X.1 X.2.1 dX11_free_14 rfl (lv_at hl 3 rfl) ?_
  refine r_if_eq (tgt := 32) X dX11_free_15 (by decide) (fun q => ?_) (fun q => ?_)
  · replace hf := it_inv q hf
    refine r_iconst X 0 dX11_free_32 ?_
    exact a_X11_free_33 X  H locs ls l1 r1 l1 (l2 + 1) 1 0 hP hS hf (lv_sub hl [0, 1] rfl)
  · replace hf := ie_inv q hf
    refine lv_aload_n X.1 X.2.1 dX11_free_18 rfl (lv_at hl 0 rfl) ?_
    refine g_11_0 (r := 112) X hP ks_11 rfl (tb t_1087 rfl) dX11_free_19 ?_
    refine lv_iload_n X.1 X.2.1 dX11_free_22 rfl (lv_at hl 1 rfl) ?_
    obtain ⟨r2, hr2, hf⟩ := bd_inv hf
    refine k_X11_part X hP hS hl.1  hr2 (tb t_1084 rfl) (by decide) (Nat.le_of_ble_eq_true rfl) dX11_free_23 (fun H locs hP hS => ?_)
    refine r_iconst X 1 dX11_free_26 ?_
    refine r_iadd X dX11_free_27 ?_
    obtain ⟨j3, hij3, hjj3, hlj3, hf⟩ := ag_inv hf
    refine r_iald X hP (ch_11_0 ks_11).1 (ch_11_0 ks_11).2 hij3 hjj3 dX11_free_28 ?_
    refine lv_goto (tgt := 33) X.1 X.2.1 dX11_free_29 (by decide) ?_
    exact a_X11_free_33 X  H locs ls l1 r1 l1 (l2 + 1) 1 (σ 112 j3) hP hS hf (lv_sub hl [0, 1] rfl)
set_option maxHeartbeats 4000000 in
theorem c_X11_free {l : Launch} {G : GT} {σ : Mem} {res : Int} {l1 : Int} {l2 : Int} {l3 : Int} (hf : X11_free σ l1 l2 l3 = some res) : CT l yX11_free cX11_free 5 (some FieldType.int) 5 152 G [.ref (gh G + 111), .int (i32 l1), .int (i32 l2), .int (i32 l3)] σ σ (some (.int (i32 res))) := by
  refine CT.mk (own := RX11) (by decide) rfl (Nat.le_of_ble_eq_true rfl) ?_
  intro p e s m below meth c ls X hP hS hl
  have hl : lv_has ls 5 [(0, .ref (gh G + 111)), (1, .int (i32 l1)), (2, .int (i32 l2)), (3, .int (i32 l3))] := hl
  exact a_X11_free_0 X  s.heap [] ls l1 l2 l3 hP hS hf hl
theorem k_X11_free {p : Program} {l : Launch} {e : Env} {R : Room} {s : State} {m : MethodId} {args : Array Value} {below : List Frame} {meth : Method} {c : Code} {H : Heap} {locs : List Loc} {Q : State → Prop} {cc : ByteArray} {nL : Nat} {own : String} {ret : Option FieldType} {fF fL : Nat} {G : GT} {pc idx : Nat} {ls : Array Slot} {rest : List Value} {σ : Mem} {res : Int} {l1 : Int} {l2 : Int} {l3 : Int} (X : CX p R s m args meth c cc nL own ret fF fL G) (hP : PW G σ H) (hS : va_S (AA G) s.heap H locs) (hls : ls.size = nL) (hf : X11_free σ l1 l2 l3 = some res) (h1 : Cond.methodLink own idx yX11_free ∈ TB) (hR : 5 + 1 ≤ fF ∧ 8 + (5 + 11) + 152 ≤ fL) (hW : (rest.map fun v => v.category).sum ≤ 8) (hd : decode cc pc = .ok (.invokevirtual idx, 3)) (kk : ∀ (H1 : Heap) (locs1 : List Loc), PW G σ H1 → va_S (AA G) s.heap H1 locs1 → W p l e R s m args below meth c H1 locs1 0 0 Q (F0 m (pc + 3) ls (.int (i32 res) :: rest))) : W p l e R s m args below meth c H locs 0 0 Q (F0 m pc ls (.int (i32 l3) :: .int (i32 l2) :: .int (i32 l1) :: .ref (gh G + 111) :: rest)) := r_callV (n := 3) X hP hS hls (c_X11_free hf) h1 (tb t_1327 rfl) (tb t_45 rfl) (tb t_87 rfl) (tb t_1328 rfl) (by decide +kernel) hR (r_recv X hP (kd_lt ks_11 (by decide)) (cE_11 ks_11) rfl) rfl rfl hW hd kk
/-! X11_hasHelp -/
theorem dX11_hasHelp_0 : decode cX11_hasHelp 0 = .ok (.aload_n 0, 1) := by decide +kernel
theorem dX11_hasHelp_1 : decode cX11_hasHelp 1 = .ok (.getfield 9, 3) := by decide +kernel
theorem dX11_hasHelp_4 : decode cX11_hasHelp 4 = .ok (.iload_n 1, 1) := by decide +kernel
theorem dX11_hasHelp_5 : decode cX11_hasHelp 5 = .ok (.invokestatic 86, 3) := by decide +kernel
theorem dX11_hasHelp_8 : decode cX11_hasHelp 8 = .ok (.iconst 2, 1) := by decide +kernel
theorem dX11_hasHelp_9 : decode cX11_hasHelp 9 = .ok (.iadd, 1) := by decide +kernel
theorem dX11_hasHelp_10 : decode cX11_hasHelp 10 = .ok (.iaload, 1) := by decide +kernel
theorem dX11_hasHelp_11 : decode cX11_hasHelp 11 = .ok (.istore_n 3, 1) := by decide +kernel
theorem dX11_hasHelp_12 : decode cX11_hasHelp 12 = .ok (.iload_n 3, 1) := by decide +kernel
theorem dX11_hasHelp_13 : decode cX11_hasHelp 13 = .ok (.ifCond .lt 32, 3) := by decide +kernel
theorem dX11_hasHelp_16 : decode cX11_hasHelp 16 = .ok (.iload_n 2, 1) := by decide +kernel
theorem dX11_hasHelp_17 : decode cX11_hasHelp 17 = .ok (.aload_n 0, 1) := by decide +kernel
theorem dX11_hasHelp_18 : decode cX11_hasHelp 18 = .ok (.iload_n 3, 1) := by decide +kernel
theorem dX11_hasHelp_19 : decode cX11_hasHelp 19 = .ok (.invokevirtual 101, 3) := by decide +kernel
theorem dX11_hasHelp_22 : decode cX11_hasHelp 22 = .ok (.if_icmp .ge 23, 3) := by decide +kernel
theorem dX11_hasHelp_25 : decode cX11_hasHelp 25 = .ok (.aload_n 0, 1) := by decide +kernel
theorem dX11_hasHelp_26 : decode cX11_hasHelp 26 = .ok (.iload_n 3, 1) := by decide +kernel
theorem dX11_hasHelp_27 : decode cX11_hasHelp 27 = .ok (.iload_n 2, 1) := by decide +kernel
theorem dX11_hasHelp_28 : decode cX11_hasHelp 28 = .ok (.iconst 0, 1) := by decide +kernel
theorem dX11_hasHelp_29 : decode cX11_hasHelp 29 = .ok (.invokevirtual 229, 3) := by decide +kernel
theorem dX11_hasHelp_32 : decode cX11_hasHelp 32 = .ok (.aload_n 0, 1) := by decide +kernel
theorem dX11_hasHelp_33 : decode cX11_hasHelp 33 = .ok (.getfield 9, 3) := by decide +kernel
theorem dX11_hasHelp_36 : decode cX11_hasHelp 36 = .ok (.iconst 2, 1) := by decide +kernel
theorem dX11_hasHelp_37 : decode cX11_hasHelp 37 = .ok (.iaload, 1) := by decide +kernel
theorem dX11_hasHelp_38 : decode cX11_hasHelp 38 = .ok (.if_icmp .lt 7, 3) := by decide +kernel
theorem dX11_hasHelp_41 : decode cX11_hasHelp 41 = .ok (.iconst 1, 1) := by decide +kernel
theorem dX11_hasHelp_42 : decode cX11_hasHelp 42 = .ok (.goto 4, 3) := by decide +kernel
theorem dX11_hasHelp_45 : decode cX11_hasHelp 45 = .ok (.iconst 0, 1) := by decide +kernel
theorem dX11_hasHelp_46 : decode cX11_hasHelp 46 = .ok (.ireturn, 1) := by decide +kernel
def X11_hasHelp (σ : Mem) (l1 : Int) (l2 : Int) : Option (Int) :=
  bd (X11_part σ l1) fun r1 =>
  ag 766 (r1 + 2) fun j2 =>
  lt (σ 112 j2) fun l3_3 =>
  if w32 l3_3 < 0 then
    some 0
  else
  bd (X11_bars σ l3_3) fun r4 =>
  if w32 r4 ≤ w32 l2 then
    some 0
  else
  bd (X11_free σ l3_3 l2 0) fun r5 =>
  ag 766 2 fun j6 =>
  if w32 r5 < w32 (σ 112 j6) then
    some 0
  else
  some 1
def S_X11_hasHelp_0 (fn : Int → Int → Option (Int)) (p : Program) (l : Launch) (e : Env) (R : Room) (s : State) (m : MethodId) (args : Array Value) (below : List Frame) (meth : Method) (c : Code) (G : GT) (σ : Mem) (res : Int) : Prop := ∀ (H : Heap) (locs : List Loc) (ls : Array Slot) (l1 : Int) (l2 : Int), PW G σ H → va_S (AA G) s.heap H locs → fn l1 l2 = some res → lv_has ls 4 [(0, .ref (gh G + 111)), (1, .int (i32 l1)), (2, .int (i32 l2))] → W p l e R s m args below meth c H locs 0 0 (MQ below (QM G (some (.int (i32 res))) σ) args s 0 0 (AA G)) (F0 m 0 ls [])
set_option maxHeartbeats 4000000 in
theorem a_X11_hasHelp_0 {p : Program} {l : Launch} {e : Env} {R : Room} {s : State} {m : MethodId} {args : Array Value} {below : List Frame} {meth : Method} {c : Code} {G : GT} {σ : Mem} {res : Int} (X : CX p R s m args meth c cX11_hasHelp 4 RX11 (some FieldType.boolean) 6 176 G) : S_X11_hasHelp_0 (X11_hasHelp σ) p l e R s m args below meth c G σ res := by
  intro H locs ls l1 l2 hP hS hf hl
  unfold X11_hasHelp at hf
  refine lv_aload_n X.1 X.2.1 dX11_hasHelp_0 rfl (lv_at hl 0 rfl) ?_
  refine g_11_0 (r := 112) X hP ks_11 rfl (tb t_1087 rfl) dX11_hasHelp_1 ?_
  refine lv_iload_n X.1 X.2.1 dX11_hasHelp_4 rfl (lv_at hl 1 rfl) ?_
  obtain ⟨r1, hr1, hf⟩ := bd_inv hf
  refine k_X11_part X hP hS hl.1  hr1 (tb t_1084 rfl) (by decide) (Nat.le_of_ble_eq_true rfl) dX11_hasHelp_5 (fun H locs hP hS => ?_)
  refine r_iconst X 2 dX11_hasHelp_8 ?_
  refine r_iadd X dX11_hasHelp_9 ?_
  obtain ⟨j2, hij2, hjj2, hlj2, hf⟩ := ag_inv hf
  refine r_iald X hP (ch_11_0 ks_11).1 (ch_11_0 ks_11).2 hij2 hjj2 dX11_hasHelp_10 ?_
  obtain ⟨l3_3, el3_3, hf⟩ := lt_inv hf
  refine r_eqi el3_3 ?_
  refine lv_istore_n (lv' := [(3, .int (i32 l3_3)), (0, .ref (gh G + 111)), (1, .int (i32 l1)), (2, .int (i32 l2))]) X.1 X.2.1 dX11_hasHelp_11 rfl hl (by decide) rfl (fun ls hl => ?_)
  refine lv_iload_n X.1 X.2.1 dX11_hasHelp_12 rfl (lv_at hl 0 rfl) ?_
  refine r_if_lt (tgt := 45) X dX11_hasHelp_13 (by decide) (fun q => ?_) (fun q => ?_)
  · replace hf := it_inv q hf
    refine r_iconst X 0 dX11_hasHelp_45 ?_
    cases so_inv hf
    exact r_zret X hP hS (Or.inl rfl) dX11_hasHelp_46
  · replace hf := ie_inv q hf
    refine lv_iload_n X.1 X.2.1 dX11_hasHelp_16 rfl (lv_at hl 3 rfl) ?_
    refine lv_aload_n X.1 X.2.1 dX11_hasHelp_17 rfl (lv_at hl 1 rfl) ?_
    refine lv_iload_n X.1 X.2.1 dX11_hasHelp_18 rfl (lv_at hl 0 rfl) ?_
    obtain ⟨r4, hr4, hf⟩ := bd_inv hf
    refine k_X11_bars X hP hS hl.1  hr4 (tb t_1296 rfl) (by decide) (Nat.le_of_ble_eq_true rfl) dX11_hasHelp_19 (fun H locs hP hS => ?_)
    refine r_icmp_ge (tgt := 45) X dX11_hasHelp_22 (by decide) (fun q => ?_) (fun q => ?_)
    · replace hf := it_inv q hf
      refine r_iconst X 0 dX11_hasHelp_45 ?_
      cases so_inv hf
      exact r_zret X hP hS (Or.inl rfl) dX11_hasHelp_46
    · replace hf := ie_inv q hf
      refine lv_aload_n X.1 X.2.1 dX11_hasHelp_25 rfl (lv_at hl 1 rfl) ?_
      refine lv_iload_n X.1 X.2.1 dX11_hasHelp_26 rfl (lv_at hl 0 rfl) ?_
      refine lv_iload_n X.1 X.2.1 dX11_hasHelp_27 rfl (lv_at hl 3 rfl) ?_
      refine r_iconst X 0 dX11_hasHelp_28 ?_
      obtain ⟨r5, hr5, hf⟩ := bd_inv hf
      refine k_X11_free X hP hS hl.1  hr5 (tb t_1325 rfl) (by decide) (Nat.le_of_ble_eq_true rfl) dX11_hasHelp_29 (fun H locs hP hS => ?_)
      refine lv_aload_n X.1 X.2.1 dX11_hasHelp_32 rfl (lv_at hl 1 rfl) ?_
      refine g_11_0 (r := 112) X hP ks_11 rfl (tb t_1087 rfl) dX11_hasHelp_33 ?_
      refine r_iconst X 2 dX11_hasHelp_36 ?_
      obtain ⟨j6, hij6, hjj6, hlj6, hf⟩ := ag_inv hf
      refine r_iald X hP (ch_11_0 ks_11).1 (ch_11_0 ks_11).2 hij6 hjj6 dX11_hasHelp_37 ?_
      refine r_icmp_lt (tgt := 45) X dX11_hasHelp_38 (by decide) (fun q => ?_) (fun q => ?_)
      · replace hf := it_inv q hf
        refine r_iconst X 0 dX11_hasHelp_45 ?_
        cases so_inv hf
        exact r_zret X hP hS (Or.inl rfl) dX11_hasHelp_46
      · replace hf := ie_inv q hf
        refine r_iconst X 1 dX11_hasHelp_41 ?_
        refine lv_goto (tgt := 46) X.1 X.2.1 dX11_hasHelp_42 (by decide) ?_
        cases so_inv hf
        exact r_zret X hP hS (Or.inr rfl) dX11_hasHelp_46
set_option maxHeartbeats 4000000 in
theorem c_X11_hasHelp {l : Launch} {G : GT} {σ : Mem} {res : Int} {l1 : Int} {l2 : Int} (hf : X11_hasHelp σ l1 l2 = some res) : CT l yX11_hasHelp cX11_hasHelp 4 (some FieldType.boolean) 6 176 G [.ref (gh G + 111), .int (i32 l1), .int (i32 l2)] σ σ (some (.int (i32 res))) := by
  refine CT.mk (own := RX11) (by decide) rfl (Nat.le_of_ble_eq_true rfl) ?_
  intro p e s m below meth c ls X hP hS hl
  have hl : lv_has ls 4 [(0, .ref (gh G + 111)), (1, .int (i32 l1)), (2, .int (i32 l2))] := hl
  exact a_X11_hasHelp_0 X  s.heap [] ls l1 l2 hP hS hf hl
theorem k_X11_hasHelp {p : Program} {l : Launch} {e : Env} {R : Room} {s : State} {m : MethodId} {args : Array Value} {below : List Frame} {meth : Method} {c : Code} {H : Heap} {locs : List Loc} {Q : State → Prop} {cc : ByteArray} {nL : Nat} {own : String} {ret : Option FieldType} {fF fL : Nat} {G : GT} {pc idx : Nat} {ls : Array Slot} {rest : List Value} {σ : Mem} {res : Int} {l1 : Int} {l2 : Int} (X : CX p R s m args meth c cc nL own ret fF fL G) (hP : PW G σ H) (hS : va_S (AA G) s.heap H locs) (hls : ls.size = nL) (hf : X11_hasHelp σ l1 l2 = some res) (h1 : Cond.methodLink own idx yX11_hasHelp ∈ TB) (hR : 6 + 1 ≤ fF ∧ 8 + (4 + 11) + 176 ≤ fL) (hW : (rest.map fun v => v.category).sum ≤ 8) (hd : decode cc pc = .ok (.invokevirtual idx, 3)) (kk : ∀ (H1 : Heap) (locs1 : List Loc), PW G σ H1 → va_S (AA G) s.heap H1 locs1 → W p l e R s m args below meth c H1 locs1 0 0 Q (F0 m (pc + 3) ls (.int (i32 res) :: rest))) : W p l e R s m args below meth c H locs 0 0 Q (F0 m pc ls (.int (i32 l2) :: .int (i32 l1) :: .ref (gh G + 111) :: rest)) := r_callV (n := 2) X hP hS hls (c_X11_hasHelp hf) h1 (tb t_1411 rfl) (tb t_61 rfl) (tb t_87 rfl) (tb t_1412 rfl) (by decide +kernel) hR (r_recv X hP (kd_lt ks_11 (by decide)) (cE_11 ks_11) rfl) rfl rfl hW hd kk
/-! X11_findStops -/
theorem dX11_findStops_0 : decode cX11_findStops 0 = .ok (.iconst 0, 1) := by decide +kernel
theorem dX11_findStops_1 : decode cX11_findStops 1 = .ok (.istore_n 2, 1) := by decide +kernel
theorem dX11_findStops_2 : decode cX11_findStops 2 = .ok (.iload_n 2, 1) := by decide +kernel
theorem dX11_findStops_3 : decode cX11_findStops 3 = .ok (.aload_n 0, 1) := by decide +kernel
theorem dX11_findStops_4 : decode cX11_findStops 4 = .ok (.iload_n 1, 1) := by decide +kernel
theorem dX11_findStops_5 : decode cX11_findStops 5 = .ok (.invokevirtual 101, 3) := by decide +kernel
theorem dX11_findStops_8 : decode cX11_findStops 8 = .ok (.if_icmp .ge 45, 3) := by decide +kernel
theorem dX11_findStops_11 : decode cX11_findStops 11 = .ok (.aload_n 0, 1) := by decide +kernel
theorem dX11_findStops_12 : decode cX11_findStops 12 = .ok (.getfield 34, 3) := by decide +kernel
theorem dX11_findStops_15 : decode cX11_findStops 15 = .ok (.iload_n 2, 1) := by decide +kernel
theorem dX11_findStops_16 : decode cX11_findStops 16 = .ok (.aload_n 0, 1) := by decide +kernel
theorem dX11_findStops_17 : decode cX11_findStops 17 = .ok (.iload_n 1, 1) := by decide +kernel
theorem dX11_findStops_18 : decode cX11_findStops 18 = .ok (.iload_n 2, 1) := by decide +kernel
theorem dX11_findStops_19 : decode cX11_findStops 19 = .ok (.iconst 1, 1) := by decide +kernel
theorem dX11_findStops_20 : decode cX11_findStops 20 = .ok (.invokevirtual 229, 3) := by decide +kernel
theorem dX11_findStops_23 : decode cX11_findStops 23 = .ok (.aload_n 0, 1) := by decide +kernel
theorem dX11_findStops_24 : decode cX11_findStops 24 = .ok (.getfield 9, 3) := by decide +kernel
theorem dX11_findStops_27 : decode cX11_findStops 27 = .ok (.iconst 2, 1) := by decide +kernel
theorem dX11_findStops_28 : decode cX11_findStops 28 = .ok (.iaload, 1) := by decide +kernel
theorem dX11_findStops_29 : decode cX11_findStops 29 = .ok (.if_icmp .ge 16, 3) := by decide +kernel
theorem dX11_findStops_32 : decode cX11_findStops 32 = .ok (.aload_n 0, 1) := by decide +kernel
theorem dX11_findStops_33 : decode cX11_findStops 33 = .ok (.iload_n 1, 1) := by decide +kernel
theorem dX11_findStops_34 : decode cX11_findStops 34 = .ok (.iload_n 2, 1) := by decide +kernel
theorem dX11_findStops_35 : decode cX11_findStops 35 = .ok (.invokevirtual 266, 3) := by decide +kernel
theorem dX11_findStops_38 : decode cX11_findStops 38 = .ok (.ifCond .ne 7, 3) := by decide +kernel
theorem dX11_findStops_41 : decode cX11_findStops 41 = .ok (.iconst 1, 1) := by decide +kernel
theorem dX11_findStops_42 : decode cX11_findStops 42 = .ok (.goto 4, 3) := by decide +kernel
theorem dX11_findStops_45 : decode cX11_findStops 45 = .ok (.iconst 0, 1) := by decide +kernel
theorem dX11_findStops_46 : decode cX11_findStops 46 = .ok (.bastore, 1) := by decide +kernel
theorem dX11_findStops_47 : decode cX11_findStops 47 = .ok (.iinc 2 1, 3) := by decide +kernel
theorem dX11_findStops_50 : decode cX11_findStops 50 = .ok (.goto (-48), 3) := by decide +kernel
theorem dX11_findStops_53 : decode cX11_findStops 53 = .ok (.return_, 1) := by decide +kernel
def S_X11_findStops_2 (fn : Mem → Int → Int → Option (Mem)) (p : Program) (l : Launch) (e : Env) (R : Room) (s : State) (m : MethodId) (args : Array Value) (below : List Frame) (meth : Method) (c : Code) (G : GT) (τ : Mem) : Prop := ∀ (σ : Mem) (H : Heap) (locs : List Loc) (ls : Array Slot) (l1 : Int) (l2 : Int), PW G σ H → va_S (AA G) s.heap H locs → fn σ l1 l2 = some τ → lv_has ls 3 [(0, .ref (gh G + 111)), (1, .int (i32 l1)), (2, .int (i32 l2))] → W p l e R s m args below meth c H locs 0 0 (MQ below (QM G none τ) args s 0 0 (AA G)) (F0 m 2 ls [])
def X11_findStops_B46 (rec2 : Mem → Int → Int → Option (Mem)) (σ : Mem) (l1 : Int) (l2 : Int) (k0 : Nat) (k1 : Int) (k2 : Int) : Option (Mem) :=
  ag 40 k1 fun j1 =>
  bg k2 <|
  lt (st σ k0 j1 k2) fun s3 =>
  lt (l2 + 1) fun l2_4 =>
  rec2 s3 l1 l2_4
def S_X11_findStops_46 (fn : Mem → Int → Int → Nat → Int → Int → Option (Mem)) (p : Program) (l : Launch) (e : Env) (R : Room) (s : State) (m : MethodId) (args : Array Value) (below : List Frame) (meth : Method) (c : Code) (G : GT) (τ : Mem) : Prop := ∀ (σ : Mem) (H : Heap) (locs : List Loc) (ls : Array Slot) (l1 : Int) (l2 : Int) (k0 : Nat) (k1 : Int) (k2 : Int), kd k0 = 15 → ln k0 = 40 → PW G σ H → va_S (AA G) s.heap H locs → fn σ l1 l2 k0 k1 k2 = some τ → lv_has ls 3 [(0, .ref (gh G + 111)), (1, .int (i32 l1)), (2, .int (i32 l2))] → W p l e R s m args below meth c H locs 0 0 (MQ below (QM G none τ) args s 0 0 (AA G)) (F0 m 46 ls [.int (i32 k2), .int (i32 k1), .ref (gh G + k0)])
def X11_findStops_B45 (rec2 : Mem → Int → Int → Option (Mem)) (σ : Mem) (l1 : Int) (l2 : Int) (k0 : Nat) (k1 : Int) : Option (Mem) :=
  X11_findStops_B46 rec2 σ l1 l2 k0 k1 0
def S_X11_findStops_45 (fn : Mem → Int → Int → Nat → Int → Option (Mem)) (p : Program) (l : Launch) (e : Env) (R : Room) (s : State) (m : MethodId) (args : Array Value) (below : List Frame) (meth : Method) (c : Code) (G : GT) (τ : Mem) : Prop := ∀ (σ : Mem) (H : Heap) (locs : List Loc) (ls : Array Slot) (l1 : Int) (l2 : Int) (k0 : Nat) (k1 : Int), kd k0 = 15 → ln k0 = 40 → PW G σ H → va_S (AA G) s.heap H locs → fn σ l1 l2 k0 k1 = some τ → lv_has ls 3 [(0, .ref (gh G + 111)), (1, .int (i32 l1)), (2, .int (i32 l2))] → W p l e R s m args below meth c H locs 0 0 (MQ below (QM G none τ) args s 0 0 (AA G)) (F0 m 45 ls [.int (i32 k1), .ref (gh G + k0)])
def X11_findStops_B2 (rec2 : Mem → Int → Int → Option (Mem)) (σ : Mem) (l1 : Int) (l2 : Int) : Option (Mem) :=
  bd (X11_bars σ l1) fun r1 =>
  if w32 r1 ≤ w32 l2 then
    some σ
  else
  bd (X11_free σ l1 l2 1) fun r2 =>
  ag 766 2 fun j3 =>
  if w32 (σ 112 j3) ≤ w32 r2 then
    X11_findStops_B45 rec2 σ l1 l2 120 l2
  else
  bd (X11_hasHelp σ l1 l2) fun r4 =>
  if w32 r4 ≠ 0 then
    X11_findStops_B45 rec2 σ l1 l2 120 l2
  else
  X11_findStops_B46 rec2 σ l1 l2 120 l2 1
def X11_findStops_L2 : Nat → Mem → Int → Int → Option (Mem)
  | 0 => fun _ _ _ => none
  | n + 1 => X11_findStops_B2 (X11_findStops_L2 n)
def X11_findStops (σ : Mem) (l1 : Int) : Option (Mem) :=
  X11_findStops_L2 5000 σ l1 0
def S_X11_findStops_0 (fn : Mem → Int → Option (Mem)) (p : Program) (l : Launch) (e : Env) (R : Room) (s : State) (m : MethodId) (args : Array Value) (below : List Frame) (meth : Method) (c : Code) (G : GT) (τ : Mem) : Prop := ∀ (σ : Mem) (H : Heap) (locs : List Loc) (ls : Array Slot) (l1 : Int), PW G σ H → va_S (AA G) s.heap H locs → fn σ l1 = some τ → lv_has ls 3 [(0, .ref (gh G + 111)), (1, .int (i32 l1))] → W p l e R s m args below meth c H locs 0 0 (MQ below (QM G none τ) args s 0 0 (AA G)) (F0 m 0 ls [])
set_option maxHeartbeats 4000000 in
theorem a_X11_findStops_46 {p : Program} {l : Launch} {e : Env} {R : Room} {s : State} {m : MethodId} {args : Array Value} {below : List Frame} {meth : Method} {c : Code} {G : GT} {τ : Mem} {rec2 : Mem → Int → Int → Option (Mem)} (X : CX p R s m args meth c cX11_findStops 3 RX11 none 7 199 G) (h2 : S_X11_findStops_2 rec2 p l e R s m args below meth c G τ) : S_X11_findStops_46 (X11_findStops_B46 rec2) p l e R s m args below meth c G τ := by
  intro σ H locs ls l1 l2 k0 k1 k2 hk_k0 hn_k0 hP hS hf hl
  unfold X11_findStops_B46 at hf
  obtain ⟨j1, hij1, hjj1, hlj1, hf⟩ := ag_inv hf
  obtain ⟨hb2, hf⟩ := bg_inv hf
  refine r_zast X hP hS hk_k0 hn_k0 hb2 hij1 hjj1 dX11_findStops_46 (fun H locs hP hS => ?_)
  obtain ⟨s3, es3, hf⟩ := lt_inv hf
  rw [es3] at hP
  obtain ⟨l2_4, el2_4, hf⟩ := lt_inv hf
  refine lv_iinc (v := i32 l2_4) (lv' := [(2, .int (i32 l2_4)), (0, .ref (gh G + 111)), (1, .int (i32 l1))]) X.1 X.2.1 dX11_findStops_47 hl (k := 2) rfl (by rw [← el2_4]; exact i32_add _ _) (by decide) rfl (fun ls hl => ?_)
  refine lv_goto (tgt := 2) X.1 X.2.1 dX11_findStops_50 (by decide) ?_
  exact h2 s3 H locs ls l1 l2_4 hP hS hf (lv_sub hl [1, 2, 0] rfl)
set_option maxHeartbeats 4000000 in
theorem a_X11_findStops_45 {p : Program} {l : Launch} {e : Env} {R : Room} {s : State} {m : MethodId} {args : Array Value} {below : List Frame} {meth : Method} {c : Code} {G : GT} {τ : Mem} {rec2 : Mem → Int → Int → Option (Mem)} (X : CX p R s m args meth c cX11_findStops 3 RX11 none 7 199 G) (h2 : S_X11_findStops_2 rec2 p l e R s m args below meth c G τ) : S_X11_findStops_45 (X11_findStops_B45 rec2) p l e R s m args below meth c G τ := by
  intro σ H locs ls l1 l2 k0 k1 hk_k0 hn_k0 hP hS hf hl
  unfold X11_findStops_B45 at hf
  refine r_iconst X 0 dX11_findStops_45 ?_
  exact a_X11_findStops_46 X h2 σ H locs ls l1 l2 k0 k1 0 hk_k0 hn_k0 hP hS hf hl
set_option maxHeartbeats 4000000 in
theorem a_X11_findStops_2 {p : Program} {l : Launch} {e : Env} {R : Room} {s : State} {m : MethodId} {args : Array Value} {below : List Frame} {meth : Method} {c : Code} {G : GT} {τ : Mem} {rec2 : Mem → Int → Int → Option (Mem)} (X : CX p R s m args meth c cX11_findStops 3 RX11 none 7 199 G) (h2 : S_X11_findStops_2 rec2 p l e R s m args below meth c G τ) : S_X11_findStops_2 (X11_findStops_B2 rec2) p l e R s m args below meth c G τ := by
  intro σ H locs ls l1 l2 hP hS hf hl
  unfold X11_findStops_B2 at hf
  refine lv_iload_n X.1 X.2.1 dX11_findStops_2 rfl (lv_at hl 2 rfl) ?_
  refine lv_aload_n X.1 X.2.1 dX11_findStops_3 rfl (lv_at hl 0 rfl) ?_
  refine lv_iload_n X.1 X.2.1 dX11_findStops_4 rfl (lv_at hl 1 rfl) ?_
  obtain ⟨r1, hr1, hf⟩ := bd_inv hf
  refine k_X11_bars X hP hS hl.1  hr1 (tb t_1296 rfl) (by decide) (Nat.le_of_ble_eq_true rfl) dX11_findStops_5 (fun H locs hP hS => ?_)
  refine r_icmp_ge (tgt := 53) X dX11_findStops_8 (by decide) (fun q => ?_) (fun q => ?_)
  · replace hf := it_inv q hf
    cases so_inv hf
    exact r_vret X hP hS dX11_findStops_53
  · replace hf := ie_inv q hf
    refine lv_aload_n X.1 X.2.1 dX11_findStops_11 rfl (lv_at hl 0 rfl) ?_
    refine g_11_17 (r := 120) X hP ks_11 rfl (tb t_1104 rfl) dX11_findStops_12 ?_
    refine lv_iload_n X.1 X.2.1 dX11_findStops_15 rfl (lv_at hl 2 rfl) ?_
    refine lv_aload_n X.1 X.2.1 dX11_findStops_16 rfl (lv_at hl 0 rfl) ?_
    refine lv_iload_n X.1 X.2.1 dX11_findStops_17 rfl (lv_at hl 1 rfl) ?_
    refine lv_iload_n X.1 X.2.1 dX11_findStops_18 rfl (lv_at hl 2 rfl) ?_
    refine r_iconst X 1 dX11_findStops_19 ?_
    obtain ⟨r2, hr2, hf⟩ := bd_inv hf
    refine k_X11_free X hP hS hl.1  hr2 (tb t_1325 rfl) (by decide) (Nat.le_of_ble_eq_true rfl) dX11_findStops_20 (fun H locs hP hS => ?_)
    refine lv_aload_n X.1 X.2.1 dX11_findStops_23 rfl (lv_at hl 0 rfl) ?_
    refine g_11_0 (r := 112) X hP ks_11 rfl (tb t_1087 rfl) dX11_findStops_24 ?_
    refine r_iconst X 2 dX11_findStops_27 ?_
    obtain ⟨j3, hij3, hjj3, hlj3, hf⟩ := ag_inv hf
    refine r_iald X hP (ch_11_0 ks_11).1 (ch_11_0 ks_11).2 hij3 hjj3 dX11_findStops_28 ?_
    refine r_icmp_ge (tgt := 45) X dX11_findStops_29 (by decide) (fun q => ?_) (fun q => ?_)
    · replace hf := it_inv q hf
      exact a_X11_findStops_45 X h2 σ H locs ls l1 l2 120 l2 (ch_11_17 ks_11).1 (ch_11_17 ks_11).2 hP hS hf hl
    · replace hf := ie_inv q hf
      refine lv_aload_n X.1 X.2.1 dX11_findStops_32 rfl (lv_at hl 0 rfl) ?_
      refine lv_iload_n X.1 X.2.1 dX11_findStops_33 rfl (lv_at hl 1 rfl) ?_
      refine lv_iload_n X.1 X.2.1 dX11_findStops_34 rfl (lv_at hl 2 rfl) ?_
      obtain ⟨r4, hr4, hf⟩ := bd_inv hf
      refine k_X11_hasHelp X hP hS hl.1  hr4 (tb t_1409 rfl) (by decide) (Nat.le_of_ble_eq_true rfl) dX11_findStops_35 (fun H locs hP hS => ?_)
      refine r_if_ne (tgt := 45) X dX11_findStops_38 (by decide) (fun q => ?_) (fun q => ?_)
      · replace hf := it_inv q hf
        exact a_X11_findStops_45 X h2 σ H locs ls l1 l2 120 l2 (ch_11_17 ks_11).1 (ch_11_17 ks_11).2 hP hS hf hl
      · replace hf := ie_inv q hf
        refine r_iconst X 1 dX11_findStops_41 ?_
        refine lv_goto (tgt := 46) X.1 X.2.1 dX11_findStops_42 (by decide) ?_
        exact a_X11_findStops_46 X h2 σ H locs ls l1 l2 120 l2 1 (ch_11_17 ks_11).1 (ch_11_17 ks_11).2 hP hS hf hl
theorem al_X11_findStops_2 {p : Program} {l : Launch} {e : Env} {R : Room} {s : State} {m : MethodId} {args : Array Value} {below : List Frame} {meth : Method} {c : Code} {G : GT} {τ : Mem} (X : CX p R s m args meth c cX11_findStops 3 RX11 none 7 199 G) : ∀ n, S_X11_findStops_2 (X11_findStops_L2 n) p l e R s m args below meth c G τ := by
  intro n
  induction n with
  | zero =>
    intro σ H locs ls l1 l2 hP hS hf hl
    cases hf
  | succ n ih => exact a_X11_findStops_2 X ih
set_option maxHeartbeats 4000000 in
theorem a_X11_findStops_0 {p : Program} {l : Launch} {e : Env} {R : Room} {s : State} {m : MethodId} {args : Array Value} {below : List Frame} {meth : Method} {c : Code} {G : GT} {τ : Mem} (X : CX p R s m args meth c cX11_findStops 3 RX11 none 7 199 G) : S_X11_findStops_0 (X11_findStops) p l e R s m args below meth c G τ := by
  intro σ H locs ls l1 hP hS hf hl
  unfold X11_findStops at hf
  refine r_iconst X 0 dX11_findStops_0 ?_
  refine lv_istore_n (lv' := [(2, .int (i32 0)), (0, .ref (gh G + 111)), (1, .int (i32 l1))]) X.1 X.2.1 dX11_findStops_1 rfl hl (by decide) rfl (fun ls hl => ?_)
  exact al_X11_findStops_2 X 5000 σ H locs ls l1 0 hP hS hf (lv_sub hl [1, 2, 0] rfl)
set_option maxHeartbeats 4000000 in
theorem c_X11_findStops {l : Launch} {G : GT} {σ τ : Mem} {l1 : Int} (hf : X11_findStops σ l1 = some τ) : CT l yX11_findStops cX11_findStops 3 none 7 199 G [.ref (gh G + 111), .int (i32 l1)] σ τ none := by
  refine CT.mk (own := RX11) (by decide) rfl (Nat.le_of_ble_eq_true rfl) ?_
  intro p e s m below meth c ls X hP hS hl
  have hl : lv_has ls 3 [(0, .ref (gh G + 111)), (1, .int (i32 l1))] := hl
  exact a_X11_findStops_0 X σ s.heap [] ls l1 hP hS hf hl
theorem k_X11_findStops {p : Program} {l : Launch} {e : Env} {R : Room} {s : State} {m : MethodId} {args : Array Value} {below : List Frame} {meth : Method} {c : Code} {H : Heap} {locs : List Loc} {Q : State → Prop} {cc : ByteArray} {nL : Nat} {own : String} {ret : Option FieldType} {fF fL : Nat} {G : GT} {pc idx : Nat} {ls : Array Slot} {rest : List Value} {σ τ : Mem} {l1 : Int} (X : CX p R s m args meth c cc nL own ret fF fL G) (hP : PW G σ H) (hS : va_S (AA G) s.heap H locs) (hls : ls.size = nL) (hf : X11_findStops σ l1 = some τ) (h1 : Cond.methodLink own idx yX11_findStops ∈ TB) (hR : 7 + 1 ≤ fF ∧ 8 + (3 + 11) + 199 ≤ fL) (hW : (rest.map fun v => v.category).sum ≤ 8) (hd : decode cc pc = .ok (.invokevirtual idx, 3)) (kk : ∀ (H1 : Heap) (locs1 : List Loc), PW G τ H1 → va_S (AA G) s.heap H1 locs1 → W p l e R s m args below meth c H1 locs1 0 0 Q (F0 m (pc + 3) ls (rest))) : W p l e R s m args below meth c H locs 0 0 Q (F0 m pc ls (.int (i32 l1) :: .ref (gh G + 111) :: rest)) := r_callV (n := 1) X hP hS hls (c_X11_findStops hf) h1 (tb t_1407 rfl) (tb t_60 rfl) (tb t_87 rfl) (tb t_1408 rfl) (by decide +kernel) hR (r_recv X hP (kd_lt ks_11 (by decide)) (cE_11 ks_11) rfl) rfl rfl hW hd kk
/-! X11_isTurn -/
theorem dX11_isTurn_0 : decode cX11_isTurn 0 = .ok (.iload_n 2, 1) := by decide +kernel
theorem dX11_isTurn_1 : decode cX11_isTurn 1 = .ok (.iconst 2, 1) := by decide +kernel
theorem dX11_isTurn_2 : decode cX11_isTurn 2 = .ok (.irem, 1) := by decide +kernel
theorem dX11_isTurn_3 : decode cX11_isTurn 3 = .ok (.ifCond .ne 31, 3) := by decide +kernel
theorem dX11_isTurn_6 : decode cX11_isTurn 6 = .ok (.iload_n 2, 1) := by decide +kernel
theorem dX11_isTurn_7 : decode cX11_isTurn 7 = .ok (.bipush 9, 2) := by decide +kernel
theorem dX11_isTurn_9 : decode cX11_isTurn 9 = .ok (.if_icmp .gt 21, 3) := by decide +kernel
theorem dX11_isTurn_12 : decode cX11_isTurn 12 = .ok (.aload_n 0, 1) := by decide +kernel
theorem dX11_isTurn_13 : decode cX11_isTurn 13 = .ok (.getfield 9, 3) := by decide +kernel
theorem dX11_isTurn_16 : decode cX11_isTurn 16 = .ok (.iload_n 1, 1) := by decide +kernel
theorem dX11_isTurn_17 : decode cX11_isTurn 17 = .ok (.invokestatic 86, 3) := by decide +kernel
theorem dX11_isTurn_20 : decode cX11_isTurn 20 = .ok (.iconst 3, 1) := by decide +kernel
theorem dX11_isTurn_21 : decode cX11_isTurn 21 = .ok (.iadd, 1) := by decide +kernel
theorem dX11_isTurn_22 : decode cX11_isTurn 22 = .ok (.iaload, 1) := by decide +kernel
theorem dX11_isTurn_23 : decode cX11_isTurn 23 = .ok (.iload_n 2, 1) := by decide +kernel
theorem dX11_isTurn_24 : decode cX11_isTurn 24 = .ok (.ishr, 1) := by decide +kernel
theorem dX11_isTurn_25 : decode cX11_isTurn 25 = .ok (.iconst 1, 1) := by decide +kernel
theorem dX11_isTurn_26 : decode cX11_isTurn 26 = .ok (.iand, 1) := by decide +kernel
theorem dX11_isTurn_27 : decode cX11_isTurn 27 = .ok (.ifCond .ne 7, 3) := by decide +kernel
theorem dX11_isTurn_30 : decode cX11_isTurn 30 = .ok (.iconst 1, 1) := by decide +kernel
theorem dX11_isTurn_31 : decode cX11_isTurn 31 = .ok (.goto 4, 3) := by decide +kernel
theorem dX11_isTurn_34 : decode cX11_isTurn 34 = .ok (.iconst 0, 1) := by decide +kernel
theorem dX11_isTurn_35 : decode cX11_isTurn 35 = .ok (.ireturn, 1) := by decide +kernel
def X11_isTurn (σ : Mem) (l1 : Int) (l2 : Int) : Option (Int) :=
  dg 2 <|
  if w32 (irm l2 2) ≠ 0 then
    some 0
  else
  if w32 9 < w32 l2 then
    some 1
  else
  bd (X11_part σ l1) fun r2 =>
  ag 766 (r2 + 3) fun j3 =>
  if w32 (ian (isr (σ 112 j3) l2) 1) ≠ 0 then
    some 0
  else
  some 1
def S_X11_isTurn_0 (fn : Int → Int → Option (Int)) (p : Program) (l : Launch) (e : Env) (R : Room) (s : State) (m : MethodId) (args : Array Value) (below : List Frame) (meth : Method) (c : Code) (G : GT) (σ : Mem) (res : Int) : Prop := ∀ (H : Heap) (locs : List Loc) (ls : Array Slot) (l1 : Int) (l2 : Int), PW G σ H → va_S (AA G) s.heap H locs → fn l1 l2 = some res → lv_has ls 3 [(0, .ref (gh G + 111)), (1, .int (i32 l1)), (2, .int (i32 l2))] → W p l e R s m args below meth c H locs 0 0 (MQ below (QM G (some (.int (i32 res))) σ) args s 0 0 (AA G)) (F0 m 0 ls [])
set_option maxHeartbeats 4000000 in
theorem a_X11_isTurn_0 {p : Program} {l : Launch} {e : Env} {R : Room} {s : State} {m : MethodId} {args : Array Value} {below : List Frame} {meth : Method} {c : Code} {G : GT} {σ : Mem} {res : Int} (X : CX p R s m args meth c cX11_isTurn 3 RX11 (some FieldType.boolean) 2 80 G) : S_X11_isTurn_0 (X11_isTurn σ) p l e R s m args below meth c G σ res := by
  intro H locs ls l1 l2 hP hS hf hl
  unfold X11_isTurn at hf
  refine lv_iload_n X.1 X.2.1 dX11_isTurn_0 rfl (lv_at hl 2 rfl) ?_
  refine r_iconst X 2 dX11_isTurn_1 ?_
  obtain ⟨hz1, hf⟩ := dg_inv hf
  refine r_irem X hz1 dX11_isTurn_2 ?_
  refine r_if_ne (tgt := 34) X dX11_isTurn_3 (by decide) (fun q => ?_) (fun q => ?_)
  · replace hf := it_inv q hf
    refine r_iconst X 0 dX11_isTurn_34 ?_
    cases so_inv hf
    exact r_zret X hP hS (Or.inl rfl) dX11_isTurn_35
  · replace hf := ie_inv q hf
    refine lv_iload_n X.1 X.2.1 dX11_isTurn_6 rfl (lv_at hl 2 rfl) ?_
    refine r_bipush X 9 (by decide) dX11_isTurn_7 ?_
    refine r_icmp_gt (tgt := 30) X dX11_isTurn_9 (by decide) (fun q => ?_) (fun q => ?_)
    · replace hf := it_inv q hf
      refine r_iconst X 1 dX11_isTurn_30 ?_
      refine lv_goto (tgt := 35) X.1 X.2.1 dX11_isTurn_31 (by decide) ?_
      cases so_inv hf
      exact r_zret X hP hS (Or.inr rfl) dX11_isTurn_35
    · replace hf := ie_inv q hf
      refine lv_aload_n X.1 X.2.1 dX11_isTurn_12 rfl (lv_at hl 0 rfl) ?_
      refine g_11_0 (r := 112) X hP ks_11 rfl (tb t_1087 rfl) dX11_isTurn_13 ?_
      refine lv_iload_n X.1 X.2.1 dX11_isTurn_16 rfl (lv_at hl 1 rfl) ?_
      obtain ⟨r2, hr2, hf⟩ := bd_inv hf
      refine k_X11_part X hP hS hl.1  hr2 (tb t_1084 rfl) (by decide) (Nat.le_of_ble_eq_true rfl) dX11_isTurn_17 (fun H locs hP hS => ?_)
      refine r_iconst X 3 dX11_isTurn_20 ?_
      refine r_iadd X dX11_isTurn_21 ?_
      obtain ⟨j3, hij3, hjj3, hlj3, hf⟩ := ag_inv hf
      refine r_iald X hP (ch_11_0 ks_11).1 (ch_11_0 ks_11).2 hij3 hjj3 dX11_isTurn_22 ?_
      refine lv_iload_n X.1 X.2.1 dX11_isTurn_23 rfl (lv_at hl 2 rfl) ?_
      refine r_ishr X dX11_isTurn_24 ?_
      refine r_iconst X 1 dX11_isTurn_25 ?_
      refine r_iand X dX11_isTurn_26 ?_
      refine r_if_ne (tgt := 34) X dX11_isTurn_27 (by decide) (fun q => ?_) (fun q => ?_)
      · replace hf := it_inv q hf
        refine r_iconst X 0 dX11_isTurn_34 ?_
        cases so_inv hf
        exact r_zret X hP hS (Or.inl rfl) dX11_isTurn_35
      · replace hf := ie_inv q hf
        refine r_iconst X 1 dX11_isTurn_30 ?_
        refine lv_goto (tgt := 35) X.1 X.2.1 dX11_isTurn_31 (by decide) ?_
        cases so_inv hf
        exact r_zret X hP hS (Or.inr rfl) dX11_isTurn_35
set_option maxHeartbeats 4000000 in
theorem c_X11_isTurn {l : Launch} {G : GT} {σ : Mem} {res : Int} {l1 : Int} {l2 : Int} (hf : X11_isTurn σ l1 l2 = some res) : CT l yX11_isTurn cX11_isTurn 3 (some FieldType.boolean) 2 80 G [.ref (gh G + 111), .int (i32 l1), .int (i32 l2)] σ σ (some (.int (i32 res))) := by
  refine CT.mk (own := RX11) (by decide) rfl (Nat.le_of_ble_eq_true rfl) ?_
  intro p e s m below meth c ls X hP hS hl
  have hl : lv_has ls 3 [(0, .ref (gh G + 111)), (1, .int (i32 l1)), (2, .int (i32 l2))] := hl
  exact a_X11_isTurn_0 X  s.heap [] ls l1 l2 hP hS hf hl
theorem k_X11_isTurn {p : Program} {l : Launch} {e : Env} {R : Room} {s : State} {m : MethodId} {args : Array Value} {below : List Frame} {meth : Method} {c : Code} {H : Heap} {locs : List Loc} {Q : State → Prop} {cc : ByteArray} {nL : Nat} {own : String} {ret : Option FieldType} {fF fL : Nat} {G : GT} {pc idx : Nat} {ls : Array Slot} {rest : List Value} {σ : Mem} {res : Int} {l1 : Int} {l2 : Int} (X : CX p R s m args meth c cc nL own ret fF fL G) (hP : PW G σ H) (hS : va_S (AA G) s.heap H locs) (hls : ls.size = nL) (hf : X11_isTurn σ l1 l2 = some res) (h1 : Cond.methodLink own idx yX11_isTurn ∈ TB) (hR : 2 + 1 ≤ fF ∧ 8 + (3 + 11) + 80 ≤ fL) (hW : (rest.map fun v => v.category).sum ≤ 8) (hd : decode cc pc = .ok (.invokevirtual idx, 3)) (kk : ∀ (H1 : Heap) (locs1 : List Loc), PW G σ H1 → va_S (AA G) s.heap H1 locs1 → W p l e R s m args below meth c H1 locs1 0 0 Q (F0 m (pc + 3) ls (.int (i32 res) :: rest))) : W p l e R s m args below meth c H locs 0 0 Q (F0 m pc ls (.int (i32 l2) :: .int (i32 l1) :: .ref (gh G + 111) :: rest)) := r_callV (n := 2) X hP hS hls (c_X11_isTurn hf) h1 (tb t_1419 rfl) (tb t_63 rfl) (tb t_87 rfl) (tb t_1420 rfl) (by decide +kernel) hR (r_recv X hP (kd_lt ks_11 (by decide)) (cE_11 ks_11) rfl) rfl rfl hW hd kk
/-! X11_findFrom -/
theorem dX11_findFrom_0 : decode cX11_findFrom 0 = .ok (.aload_n 0, 1) := by decide +kernel
theorem dX11_findFrom_1 : decode cX11_findFrom 1 = .ok (.iload_n 1, 1) := by decide +kernel
theorem dX11_findFrom_2 : decode cX11_findFrom 2 = .ok (.invokevirtual 101, 3) := by decide +kernel
theorem dX11_findFrom_5 : decode cX11_findFrom 5 = .ok (.istore 4, 2) := by decide +kernel
theorem dX11_findFrom_7 : decode cX11_findFrom 7 = .ok (.bipush 41, 2) := by decide +kernel
theorem dX11_findFrom_9 : decode cX11_findFrom 9 = .ok (.iload_n 2, 1) := by decide +kernel
theorem dX11_findFrom_10 : decode cX11_findFrom 10 = .ok (.imul, 1) := by decide +kernel
theorem dX11_findFrom_11 : decode cX11_findFrom 11 = .ok (.iload_n 3, 1) := by decide +kernel
theorem dX11_findFrom_12 : decode cX11_findFrom 12 = .ok (.iadd, 1) := by decide +kernel
theorem dX11_findFrom_13 : decode cX11_findFrom 13 = .ok (.istore 5, 2) := by decide +kernel
theorem dX11_findFrom_15 : decode cX11_findFrom 15 = .ok (.aload_n 0, 1) := by decide +kernel
theorem dX11_findFrom_16 : decode cX11_findFrom 16 = .ok (.getfield 47, 3) := by decide +kernel
theorem dX11_findFrom_19 : decode cX11_findFrom 19 = .ok (.iload 5, 2) := by decide +kernel
theorem dX11_findFrom_21 : decode cX11_findFrom 21 = .ok (.iconst (-1), 1) := by decide +kernel
theorem dX11_findFrom_22 : decode cX11_findFrom 22 = .ok (.iastore, 1) := by decide +kernel
theorem dX11_findFrom_23 : decode cX11_findFrom 23 = .ok (.iload_n 3, 1) := by decide +kernel
theorem dX11_findFrom_24 : decode cX11_findFrom 24 = .ok (.istore 6, 2) := by decide +kernel
theorem dX11_findFrom_26 : decode cX11_findFrom 26 = .ok (.iload 6, 2) := by decide +kernel
theorem dX11_findFrom_28 : decode cX11_findFrom 28 = .ok (.iload 4, 2) := by decide +kernel
theorem dX11_findFrom_30 : decode cX11_findFrom 30 = .ok (.if_icmp .ge 327, 3) := by decide +kernel
theorem dX11_findFrom_33 : decode cX11_findFrom 33 = .ok (.bipush 41, 2) := by decide +kernel
theorem dX11_findFrom_35 : decode cX11_findFrom 35 = .ok (.iload_n 2, 1) := by decide +kernel
theorem dX11_findFrom_36 : decode cX11_findFrom 36 = .ok (.iconst 1, 1) := by decide +kernel
theorem dX11_findFrom_37 : decode cX11_findFrom 37 = .ok (.iadd, 1) := by decide +kernel
theorem dX11_findFrom_38 : decode cX11_findFrom 38 = .ok (.imul, 1) := by decide +kernel
theorem dX11_findFrom_39 : decode cX11_findFrom 39 = .ok (.iload 6, 2) := by decide +kernel
theorem dX11_findFrom_41 : decode cX11_findFrom 41 = .ok (.iadd, 1) := by decide +kernel
theorem dX11_findFrom_42 : decode cX11_findFrom 42 = .ok (.iconst 1, 1) := by decide +kernel
theorem dX11_findFrom_43 : decode cX11_findFrom 43 = .ok (.iadd, 1) := by decide +kernel
theorem dX11_findFrom_44 : decode cX11_findFrom 44 = .ok (.istore 7, 2) := by decide +kernel
theorem dX11_findFrom_46 : decode cX11_findFrom 46 = .ok (.iload 6, 2) := by decide +kernel
theorem dX11_findFrom_48 : decode cX11_findFrom 48 = .ok (.iload 4, 2) := by decide +kernel
theorem dX11_findFrom_50 : decode cX11_findFrom 50 = .ok (.iconst 1, 1) := by decide +kernel
theorem dX11_findFrom_51 : decode cX11_findFrom 51 = .ok (.isub, 1) := by decide +kernel
theorem dX11_findFrom_52 : decode cX11_findFrom 52 = .ok (.if_icmp .ne 7, 3) := by decide +kernel
theorem dX11_findFrom_55 : decode cX11_findFrom 55 = .ok (.iconst 1, 1) := by decide +kernel
theorem dX11_findFrom_56 : decode cX11_findFrom 56 = .ok (.goto 4, 3) := by decide +kernel
theorem dX11_findFrom_59 : decode cX11_findFrom 59 = .ok (.iconst 0, 1) := by decide +kernel
theorem dX11_findFrom_60 : decode cX11_findFrom 60 = .ok (.istore 8, 2) := by decide +kernel
theorem dX11_findFrom_62 : decode cX11_findFrom 62 = .ok (.iload 8, 2) := by decide +kernel
theorem dX11_findFrom_64 : decode cX11_findFrom 64 = .ok (.ifCond .ne 16, 3) := by decide +kernel
theorem dX11_findFrom_67 : decode cX11_findFrom 67 = .ok (.aload_n 0, 1) := by decide +kernel
theorem dX11_findFrom_68 : decode cX11_findFrom 68 = .ok (.getfield 47, 3) := by decide +kernel
theorem dX11_findFrom_71 : decode cX11_findFrom 71 = .ok (.iload 7, 2) := by decide +kernel
theorem dX11_findFrom_73 : decode cX11_findFrom 73 = .ok (.iaload, 1) := by decide +kernel
theorem dX11_findFrom_74 : decode cX11_findFrom 74 = .ok (.ifCond .ge 6, 3) := by decide +kernel
theorem dX11_findFrom_77 : decode cX11_findFrom 77 = .ok (.goto 274, 3) := by decide +kernel
theorem dX11_findFrom_80 : decode cX11_findFrom 80 = .ok (.iload 8, 2) := by decide +kernel
theorem dX11_findFrom_82 : decode cX11_findFrom 82 = .ok (.ifCond .ne 26, 3) := by decide +kernel
theorem dX11_findFrom_85 : decode cX11_findFrom 85 = .ok (.aload_n 0, 1) := by decide +kernel
theorem dX11_findFrom_86 : decode cX11_findFrom 86 = .ok (.iload_n 1, 1) := by decide +kernel
theorem dX11_findFrom_87 : decode cX11_findFrom 87 = .ok (.iload_n 2, 1) := by decide +kernel
theorem dX11_findFrom_88 : decode cX11_findFrom 88 = .ok (.invokevirtual 269, 3) := by decide +kernel
theorem dX11_findFrom_91 : decode cX11_findFrom 91 = .ok (.ifCond .eq 17, 3) := by decide +kernel
theorem dX11_findFrom_94 : decode cX11_findFrom 94 = .ok (.aload_n 0, 1) := by decide +kernel
theorem dX11_findFrom_95 : decode cX11_findFrom 95 = .ok (.getfield 34, 3) := by decide +kernel
theorem dX11_findFrom_98 : decode cX11_findFrom 98 = .ok (.iload 6, 2) := by decide +kernel
theorem dX11_findFrom_100 : decode cX11_findFrom 100 = .ok (.baload, 1) := by decide +kernel
theorem dX11_findFrom_101 : decode cX11_findFrom 101 = .ok (.ifCond .eq 7, 3) := by decide +kernel
theorem dX11_findFrom_104 : decode cX11_findFrom 104 = .ok (.iconst 1, 1) := by decide +kernel
theorem dX11_findFrom_105 : decode cX11_findFrom 105 = .ok (.goto 4, 3) := by decide +kernel
theorem dX11_findFrom_108 : decode cX11_findFrom 108 = .ok (.iconst 0, 1) := by decide +kernel
theorem dX11_findFrom_109 : decode cX11_findFrom 109 = .ok (.istore 9, 2) := by decide +kernel
theorem dX11_findFrom_111 : decode cX11_findFrom 111 = .ok (.iload 8, 2) := by decide +kernel
theorem dX11_findFrom_113 : decode cX11_findFrom 113 = .ok (.ifCond .eq 7, 3) := by decide +kernel
theorem dX11_findFrom_116 : decode cX11_findFrom 116 = .ok (.iconst 0, 1) := by decide +kernel
theorem dX11_findFrom_117 : decode cX11_findFrom 117 = .ok (.goto 13, 3) := by decide +kernel
theorem dX11_findFrom_120 : decode cX11_findFrom 120 = .ok (.iload 9, 2) := by decide +kernel
theorem dX11_findFrom_122 : decode cX11_findFrom 122 = .ok (.aload_n 0, 1) := by decide +kernel
theorem dX11_findFrom_123 : decode cX11_findFrom 123 = .ok (.getfield 38, 3) := by decide +kernel
theorem dX11_findFrom_126 : decode cX11_findFrom 126 = .ok (.iload 7, 2) := by decide +kernel
theorem dX11_findFrom_128 : decode cX11_findFrom 128 = .ok (.iaload, 1) := by decide +kernel
theorem dX11_findFrom_129 : decode cX11_findFrom 129 = .ok (.iadd, 1) := by decide +kernel
theorem dX11_findFrom_130 : decode cX11_findFrom 130 = .ok (.istore 10, 2) := by decide +kernel
theorem dX11_findFrom_132 : decode cX11_findFrom 132 = .ok (.iload 8, 2) := by decide +kernel
theorem dX11_findFrom_134 : decode cX11_findFrom 134 = .ok (.ifCond .eq 7, 3) := by decide +kernel
theorem dX11_findFrom_137 : decode cX11_findFrom 137 = .ok (.iconst 1, 1) := by decide +kernel
theorem dX11_findFrom_138 : decode cX11_findFrom 138 = .ok (.goto 12, 3) := by decide +kernel
theorem dX11_findFrom_141 : decode cX11_findFrom 141 = .ok (.iconst 1, 1) := by decide +kernel
theorem dX11_findFrom_142 : decode cX11_findFrom 142 = .ok (.aload_n 0, 1) := by decide +kernel
theorem dX11_findFrom_143 : decode cX11_findFrom 143 = .ok (.getfield 44, 3) := by decide +kernel
theorem dX11_findFrom_146 : decode cX11_findFrom 146 = .ok (.iload 7, 2) := by decide +kernel
theorem dX11_findFrom_148 : decode cX11_findFrom 148 = .ok (.iaload, 1) := by decide +kernel
theorem dX11_findFrom_149 : decode cX11_findFrom 149 = .ok (.iadd, 1) := by decide +kernel
theorem dX11_findFrom_150 : decode cX11_findFrom 150 = .ok (.istore 11, 2) := by decide +kernel
theorem dX11_findFrom_152 : decode cX11_findFrom 152 = .ok (.iconst 0, 1) := by decide +kernel
theorem dX11_findFrom_153 : decode cX11_findFrom 153 = .ok (.istore 12, 2) := by decide +kernel
theorem dX11_findFrom_155 : decode cX11_findFrom 155 = .ok (.iload 12, 2) := by decide +kernel
theorem dX11_findFrom_157 : decode cX11_findFrom 157 = .ok (.iconst 3, 1) := by decide +kernel
theorem dX11_findFrom_158 : decode cX11_findFrom 158 = .ok (.if_icmp .ge 193, 3) := by decide +kernel
theorem dX11_findFrom_161 : decode cX11_findFrom 161 = .ok (.aload_n 0, 1) := by decide +kernel
theorem dX11_findFrom_162 : decode cX11_findFrom 162 = .ok (.getfield 28, 3) := by decide +kernel
theorem dX11_findFrom_165 : decode cX11_findFrom 165 = .ok (.iload 12, 2) := by decide +kernel
theorem dX11_findFrom_167 : decode cX11_findFrom 167 = .ok (.iload_n 3, 1) := by decide +kernel
theorem dX11_findFrom_168 : decode cX11_findFrom 168 = .ok (.iload 6, 2) := by decide +kernel
theorem dX11_findFrom_170 : decode cX11_findFrom 170 = .ok (.invokestatic 255, 3) := by decide +kernel
theorem dX11_findFrom_173 : decode cX11_findFrom 173 = .ok (.iaload, 1) := by decide +kernel
theorem dX11_findFrom_174 : decode cX11_findFrom 174 = .ok (.istore 13, 2) := by decide +kernel
theorem dX11_findFrom_176 : decode cX11_findFrom 176 = .ok (.iload 13, 2) := by decide +kernel
theorem dX11_findFrom_178 : decode cX11_findFrom 178 = .ok (.ldc_w 258, 3) := by decide +kernel
theorem dX11_findFrom_181 : decode cX11_findFrom 181 = .ok (.if_icmp .ne 6, 3) := by decide +kernel
theorem dX11_findFrom_184 : decode cX11_findFrom 184 = .ok (.goto 161, 3) := by decide +kernel
theorem dX11_findFrom_187 : decode cX11_findFrom 187 = .ok (.iload 13, 2) := by decide +kernel
theorem dX11_findFrom_189 : decode cX11_findFrom 189 = .ok (.aload_n 0, 1) := by decide +kernel
theorem dX11_findFrom_190 : decode cX11_findFrom 190 = .ok (.getfield 9, 3) := by decide +kernel
theorem dX11_findFrom_193 : decode cX11_findFrom 193 = .ok (.iconst 4, 1) := by decide +kernel
theorem dX11_findFrom_194 : decode cX11_findFrom 194 = .ok (.iaload, 1) := by decide +kernel
theorem dX11_findFrom_195 : decode cX11_findFrom 195 = .ok (.iload 8, 2) := by decide +kernel
theorem dX11_findFrom_197 : decode cX11_findFrom 197 = .ok (.ifCond .eq 7, 3) := by decide +kernel
theorem dX11_findFrom_200 : decode cX11_findFrom 200 = .ok (.iconst 0, 1) := by decide +kernel
theorem dX11_findFrom_201 : decode cX11_findFrom 201 = .ok (.goto 10, 3) := by decide +kernel
theorem dX11_findFrom_204 : decode cX11_findFrom 204 = .ok (.aload_n 0, 1) := by decide +kernel
theorem dX11_findFrom_205 : decode cX11_findFrom 205 = .ok (.getfield 41, 3) := by decide +kernel
theorem dX11_findFrom_208 : decode cX11_findFrom 208 = .ok (.iload 7, 2) := by decide +kernel
theorem dX11_findFrom_210 : decode cX11_findFrom 210 = .ok (.iaload, 1) := by decide +kernel
theorem dX11_findFrom_211 : decode cX11_findFrom 211 = .ok (.iadd, 1) := by decide +kernel
theorem dX11_findFrom_212 : decode cX11_findFrom 212 = .ok (.iadd, 1) := by decide +kernel
theorem dX11_findFrom_213 : decode cX11_findFrom 213 = .ok (.istore 13, 2) := by decide +kernel
theorem dX11_findFrom_215 : decode cX11_findFrom 215 = .ok (.aload_n 0, 1) := by decide +kernel
theorem dX11_findFrom_216 : decode cX11_findFrom 216 = .ok (.getfield 47, 3) := by decide +kernel
theorem dX11_findFrom_219 : decode cX11_findFrom 219 = .ok (.iload 5, 2) := by decide +kernel
theorem dX11_findFrom_221 : decode cX11_findFrom 221 = .ok (.iaload, 1) := by decide +kernel
theorem dX11_findFrom_222 : decode cX11_findFrom 222 = .ok (.ifCond .lt 63, 3) := by decide +kernel
theorem dX11_findFrom_225 : decode cX11_findFrom 225 = .ok (.iload 10, 2) := by decide +kernel
theorem dX11_findFrom_227 : decode cX11_findFrom 227 = .ok (.aload_n 0, 1) := by decide +kernel
theorem dX11_findFrom_228 : decode cX11_findFrom 228 = .ok (.getfield 38, 3) := by decide +kernel
theorem dX11_findFrom_231 : decode cX11_findFrom 231 = .ok (.iload 5, 2) := by decide +kernel
theorem dX11_findFrom_233 : decode cX11_findFrom 233 = .ok (.iaload, 1) := by decide +kernel
theorem dX11_findFrom_234 : decode cX11_findFrom 234 = .ok (.if_icmp .lt 51, 3) := by decide +kernel
theorem dX11_findFrom_237 : decode cX11_findFrom 237 = .ok (.iload 10, 2) := by decide +kernel
theorem dX11_findFrom_239 : decode cX11_findFrom 239 = .ok (.aload_n 0, 1) := by decide +kernel
theorem dX11_findFrom_240 : decode cX11_findFrom 240 = .ok (.getfield 38, 3) := by decide +kernel
theorem dX11_findFrom_243 : decode cX11_findFrom 243 = .ok (.iload 5, 2) := by decide +kernel
theorem dX11_findFrom_245 : decode cX11_findFrom 245 = .ok (.iaload, 1) := by decide +kernel
theorem dX11_findFrom_246 : decode cX11_findFrom 246 = .ok (.if_icmp .ne 43, 3) := by decide +kernel
theorem dX11_findFrom_249 : decode cX11_findFrom 249 = .ok (.iload 13, 2) := by decide +kernel
theorem dX11_findFrom_251 : decode cX11_findFrom 251 = .ok (.aload_n 0, 1) := by decide +kernel
theorem dX11_findFrom_252 : decode cX11_findFrom 252 = .ok (.getfield 41, 3) := by decide +kernel
theorem dX11_findFrom_255 : decode cX11_findFrom 255 = .ok (.iload 5, 2) := by decide +kernel
theorem dX11_findFrom_257 : decode cX11_findFrom 257 = .ok (.iaload, 1) := by decide +kernel
theorem dX11_findFrom_258 : decode cX11_findFrom 258 = .ok (.if_icmp .lt 27, 3) := by decide +kernel
theorem dX11_findFrom_261 : decode cX11_findFrom 261 = .ok (.iload 13, 2) := by decide +kernel
theorem dX11_findFrom_263 : decode cX11_findFrom 263 = .ok (.aload_n 0, 1) := by decide +kernel
theorem dX11_findFrom_264 : decode cX11_findFrom 264 = .ok (.getfield 41, 3) := by decide +kernel
theorem dX11_findFrom_267 : decode cX11_findFrom 267 = .ok (.iload 5, 2) := by decide +kernel
theorem dX11_findFrom_269 : decode cX11_findFrom 269 = .ok (.iaload, 1) := by decide +kernel
theorem dX11_findFrom_270 : decode cX11_findFrom 270 = .ok (.if_icmp .ne 19, 3) := by decide +kernel
theorem dX11_findFrom_273 : decode cX11_findFrom 273 = .ok (.iload 11, 2) := by decide +kernel
theorem dX11_findFrom_275 : decode cX11_findFrom 275 = .ok (.aload_n 0, 1) := by decide +kernel
theorem dX11_findFrom_276 : decode cX11_findFrom 276 = .ok (.getfield 44, 3) := by decide +kernel
theorem dX11_findFrom_279 : decode cX11_findFrom 279 = .ok (.iload 5, 2) := by decide +kernel
theorem dX11_findFrom_281 : decode cX11_findFrom 281 = .ok (.iaload, 1) := by decide +kernel
theorem dX11_findFrom_282 : decode cX11_findFrom 282 = .ok (.if_icmp .ge 7, 3) := by decide +kernel
theorem dX11_findFrom_285 : decode cX11_findFrom 285 = .ok (.iconst 1, 1) := by decide +kernel
theorem dX11_findFrom_286 : decode cX11_findFrom 286 = .ok (.goto 4, 3) := by decide +kernel
theorem dX11_findFrom_289 : decode cX11_findFrom 289 = .ok (.iconst 0, 1) := by decide +kernel
theorem dX11_findFrom_290 : decode cX11_findFrom 290 = .ok (.istore 14, 2) := by decide +kernel
theorem dX11_findFrom_292 : decode cX11_findFrom 292 = .ok (.iload 14, 2) := by decide +kernel
theorem dX11_findFrom_294 : decode cX11_findFrom 294 = .ok (.ifCond .ne 6, 3) := by decide +kernel
theorem dX11_findFrom_297 : decode cX11_findFrom 297 = .ok (.goto 48, 3) := by decide +kernel
theorem dX11_findFrom_300 : decode cX11_findFrom 300 = .ok (.aload_n 0, 1) := by decide +kernel
theorem dX11_findFrom_301 : decode cX11_findFrom 301 = .ok (.getfield 38, 3) := by decide +kernel
theorem dX11_findFrom_304 : decode cX11_findFrom 304 = .ok (.iload 5, 2) := by decide +kernel
theorem dX11_findFrom_306 : decode cX11_findFrom 306 = .ok (.iload 10, 2) := by decide +kernel
theorem dX11_findFrom_308 : decode cX11_findFrom 308 = .ok (.iastore, 1) := by decide +kernel
theorem dX11_findFrom_309 : decode cX11_findFrom 309 = .ok (.aload_n 0, 1) := by decide +kernel
theorem dX11_findFrom_310 : decode cX11_findFrom 310 = .ok (.getfield 41, 3) := by decide +kernel
theorem dX11_findFrom_313 : decode cX11_findFrom 313 = .ok (.iload 5, 2) := by decide +kernel
theorem dX11_findFrom_315 : decode cX11_findFrom 315 = .ok (.iload 13, 2) := by decide +kernel
theorem dX11_findFrom_317 : decode cX11_findFrom 317 = .ok (.iastore, 1) := by decide +kernel
theorem dX11_findFrom_318 : decode cX11_findFrom 318 = .ok (.aload_n 0, 1) := by decide +kernel
theorem dX11_findFrom_319 : decode cX11_findFrom 319 = .ok (.getfield 44, 3) := by decide +kernel
theorem dX11_findFrom_322 : decode cX11_findFrom 322 = .ok (.iload 5, 2) := by decide +kernel
theorem dX11_findFrom_324 : decode cX11_findFrom 324 = .ok (.iload 11, 2) := by decide +kernel
theorem dX11_findFrom_326 : decode cX11_findFrom 326 = .ok (.iastore, 1) := by decide +kernel
theorem dX11_findFrom_327 : decode cX11_findFrom 327 = .ok (.aload_n 0, 1) := by decide +kernel
theorem dX11_findFrom_328 : decode cX11_findFrom 328 = .ok (.getfield 47, 3) := by decide +kernel
theorem dX11_findFrom_331 : decode cX11_findFrom 331 = .ok (.iload 5, 2) := by decide +kernel
theorem dX11_findFrom_333 : decode cX11_findFrom 333 = .ok (.iload 6, 2) := by decide +kernel
theorem dX11_findFrom_335 : decode cX11_findFrom 335 = .ok (.iastore, 1) := by decide +kernel
theorem dX11_findFrom_336 : decode cX11_findFrom 336 = .ok (.aload_n 0, 1) := by decide +kernel
theorem dX11_findFrom_337 : decode cX11_findFrom 337 = .ok (.getfield 50, 3) := by decide +kernel
theorem dX11_findFrom_340 : decode cX11_findFrom 340 = .ok (.iload 5, 2) := by decide +kernel
theorem dX11_findFrom_342 : decode cX11_findFrom 342 = .ok (.iload 12, 2) := by decide +kernel
theorem dX11_findFrom_344 : decode cX11_findFrom 344 = .ok (.iastore, 1) := by decide +kernel
theorem dX11_findFrom_345 : decode cX11_findFrom 345 = .ok (.iinc 12 1, 3) := by decide +kernel
theorem dX11_findFrom_348 : decode cX11_findFrom 348 = .ok (.goto (-193), 3) := by decide +kernel
theorem dX11_findFrom_351 : decode cX11_findFrom 351 = .ok (.iinc 6 1, 3) := by decide +kernel
theorem dX11_findFrom_354 : decode cX11_findFrom 354 = .ok (.goto (-328), 3) := by decide +kernel
theorem dX11_findFrom_357 : decode cX11_findFrom 357 = .ok (.return_, 1) := by decide +kernel
def S_X11_findFrom_26 (fn : Mem → Int → Int → Int → Int → Int → Int → Option (Mem)) (p : Program) (l : Launch) (e : Env) (R : Room) (s : State) (m : MethodId) (args : Array Value) (below : List Frame) (meth : Method) (c : Code) (G : GT) (τ : Mem) : Prop := ∀ (σ : Mem) (H : Heap) (locs : List Loc) (ls : Array Slot) (l1 : Int) (l2 : Int) (l3 : Int) (l4 : Int) (l5 : Int) (l6 : Int), PW G σ H → va_S (AA G) s.heap H locs → fn σ l1 l2 l3 l4 l5 l6 = some τ → lv_has ls 15 [(0, .ref (gh G + 111)), (1, .int (i32 l1)), (2, .int (i32 l2)), (3, .int (i32 l3)), (4, .int (i32 l4)), (5, .int (i32 l5)), (6, .int (i32 l6))] → W p l e R s m args below meth c H locs 0 0 (MQ below (QM G none τ) args s 0 0 (AA G)) (F0 m 26 ls [])
def S_X11_findFrom_155 (fn : Mem → Int → Int → Int → Int → Int → Int → Int → Int → Int → Int → Int → Option (Mem)) (p : Program) (l : Launch) (e : Env) (R : Room) (s : State) (m : MethodId) (args : Array Value) (below : List Frame) (meth : Method) (c : Code) (G : GT) (τ : Mem) : Prop := ∀ (σ : Mem) (H : Heap) (locs : List Loc) (ls : Array Slot) (l1 : Int) (l2 : Int) (l3 : Int) (l4 : Int) (l5 : Int) (l6 : Int) (l7 : Int) (l8 : Int) (l10 : Int) (l11 : Int) (l12 : Int), PW G σ H → va_S (AA G) s.heap H locs → fn σ l1 l2 l3 l4 l5 l6 l7 l8 l10 l11 l12 = some τ → lv_has ls 15 [(0, .ref (gh G + 111)), (1, .int (i32 l1)), (2, .int (i32 l2)), (3, .int (i32 l3)), (4, .int (i32 l4)), (5, .int (i32 l5)), (6, .int (i32 l6)), (7, .int (i32 l7)), (8, .int (i32 l8)), (10, .int (i32 l10)), (11, .int (i32 l11)), (12, .int (i32 l12))] → W p l e R s m args below meth c H locs 0 0 (MQ below (QM G none τ) args s 0 0 (AA G)) (F0 m 155 ls [])
def X11_findFrom_B351 (rec26 : Mem → Int → Int → Int → Int → Int → Int → Option (Mem)) (σ : Mem) (l1 : Int) (l2 : Int) (l3 : Int) (l4 : Int) (l5 : Int) (l6 : Int) : Option (Mem) :=
  lt (l6 + 1) fun l6_1 =>
  rec26 σ l1 l2 l3 l4 l5 l6_1
def S_X11_findFrom_351 (fn : Mem → Int → Int → Int → Int → Int → Int → Option (Mem)) (p : Program) (l : Launch) (e : Env) (R : Room) (s : State) (m : MethodId) (args : Array Value) (below : List Frame) (meth : Method) (c : Code) (G : GT) (τ : Mem) : Prop := ∀ (σ : Mem) (H : Heap) (locs : List Loc) (ls : Array Slot) (l1 : Int) (l2 : Int) (l3 : Int) (l4 : Int) (l5 : Int) (l6 : Int), PW G σ H → va_S (AA G) s.heap H locs → fn σ l1 l2 l3 l4 l5 l6 = some τ → lv_has ls 15 [(0, .ref (gh G + 111)), (1, .int (i32 l1)), (2, .int (i32 l2)), (3, .int (i32 l3)), (4, .int (i32 l4)), (5, .int (i32 l5)), (6, .int (i32 l6))] → W p l e R s m args below meth c H locs 0 0 (MQ below (QM G none τ) args s 0 0 (AA G)) (F0 m 351 ls [])
def X11_findFrom_B345 (rec26 : Mem → Int → Int → Int → Int → Int → Int → Option (Mem)) (rec155 : Mem → Int → Int → Int → Int → Int → Int → Int → Int → Int → Int → Int → Option (Mem)) (σ : Mem) (l1 : Int) (l2 : Int) (l3 : Int) (l4 : Int) (l5 : Int) (l6 : Int) (l7 : Int) (l8 : Int) (l10 : Int) (l11 : Int) (l12 : Int) : Option (Mem) :=
  lt (l12 + 1) fun l12_1 =>
  rec155 σ l1 l2 l3 l4 l5 l6 l7 l8 l10 l11 l12_1
def S_X11_findFrom_345 (fn : Mem → Int → Int → Int → Int → Int → Int → Int → Int → Int → Int → Int → Option (Mem)) (p : Program) (l : Launch) (e : Env) (R : Room) (s : State) (m : MethodId) (args : Array Value) (below : List Frame) (meth : Method) (c : Code) (G : GT) (τ : Mem) : Prop := ∀ (σ : Mem) (H : Heap) (locs : List Loc) (ls : Array Slot) (l1 : Int) (l2 : Int) (l3 : Int) (l4 : Int) (l5 : Int) (l6 : Int) (l7 : Int) (l8 : Int) (l10 : Int) (l11 : Int) (l12 : Int), PW G σ H → va_S (AA G) s.heap H locs → fn σ l1 l2 l3 l4 l5 l6 l7 l8 l10 l11 l12 = some τ → lv_has ls 15 [(0, .ref (gh G + 111)), (1, .int (i32 l1)), (2, .int (i32 l2)), (3, .int (i32 l3)), (4, .int (i32 l4)), (5, .int (i32 l5)), (6, .int (i32 l6)), (7, .int (i32 l7)), (8, .int (i32 l8)), (10, .int (i32 l10)), (11, .int (i32 l11)), (12, .int (i32 l12))] → W p l e R s m args below meth c H locs 0 0 (MQ below (QM G none τ) args s 0 0 (AA G)) (F0 m 345 ls [])
def X11_findFrom_B290 (rec26 : Mem → Int → Int → Int → Int → Int → Int → Option (Mem)) (rec155 : Mem → Int → Int → Int → Int → Int → Int → Int → Int → Int → Int → Int → Option (Mem)) (σ : Mem) (l1 : Int) (l2 : Int) (l3 : Int) (l4 : Int) (l5 : Int) (l6 : Int) (l7 : Int) (l8 : Int) (l10 : Int) (l11 : Int) (l12 : Int) (l13 : Int) (k0 : Int) : Option (Mem) :=
  if w32 k0 ≠ 0 then
    ag 1681 l5 fun j1 =>
    lt (st σ 121 j1 l10) fun s2 =>
    ag 1681 l5 fun j3 =>
    lt (st s2 122 j3 l13) fun s4 =>
    ag 1681 l5 fun j5 =>
    lt (st s4 123 j5 l11) fun s6 =>
    ag 1681 l5 fun j7 =>
    lt (st s6 124 j7 l6) fun s8 =>
    ag 1681 l5 fun j9 =>
    lt (st s8 125 j9 l12) fun s10 =>
    X11_findFrom_B345 rec26 rec155 s10 l1 l2 l3 l4 l5 l6 l7 l8 l10 l11 l12
  else
  X11_findFrom_B345 rec26 rec155 σ l1 l2 l3 l4 l5 l6 l7 l8 l10 l11 l12
def S_X11_findFrom_290 (fn : Mem → Int → Int → Int → Int → Int → Int → Int → Int → Int → Int → Int → Int → Int → Option (Mem)) (p : Program) (l : Launch) (e : Env) (R : Room) (s : State) (m : MethodId) (args : Array Value) (below : List Frame) (meth : Method) (c : Code) (G : GT) (τ : Mem) : Prop := ∀ (σ : Mem) (H : Heap) (locs : List Loc) (ls : Array Slot) (l1 : Int) (l2 : Int) (l3 : Int) (l4 : Int) (l5 : Int) (l6 : Int) (l7 : Int) (l8 : Int) (l10 : Int) (l11 : Int) (l12 : Int) (l13 : Int) (k0 : Int), PW G σ H → va_S (AA G) s.heap H locs → fn σ l1 l2 l3 l4 l5 l6 l7 l8 l10 l11 l12 l13 k0 = some τ → lv_has ls 15 [(0, .ref (gh G + 111)), (1, .int (i32 l1)), (2, .int (i32 l2)), (3, .int (i32 l3)), (4, .int (i32 l4)), (5, .int (i32 l5)), (6, .int (i32 l6)), (7, .int (i32 l7)), (8, .int (i32 l8)), (10, .int (i32 l10)), (11, .int (i32 l11)), (12, .int (i32 l12)), (13, .int (i32 l13))] → W p l e R s m args below meth c H locs 0 0 (MQ below (QM G none τ) args s 0 0 (AA G)) (F0 m 290 ls [.int (i32 k0)])
def X11_findFrom_B289 (rec26 : Mem → Int → Int → Int → Int → Int → Int → Option (Mem)) (rec155 : Mem → Int → Int → Int → Int → Int → Int → Int → Int → Int → Int → Int → Option (Mem)) (σ : Mem) (l1 : Int) (l2 : Int) (l3 : Int) (l4 : Int) (l5 : Int) (l6 : Int) (l7 : Int) (l8 : Int) (l10 : Int) (l11 : Int) (l12 : Int) (l13 : Int) : Option (Mem) :=
  X11_findFrom_B290 rec26 rec155 σ l1 l2 l3 l4 l5 l6 l7 l8 l10 l11 l12 l13 0
def S_X11_findFrom_289 (fn : Mem → Int → Int → Int → Int → Int → Int → Int → Int → Int → Int → Int → Int → Option (Mem)) (p : Program) (l : Launch) (e : Env) (R : Room) (s : State) (m : MethodId) (args : Array Value) (below : List Frame) (meth : Method) (c : Code) (G : GT) (τ : Mem) : Prop := ∀ (σ : Mem) (H : Heap) (locs : List Loc) (ls : Array Slot) (l1 : Int) (l2 : Int) (l3 : Int) (l4 : Int) (l5 : Int) (l6 : Int) (l7 : Int) (l8 : Int) (l10 : Int) (l11 : Int) (l12 : Int) (l13 : Int), PW G σ H → va_S (AA G) s.heap H locs → fn σ l1 l2 l3 l4 l5 l6 l7 l8 l10 l11 l12 l13 = some τ → lv_has ls 15 [(0, .ref (gh G + 111)), (1, .int (i32 l1)), (2, .int (i32 l2)), (3, .int (i32 l3)), (4, .int (i32 l4)), (5, .int (i32 l5)), (6, .int (i32 l6)), (7, .int (i32 l7)), (8, .int (i32 l8)), (10, .int (i32 l10)), (11, .int (i32 l11)), (12, .int (i32 l12)), (13, .int (i32 l13))] → W p l e R s m args below meth c H locs 0 0 (MQ below (QM G none τ) args s 0 0 (AA G)) (F0 m 289 ls [])
def X11_findFrom_B285 (rec26 : Mem → Int → Int → Int → Int → Int → Int → Option (Mem)) (rec155 : Mem → Int → Int → Int → Int → Int → Int → Int → Int → Int → Int → Int → Option (Mem)) (σ : Mem) (l1 : Int) (l2 : Int) (l3 : Int) (l4 : Int) (l5 : Int) (l6 : Int) (l7 : Int) (l8 : Int) (l10 : Int) (l11 : Int) (l12 : Int) (l13 : Int) : Option (Mem) :=
  X11_findFrom_B290 rec26 rec155 σ l1 l2 l3 l4 l5 l6 l7 l8 l10 l11 l12 l13 1
def S_X11_findFrom_285 (fn : Mem → Int → Int → Int → Int → Int → Int → Int → Int → Int → Int → Int → Int → Option (Mem)) (p : Program) (l : Launch) (e : Env) (R : Room) (s : State) (m : MethodId) (args : Array Value) (below : List Frame) (meth : Method) (c : Code) (G : GT) (τ : Mem) : Prop := ∀ (σ : Mem) (H : Heap) (locs : List Loc) (ls : Array Slot) (l1 : Int) (l2 : Int) (l3 : Int) (l4 : Int) (l5 : Int) (l6 : Int) (l7 : Int) (l8 : Int) (l10 : Int) (l11 : Int) (l12 : Int) (l13 : Int), PW G σ H → va_S (AA G) s.heap H locs → fn σ l1 l2 l3 l4 l5 l6 l7 l8 l10 l11 l12 l13 = some τ → lv_has ls 15 [(0, .ref (gh G + 111)), (1, .int (i32 l1)), (2, .int (i32 l2)), (3, .int (i32 l3)), (4, .int (i32 l4)), (5, .int (i32 l5)), (6, .int (i32 l6)), (7, .int (i32 l7)), (8, .int (i32 l8)), (10, .int (i32 l10)), (11, .int (i32 l11)), (12, .int (i32 l12)), (13, .int (i32 l13))] → W p l e R s m args below meth c H locs 0 0 (MQ below (QM G none τ) args s 0 0 (AA G)) (F0 m 285 ls [])
def X11_findFrom_B211 (rec26 : Mem → Int → Int → Int → Int → Int → Int → Option (Mem)) (rec155 : Mem → Int → Int → Int → Int → Int → Int → Int → Int → Int → Int → Int → Option (Mem)) (σ : Mem) (l1 : Int) (l2 : Int) (l3 : Int) (l4 : Int) (l5 : Int) (l6 : Int) (l7 : Int) (l8 : Int) (l10 : Int) (l11 : Int) (l12 : Int) (k0 : Int) (k1 : Int) (k2 : Int) : Option (Mem) :=
  lt (k0 + (k1 + k2)) fun l13_1 =>
  ag 1681 l5 fun j2 =>
  if w32 (σ 124 j2) < 0 then
    X11_findFrom_B285 rec26 rec155 σ l1 l2 l3 l4 l5 l6 l7 l8 l10 l11 l12 l13_1
  else
  ag 1681 l5 fun j3 =>
  if w32 l10 < w32 (σ 121 j3) then
    X11_findFrom_B285 rec26 rec155 σ l1 l2 l3 l4 l5 l6 l7 l8 l10 l11 l12 l13_1
  else
  ag 1681 l5 fun j4 =>
  if w32 l10 ≠ w32 (σ 121 j4) then
    X11_findFrom_B289 rec26 rec155 σ l1 l2 l3 l4 l5 l6 l7 l8 l10 l11 l12 l13_1
  else
  ag 1681 l5 fun j5 =>
  if w32 l13_1 < w32 (σ 122 j5) then
    X11_findFrom_B285 rec26 rec155 σ l1 l2 l3 l4 l5 l6 l7 l8 l10 l11 l12 l13_1
  else
  ag 1681 l5 fun j6 =>
  if w32 l13_1 ≠ w32 (σ 122 j6) then
    X11_findFrom_B289 rec26 rec155 σ l1 l2 l3 l4 l5 l6 l7 l8 l10 l11 l12 l13_1
  else
  ag 1681 l5 fun j7 =>
  if w32 (σ 123 j7) ≤ w32 l11 then
    X11_findFrom_B289 rec26 rec155 σ l1 l2 l3 l4 l5 l6 l7 l8 l10 l11 l12 l13_1
  else
  X11_findFrom_B285 rec26 rec155 σ l1 l2 l3 l4 l5 l6 l7 l8 l10 l11 l12 l13_1
def S_X11_findFrom_211 (fn : Mem → Int → Int → Int → Int → Int → Int → Int → Int → Int → Int → Int → Int → Int → Int → Option (Mem)) (p : Program) (l : Launch) (e : Env) (R : Room) (s : State) (m : MethodId) (args : Array Value) (below : List Frame) (meth : Method) (c : Code) (G : GT) (τ : Mem) : Prop := ∀ (σ : Mem) (H : Heap) (locs : List Loc) (ls : Array Slot) (l1 : Int) (l2 : Int) (l3 : Int) (l4 : Int) (l5 : Int) (l6 : Int) (l7 : Int) (l8 : Int) (l10 : Int) (l11 : Int) (l12 : Int) (k0 : Int) (k1 : Int) (k2 : Int), PW G σ H → va_S (AA G) s.heap H locs → fn σ l1 l2 l3 l4 l5 l6 l7 l8 l10 l11 l12 k0 k1 k2 = some τ → lv_has ls 15 [(0, .ref (gh G + 111)), (1, .int (i32 l1)), (2, .int (i32 l2)), (3, .int (i32 l3)), (4, .int (i32 l4)), (5, .int (i32 l5)), (6, .int (i32 l6)), (7, .int (i32 l7)), (8, .int (i32 l8)), (10, .int (i32 l10)), (11, .int (i32 l11)), (12, .int (i32 l12))] → W p l e R s m args below meth c H locs 0 0 (MQ below (QM G none τ) args s 0 0 (AA G)) (F0 m 211 ls [.int (i32 k2), .int (i32 k1), .int (i32 k0)])
def X11_findFrom_B155 (rec26 : Mem → Int → Int → Int → Int → Int → Int → Option (Mem)) (rec155 : Mem → Int → Int → Int → Int → Int → Int → Int → Int → Int → Int → Int → Option (Mem)) (σ : Mem) (l1 : Int) (l2 : Int) (l3 : Int) (l4 : Int) (l5 : Int) (l6 : Int) (l7 : Int) (l8 : Int) (l10 : Int) (l11 : Int) (l12 : Int) : Option (Mem) :=
  if w32 3 ≤ w32 l12 then
    X11_findFrom_B351 rec26 σ l1 l2 l3 l4 l5 l6
  else
  bd (X11_cell σ l12 l3 l6) fun r1 =>
  ag 4800 r1 fun j2 =>
  lt (σ 118 j2) fun l13_3 =>
  if w32 l13_3 ≠ w32 1000000000 then
    ag 766 4 fun j4 =>
    if w32 l8 = 0 then
      ag 1681 l7 fun j5 =>
      X11_findFrom_B211 rec26 rec155 σ l1 l2 l3 l4 l5 l6 l7 l8 l10 l11 l12 l13_3 (σ 112 j4) (σ 122 j5)
    else
    X11_findFrom_B211 rec26 rec155 σ l1 l2 l3 l4 l5 l6 l7 l8 l10 l11 l12 l13_3 (σ 112 j4) 0
  else
  X11_findFrom_B345 rec26 rec155 σ l1 l2 l3 l4 l5 l6 l7 l8 l10 l11 l12
def X11_findFrom_L155 (rec26 : Mem → Int → Int → Int → Int → Int → Int → Option (Mem)) : Nat → Mem → Int → Int → Int → Int → Int → Int → Int → Int → Int → Int → Int → Option (Mem)
  | 0 => fun _ _ _ _ _ _ _ _ _ _ _ _ => none
  | n + 1 => X11_findFrom_B155 rec26 (X11_findFrom_L155 rec26 n)
def X11_findFrom_B150 (rec26 : Mem → Int → Int → Int → Int → Int → Int → Option (Mem)) (σ : Mem) (l1 : Int) (l2 : Int) (l3 : Int) (l4 : Int) (l5 : Int) (l6 : Int) (l7 : Int) (l8 : Int) (l10 : Int) (k0 : Int) : Option (Mem) :=
  X11_findFrom_L155 rec26 5000 σ l1 l2 l3 l4 l5 l6 l7 l8 l10 k0 0
def S_X11_findFrom_150 (fn : Mem → Int → Int → Int → Int → Int → Int → Int → Int → Int → Int → Option (Mem)) (p : Program) (l : Launch) (e : Env) (R : Room) (s : State) (m : MethodId) (args : Array Value) (below : List Frame) (meth : Method) (c : Code) (G : GT) (τ : Mem) : Prop := ∀ (σ : Mem) (H : Heap) (locs : List Loc) (ls : Array Slot) (l1 : Int) (l2 : Int) (l3 : Int) (l4 : Int) (l5 : Int) (l6 : Int) (l7 : Int) (l8 : Int) (l10 : Int) (k0 : Int), PW G σ H → va_S (AA G) s.heap H locs → fn σ l1 l2 l3 l4 l5 l6 l7 l8 l10 k0 = some τ → lv_has ls 15 [(0, .ref (gh G + 111)), (1, .int (i32 l1)), (2, .int (i32 l2)), (3, .int (i32 l3)), (4, .int (i32 l4)), (5, .int (i32 l5)), (6, .int (i32 l6)), (7, .int (i32 l7)), (8, .int (i32 l8)), (10, .int (i32 l10))] → W p l e R s m args below meth c H locs 0 0 (MQ below (QM G none τ) args s 0 0 (AA G)) (F0 m 150 ls [.int (i32 k0)])
def X11_findFrom_B130 (rec26 : Mem → Int → Int → Int → Int → Int → Int → Option (Mem)) (σ : Mem) (l1 : Int) (l2 : Int) (l3 : Int) (l4 : Int) (l5 : Int) (l6 : Int) (l7 : Int) (l8 : Int) (k0 : Int) : Option (Mem) :=
  if w32 l8 = 0 then
    ag 1681 l7 fun j1 =>
    X11_findFrom_B150 rec26 σ l1 l2 l3 l4 l5 l6 l7 l8 k0 (1 + (σ 123 j1))
  else
  X11_findFrom_B150 rec26 σ l1 l2 l3 l4 l5 l6 l7 l8 k0 1
def S_X11_findFrom_130 (fn : Mem → Int → Int → Int → Int → Int → Int → Int → Int → Int → Option (Mem)) (p : Program) (l : Launch) (e : Env) (R : Room) (s : State) (m : MethodId) (args : Array Value) (below : List Frame) (meth : Method) (c : Code) (G : GT) (τ : Mem) : Prop := ∀ (σ : Mem) (H : Heap) (locs : List Loc) (ls : Array Slot) (l1 : Int) (l2 : Int) (l3 : Int) (l4 : Int) (l5 : Int) (l6 : Int) (l7 : Int) (l8 : Int) (k0 : Int), PW G σ H → va_S (AA G) s.heap H locs → fn σ l1 l2 l3 l4 l5 l6 l7 l8 k0 = some τ → lv_has ls 15 [(0, .ref (gh G + 111)), (1, .int (i32 l1)), (2, .int (i32 l2)), (3, .int (i32 l3)), (4, .int (i32 l4)), (5, .int (i32 l5)), (6, .int (i32 l6)), (7, .int (i32 l7)), (8, .int (i32 l8))] → W p l e R s m args below meth c H locs 0 0 (MQ below (QM G none τ) args s 0 0 (AA G)) (F0 m 130 ls [.int (i32 k0)])
def X11_findFrom_B109 (rec26 : Mem → Int → Int → Int → Int → Int → Int → Option (Mem)) (σ : Mem) (l1 : Int) (l2 : Int) (l3 : Int) (l4 : Int) (l5 : Int) (l6 : Int) (l7 : Int) (l8 : Int) (k0 : Int) : Option (Mem) :=
  if w32 l8 = 0 then
    ag 1681 l7 fun j1 =>
    X11_findFrom_B130 rec26 σ l1 l2 l3 l4 l5 l6 l7 l8 (k0 + (σ 121 j1))
  else
  X11_findFrom_B130 rec26 σ l1 l2 l3 l4 l5 l6 l7 l8 0
def S_X11_findFrom_109 (fn : Mem → Int → Int → Int → Int → Int → Int → Int → Int → Int → Option (Mem)) (p : Program) (l : Launch) (e : Env) (R : Room) (s : State) (m : MethodId) (args : Array Value) (below : List Frame) (meth : Method) (c : Code) (G : GT) (τ : Mem) : Prop := ∀ (σ : Mem) (H : Heap) (locs : List Loc) (ls : Array Slot) (l1 : Int) (l2 : Int) (l3 : Int) (l4 : Int) (l5 : Int) (l6 : Int) (l7 : Int) (l8 : Int) (k0 : Int), PW G σ H → va_S (AA G) s.heap H locs → fn σ l1 l2 l3 l4 l5 l6 l7 l8 k0 = some τ → lv_has ls 15 [(0, .ref (gh G + 111)), (1, .int (i32 l1)), (2, .int (i32 l2)), (3, .int (i32 l3)), (4, .int (i32 l4)), (5, .int (i32 l5)), (6, .int (i32 l6)), (7, .int (i32 l7)), (8, .int (i32 l8))] → W p l e R s m args below meth c H locs 0 0 (MQ below (QM G none τ) args s 0 0 (AA G)) (F0 m 109 ls [.int (i32 k0)])
def X11_findFrom_B108 (rec26 : Mem → Int → Int → Int → Int → Int → Int → Option (Mem)) (σ : Mem) (l1 : Int) (l2 : Int) (l3 : Int) (l4 : Int) (l5 : Int) (l6 : Int) (l7 : Int) (l8 : Int) : Option (Mem) :=
  X11_findFrom_B109 rec26 σ l1 l2 l3 l4 l5 l6 l7 l8 0
def S_X11_findFrom_108 (fn : Mem → Int → Int → Int → Int → Int → Int → Int → Int → Option (Mem)) (p : Program) (l : Launch) (e : Env) (R : Room) (s : State) (m : MethodId) (args : Array Value) (below : List Frame) (meth : Method) (c : Code) (G : GT) (τ : Mem) : Prop := ∀ (σ : Mem) (H : Heap) (locs : List Loc) (ls : Array Slot) (l1 : Int) (l2 : Int) (l3 : Int) (l4 : Int) (l5 : Int) (l6 : Int) (l7 : Int) (l8 : Int), PW G σ H → va_S (AA G) s.heap H locs → fn σ l1 l2 l3 l4 l5 l6 l7 l8 = some τ → lv_has ls 15 [(0, .ref (gh G + 111)), (1, .int (i32 l1)), (2, .int (i32 l2)), (3, .int (i32 l3)), (4, .int (i32 l4)), (5, .int (i32 l5)), (6, .int (i32 l6)), (7, .int (i32 l7)), (8, .int (i32 l8))] → W p l e R s m args below meth c H locs 0 0 (MQ below (QM G none τ) args s 0 0 (AA G)) (F0 m 108 ls [])
def X11_findFrom_B80 (rec26 : Mem → Int → Int → Int → Int → Int → Int → Option (Mem)) (σ : Mem) (l1 : Int) (l2 : Int) (l3 : Int) (l4 : Int) (l5 : Int) (l6 : Int) (l7 : Int) (l8 : Int) : Option (Mem) :=
  if w32 l8 ≠ 0 then
    X11_findFrom_B108 rec26 σ l1 l2 l3 l4 l5 l6 l7 l8
  else
  bd (X11_isTurn σ l1 l2) fun r1 =>
  if w32 r1 = 0 then
    X11_findFrom_B108 rec26 σ l1 l2 l3 l4 l5 l6 l7 l8
  else
  ag 40 l6 fun j2 =>
  if w32 (σ 120 j2) = 0 then
    X11_findFrom_B108 rec26 σ l1 l2 l3 l4 l5 l6 l7 l8
  else
  X11_findFrom_B109 rec26 σ l1 l2 l3 l4 l5 l6 l7 l8 1
def S_X11_findFrom_80 (fn : Mem → Int → Int → Int → Int → Int → Int → Int → Int → Option (Mem)) (p : Program) (l : Launch) (e : Env) (R : Room) (s : State) (m : MethodId) (args : Array Value) (below : List Frame) (meth : Method) (c : Code) (G : GT) (τ : Mem) : Prop := ∀ (σ : Mem) (H : Heap) (locs : List Loc) (ls : Array Slot) (l1 : Int) (l2 : Int) (l3 : Int) (l4 : Int) (l5 : Int) (l6 : Int) (l7 : Int) (l8 : Int), PW G σ H → va_S (AA G) s.heap H locs → fn σ l1 l2 l3 l4 l5 l6 l7 l8 = some τ → lv_has ls 15 [(0, .ref (gh G + 111)), (1, .int (i32 l1)), (2, .int (i32 l2)), (3, .int (i32 l3)), (4, .int (i32 l4)), (5, .int (i32 l5)), (6, .int (i32 l6)), (7, .int (i32 l7)), (8, .int (i32 l8))] → W p l e R s m args below meth c H locs 0 0 (MQ below (QM G none τ) args s 0 0 (AA G)) (F0 m 80 ls [])
def X11_findFrom_B60 (rec26 : Mem → Int → Int → Int → Int → Int → Int → Option (Mem)) (σ : Mem) (l1 : Int) (l2 : Int) (l3 : Int) (l4 : Int) (l5 : Int) (l6 : Int) (l7 : Int) (k0 : Int) : Option (Mem) :=
  if w32 k0 ≠ 0 then
    X11_findFrom_B80 rec26 σ l1 l2 l3 l4 l5 l6 l7 k0
  else
  ag 1681 l7 fun j1 =>
  if 0 ≤ w32 (σ 124 j1) then
    X11_findFrom_B80 rec26 σ l1 l2 l3 l4 l5 l6 l7 k0
  else
  X11_findFrom_B351 rec26 σ l1 l2 l3 l4 l5 l6
def S_X11_findFrom_60 (fn : Mem → Int → Int → Int → Int → Int → Int → Int → Int → Option (Mem)) (p : Program) (l : Launch) (e : Env) (R : Room) (s : State) (m : MethodId) (args : Array Value) (below : List Frame) (meth : Method) (c : Code) (G : GT) (τ : Mem) : Prop := ∀ (σ : Mem) (H : Heap) (locs : List Loc) (ls : Array Slot) (l1 : Int) (l2 : Int) (l3 : Int) (l4 : Int) (l5 : Int) (l6 : Int) (l7 : Int) (k0 : Int), PW G σ H → va_S (AA G) s.heap H locs → fn σ l1 l2 l3 l4 l5 l6 l7 k0 = some τ → lv_has ls 15 [(0, .ref (gh G + 111)), (1, .int (i32 l1)), (2, .int (i32 l2)), (3, .int (i32 l3)), (4, .int (i32 l4)), (5, .int (i32 l5)), (6, .int (i32 l6)), (7, .int (i32 l7))] → W p l e R s m args below meth c H locs 0 0 (MQ below (QM G none τ) args s 0 0 (AA G)) (F0 m 60 ls [.int (i32 k0)])
def X11_findFrom_B26 (rec26 : Mem → Int → Int → Int → Int → Int → Int → Option (Mem)) (σ : Mem) (l1 : Int) (l2 : Int) (l3 : Int) (l4 : Int) (l5 : Int) (l6 : Int) : Option (Mem) :=
  if w32 l4 ≤ w32 l6 then
    some σ
  else
  lt (((41 * (l2 + 1)) + l6) + 1) fun l7_1 =>
  if w32 l6 ≠ w32 (l4 - 1) then
    X11_findFrom_B60 rec26 σ l1 l2 l3 l4 l5 l6 l7_1 0
  else
  X11_findFrom_B60 rec26 σ l1 l2 l3 l4 l5 l6 l7_1 1
def X11_findFrom_L26 : Nat → Mem → Int → Int → Int → Int → Int → Int → Option (Mem)
  | 0 => fun _ _ _ _ _ _ _ => none
  | n + 1 => X11_findFrom_B26 (X11_findFrom_L26 n)
def X11_findFrom (σ : Mem) (l1 : Int) (l2 : Int) (l3 : Int) : Option (Mem) :=
  bd (X11_bars σ l1) fun r1 =>
  lt ((41 * l2) + l3) fun l5_2 =>
  ag 1681 l5_2 fun j3 =>
  lt (st σ 124 j3 (-1)) fun s4 =>
  X11_findFrom_L26 5000 s4 l1 l2 l3 r1 l5_2 l3
def S_X11_findFrom_0 (fn : Mem → Int → Int → Int → Option (Mem)) (p : Program) (l : Launch) (e : Env) (R : Room) (s : State) (m : MethodId) (args : Array Value) (below : List Frame) (meth : Method) (c : Code) (G : GT) (τ : Mem) : Prop := ∀ (σ : Mem) (H : Heap) (locs : List Loc) (ls : Array Slot) (l1 : Int) (l2 : Int) (l3 : Int), PW G σ H → va_S (AA G) s.heap H locs → fn σ l1 l2 l3 = some τ → lv_has ls 15 [(0, .ref (gh G + 111)), (1, .int (i32 l1)), (2, .int (i32 l2)), (3, .int (i32 l3))] → W p l e R s m args below meth c H locs 0 0 (MQ below (QM G none τ) args s 0 0 (AA G)) (F0 m 0 ls [])
set_option maxHeartbeats 4000000 in
theorem a_X11_findFrom_351 {p : Program} {l : Launch} {e : Env} {R : Room} {s : State} {m : MethodId} {args : Array Value} {below : List Frame} {meth : Method} {c : Code} {G : GT} {τ : Mem} {rec26 : Mem → Int → Int → Int → Int → Int → Int → Option (Mem)} (X : CX p R s m args meth c cX11_findFrom 15 RX11 none 3 102 G) (h26 : S_X11_findFrom_26 rec26 p l e R s m args below meth c G τ) : S_X11_findFrom_351 (X11_findFrom_B351 rec26) p l e R s m args below meth c G τ := by
  intro σ H locs ls l1 l2 l3 l4 l5 l6 hP hS hf hl
  unfold X11_findFrom_B351 at hf
  obtain ⟨l6_1, el6_1, hf⟩ := lt_inv hf
  refine lv_iinc (v := i32 l6_1) (lv' := [(6, .int (i32 l6_1)), (0, .ref (gh G + 111)), (1, .int (i32 l1)), (2, .int (i32 l2)), (3, .int (i32 l3)), (4, .int (i32 l4)), (5, .int (i32 l5))]) X.1 X.2.1 dX11_findFrom_351 hl (k := 6) rfl (by rw [← el6_1]; exact i32_add _ _) (by decide) rfl (fun ls hl => ?_)
  refine lv_goto (tgt := 26) X.1 X.2.1 dX11_findFrom_354 (by decide) ?_
  exact h26 σ H locs ls l1 l2 l3 l4 l5 l6_1 hP hS hf (lv_sub hl [1, 2, 3, 4, 5, 6, 0] rfl)
set_option maxHeartbeats 4000000 in
theorem a_X11_findFrom_345 {p : Program} {l : Launch} {e : Env} {R : Room} {s : State} {m : MethodId} {args : Array Value} {below : List Frame} {meth : Method} {c : Code} {G : GT} {τ : Mem} {rec26 : Mem → Int → Int → Int → Int → Int → Int → Option (Mem)} {rec155 : Mem → Int → Int → Int → Int → Int → Int → Int → Int → Int → Int → Int → Option (Mem)} (X : CX p R s m args meth c cX11_findFrom 15 RX11 none 3 102 G) (h26 : S_X11_findFrom_26 rec26 p l e R s m args below meth c G τ) (h155 : S_X11_findFrom_155 rec155 p l e R s m args below meth c G τ) : S_X11_findFrom_345 (X11_findFrom_B345 rec26 rec155) p l e R s m args below meth c G τ := by
  intro σ H locs ls l1 l2 l3 l4 l5 l6 l7 l8 l10 l11 l12 hP hS hf hl
  unfold X11_findFrom_B345 at hf
  obtain ⟨l12_1, el12_1, hf⟩ := lt_inv hf
  refine lv_iinc (v := i32 l12_1) (lv' := [(12, .int (i32 l12_1)), (0, .ref (gh G + 111)), (1, .int (i32 l1)), (2, .int (i32 l2)), (3, .int (i32 l3)), (4, .int (i32 l4)), (5, .int (i32 l5)), (6, .int (i32 l6)), (7, .int (i32 l7)), (8, .int (i32 l8)), (10, .int (i32 l10)), (11, .int (i32 l11))]) X.1 X.2.1 dX11_findFrom_345 hl (k := 11) rfl (by rw [← el12_1]; exact i32_add _ _) (by decide) rfl (fun ls hl => ?_)
  refine lv_goto (tgt := 155) X.1 X.2.1 dX11_findFrom_348 (by decide) ?_
  exact h155 σ H locs ls l1 l2 l3 l4 l5 l6 l7 l8 l10 l11 l12_1 hP hS hf (lv_sub hl [1, 2, 3, 4, 5, 6, 7, 8, 9, 10, 11, 0] rfl)
set_option maxHeartbeats 4000000 in
theorem a_X11_findFrom_290 {p : Program} {l : Launch} {e : Env} {R : Room} {s : State} {m : MethodId} {args : Array Value} {below : List Frame} {meth : Method} {c : Code} {G : GT} {τ : Mem} {rec26 : Mem → Int → Int → Int → Int → Int → Int → Option (Mem)} {rec155 : Mem → Int → Int → Int → Int → Int → Int → Int → Int → Int → Int → Int → Option (Mem)} (X : CX p R s m args meth c cX11_findFrom 15 RX11 none 3 102 G) (h26 : S_X11_findFrom_26 rec26 p l e R s m args below meth c G τ) (h155 : S_X11_findFrom_155 rec155 p l e R s m args below meth c G τ) : S_X11_findFrom_290 (X11_findFrom_B290 rec26 rec155) p l e R s m args below meth c G τ := by
  intro σ H locs ls l1 l2 l3 l4 l5 l6 l7 l8 l10 l11 l12 l13 k0 hP hS hf hl
  unfold X11_findFrom_B290 at hf
  refine lv_istore (lv' := [(14, .int (i32 k0)), (0, .ref (gh G + 111)), (1, .int (i32 l1)), (2, .int (i32 l2)), (3, .int (i32 l3)), (4, .int (i32 l4)), (5, .int (i32 l5)), (6, .int (i32 l6)), (7, .int (i32 l7)), (8, .int (i32 l8)), (10, .int (i32 l10)), (11, .int (i32 l11)), (12, .int (i32 l12)), (13, .int (i32 l13))]) X.1 X.2.1 dX11_findFrom_290 hl (by decide) rfl (fun ls hl => ?_)
  refine lv_iload X.1 X.2.1 dX11_findFrom_292 (lv_at hl 0 rfl) ?_
  refine r_if_ne (tgt := 300) X dX11_findFrom_294 (by decide) (fun q => ?_) (fun q => ?_)
  · replace hf := it_inv q hf
    refine lv_aload_n X.1 X.2.1 dX11_findFrom_300 rfl (lv_at hl 1 rfl) ?_
    refine g_11_18 (r := 121) X hP ks_11 rfl (tb t_1105 rfl) dX11_findFrom_301 ?_
    refine lv_iload X.1 X.2.1 dX11_findFrom_304 (lv_at hl 6 rfl) ?_
    refine lv_iload X.1 X.2.1 dX11_findFrom_306 (lv_at hl 10 rfl) ?_
    obtain ⟨j1, hij1, hjj1, hlj1, hf⟩ := ag_inv hf
    refine r_iast X hP hS (ch_11_18 ks_11).1 (ch_11_18 ks_11).2 hij1 hjj1 dX11_findFrom_308 (fun H locs hP hS => ?_)
    obtain ⟨s2, es2, hf⟩ := lt_inv hf
    rw [es2] at hP
    refine lv_aload_n X.1 X.2.1 dX11_findFrom_309 rfl (lv_at hl 1 rfl) ?_
    refine g_11_19 (r := 122) X hP ks_11 rfl (tb t_1106 rfl) dX11_findFrom_310 ?_
    refine lv_iload X.1 X.2.1 dX11_findFrom_313 (lv_at hl 6 rfl) ?_
    refine lv_iload X.1 X.2.1 dX11_findFrom_315 (lv_at hl 13 rfl) ?_
    obtain ⟨j3, hij3, hjj3, hlj3, hf⟩ := ag_inv hf
    refine r_iast X hP hS (ch_11_19 ks_11).1 (ch_11_19 ks_11).2 hij3 hjj3 dX11_findFrom_317 (fun H locs hP hS => ?_)
    obtain ⟨s4, es4, hf⟩ := lt_inv hf
    rw [es4] at hP
    refine lv_aload_n X.1 X.2.1 dX11_findFrom_318 rfl (lv_at hl 1 rfl) ?_
    refine g_11_20 (r := 123) X hP ks_11 rfl (tb t_1107 rfl) dX11_findFrom_319 ?_
    refine lv_iload X.1 X.2.1 dX11_findFrom_322 (lv_at hl 6 rfl) ?_
    refine lv_iload X.1 X.2.1 dX11_findFrom_324 (lv_at hl 11 rfl) ?_
    obtain ⟨j5, hij5, hjj5, hlj5, hf⟩ := ag_inv hf
    refine r_iast X hP hS (ch_11_20 ks_11).1 (ch_11_20 ks_11).2 hij5 hjj5 dX11_findFrom_326 (fun H locs hP hS => ?_)
    obtain ⟨s6, es6, hf⟩ := lt_inv hf
    rw [es6] at hP
    refine lv_aload_n X.1 X.2.1 dX11_findFrom_327 rfl (lv_at hl 1 rfl) ?_
    refine g_11_21 (r := 124) X hP ks_11 rfl (tb t_1108 rfl) dX11_findFrom_328 ?_
    refine lv_iload X.1 X.2.1 dX11_findFrom_331 (lv_at hl 6 rfl) ?_
    refine lv_iload X.1 X.2.1 dX11_findFrom_333 (lv_at hl 7 rfl) ?_
    obtain ⟨j7, hij7, hjj7, hlj7, hf⟩ := ag_inv hf
    refine r_iast X hP hS (ch_11_21 ks_11).1 (ch_11_21 ks_11).2 hij7 hjj7 dX11_findFrom_335 (fun H locs hP hS => ?_)
    obtain ⟨s8, es8, hf⟩ := lt_inv hf
    rw [es8] at hP
    refine lv_aload_n X.1 X.2.1 dX11_findFrom_336 rfl (lv_at hl 1 rfl) ?_
    refine g_11_22 (r := 125) X hP ks_11 rfl (tb t_1109 rfl) dX11_findFrom_337 ?_
    refine lv_iload X.1 X.2.1 dX11_findFrom_340 (lv_at hl 6 rfl) ?_
    refine lv_iload X.1 X.2.1 dX11_findFrom_342 (lv_at hl 12 rfl) ?_
    obtain ⟨j9, hij9, hjj9, hlj9, hf⟩ := ag_inv hf
    refine r_iast X hP hS (ch_11_22 ks_11).1 (ch_11_22 ks_11).2 hij9 hjj9 dX11_findFrom_344 (fun H locs hP hS => ?_)
    obtain ⟨s10, es10, hf⟩ := lt_inv hf
    rw [es10] at hP
    exact a_X11_findFrom_345 X h26 h155 s10 H locs ls l1 l2 l3 l4 l5 l6 l7 l8 l10 l11 l12 hP hS hf (lv_sub hl [1, 2, 3, 4, 5, 6, 7, 8, 9, 10, 11, 12] rfl)
  · replace hf := ie_inv q hf
    refine lv_goto (tgt := 345) X.1 X.2.1 dX11_findFrom_297 (by decide) ?_
    exact a_X11_findFrom_345 X h26 h155 σ H locs ls l1 l2 l3 l4 l5 l6 l7 l8 l10 l11 l12 hP hS hf (lv_sub hl [1, 2, 3, 4, 5, 6, 7, 8, 9, 10, 11, 12] rfl)
set_option maxHeartbeats 4000000 in
theorem a_X11_findFrom_289 {p : Program} {l : Launch} {e : Env} {R : Room} {s : State} {m : MethodId} {args : Array Value} {below : List Frame} {meth : Method} {c : Code} {G : GT} {τ : Mem} {rec26 : Mem → Int → Int → Int → Int → Int → Int → Option (Mem)} {rec155 : Mem → Int → Int → Int → Int → Int → Int → Int → Int → Int → Int → Int → Option (Mem)} (X : CX p R s m args meth c cX11_findFrom 15 RX11 none 3 102 G) (h26 : S_X11_findFrom_26 rec26 p l e R s m args below meth c G τ) (h155 : S_X11_findFrom_155 rec155 p l e R s m args below meth c G τ) : S_X11_findFrom_289 (X11_findFrom_B289 rec26 rec155) p l e R s m args below meth c G τ := by
  intro σ H locs ls l1 l2 l3 l4 l5 l6 l7 l8 l10 l11 l12 l13 hP hS hf hl
  unfold X11_findFrom_B289 at hf
  refine r_iconst X 0 dX11_findFrom_289 ?_
  exact a_X11_findFrom_290 X h26 h155 σ H locs ls l1 l2 l3 l4 l5 l6 l7 l8 l10 l11 l12 l13 0 hP hS hf hl
set_option maxHeartbeats 4000000 in
theorem a_X11_findFrom_285 {p : Program} {l : Launch} {e : Env} {R : Room} {s : State} {m : MethodId} {args : Array Value} {below : List Frame} {meth : Method} {c : Code} {G : GT} {τ : Mem} {rec26 : Mem → Int → Int → Int → Int → Int → Int → Option (Mem)} {rec155 : Mem → Int → Int → Int → Int → Int → Int → Int → Int → Int → Int → Int → Option (Mem)} (X : CX p R s m args meth c cX11_findFrom 15 RX11 none 3 102 G) (h26 : S_X11_findFrom_26 rec26 p l e R s m args below meth c G τ) (h155 : S_X11_findFrom_155 rec155 p l e R s m args below meth c G τ) : S_X11_findFrom_285 (X11_findFrom_B285 rec26 rec155) p l e R s m args below meth c G τ := by
  intro σ H locs ls l1 l2 l3 l4 l5 l6 l7 l8 l10 l11 l12 l13 hP hS hf hl
  unfold X11_findFrom_B285 at hf
  refine r_iconst X 1 dX11_findFrom_285 ?_
  refine lv_goto (tgt := 290) X.1 X.2.1 dX11_findFrom_286 (by decide) ?_
  exact a_X11_findFrom_290 X h26 h155 σ H locs ls l1 l2 l3 l4 l5 l6 l7 l8 l10 l11 l12 l13 1 hP hS hf hl
set_option maxHeartbeats 4000000 in
theorem a_X11_findFrom_211 {p : Program} {l : Launch} {e : Env} {R : Room} {s : State} {m : MethodId} {args : Array Value} {below : List Frame} {meth : Method} {c : Code} {G : GT} {τ : Mem} {rec26 : Mem → Int → Int → Int → Int → Int → Int → Option (Mem)} {rec155 : Mem → Int → Int → Int → Int → Int → Int → Int → Int → Int → Int → Int → Option (Mem)} (X : CX p R s m args meth c cX11_findFrom 15 RX11 none 3 102 G) (h26 : S_X11_findFrom_26 rec26 p l e R s m args below meth c G τ) (h155 : S_X11_findFrom_155 rec155 p l e R s m args below meth c G τ) : S_X11_findFrom_211 (X11_findFrom_B211 rec26 rec155) p l e R s m args below meth c G τ := by
  intro σ H locs ls l1 l2 l3 l4 l5 l6 l7 l8 l10 l11 l12 k0 k1 k2 hP hS hf hl
  unfold X11_findFrom_B211 at hf
  refine r_iadd X dX11_findFrom_211 ?_
  refine r_iadd X dX11_findFrom_212 ?_
  obtain ⟨l13_1, el13_1, hf⟩ := lt_inv hf
  refine r_eqi el13_1 ?_
  refine lv_istore (lv' := [(13, .int (i32 l13_1)), (0, .ref (gh G + 111)), (1, .int (i32 l1)), (2, .int (i32 l2)), (3, .int (i32 l3)), (4, .int (i32 l4)), (5, .int (i32 l5)), (6, .int (i32 l6)), (7, .int (i32 l7)), (8, .int (i32 l8)), (10, .int (i32 l10)), (11, .int (i32 l11)), (12, .int (i32 l12))]) X.1 X.2.1 dX11_findFrom_213 hl (by decide) rfl (fun ls hl => ?_)
  refine lv_aload_n X.1 X.2.1 dX11_findFrom_215 rfl (lv_at hl 1 rfl) ?_
  refine g_11_21 (r := 124) X hP ks_11 rfl (tb t_1108 rfl) dX11_findFrom_216 ?_
  refine lv_iload X.1 X.2.1 dX11_findFrom_219 (lv_at hl 6 rfl) ?_
  obtain ⟨j2, hij2, hjj2, hlj2, hf⟩ := ag_inv hf
  refine r_iald X hP (ch_11_21 ks_11).1 (ch_11_21 ks_11).2 hij2 hjj2 dX11_findFrom_221 ?_
  refine r_if_lt (tgt := 285) X dX11_findFrom_222 (by decide) (fun q => ?_) (fun q => ?_)
  · replace hf := it_inv q hf
    exact a_X11_findFrom_285 X h26 h155 σ H locs ls l1 l2 l3 l4 l5 l6 l7 l8 l10 l11 l12 l13_1 hP hS hf (lv_sub hl [1, 2, 3, 4, 5, 6, 7, 8, 9, 10, 11, 12, 0] rfl)
  · replace hf := ie_inv q hf
    refine lv_iload X.1 X.2.1 dX11_findFrom_225 (lv_at hl 10 rfl) ?_
    refine lv_aload_n X.1 X.2.1 dX11_findFrom_227 rfl (lv_at hl 1 rfl) ?_
    refine g_11_18 (r := 121) X hP ks_11 rfl (tb t_1105 rfl) dX11_findFrom_228 ?_
    refine lv_iload X.1 X.2.1 dX11_findFrom_231 (lv_at hl 6 rfl) ?_
    obtain ⟨j3, hij3, hjj3, hlj3, hf⟩ := ag_inv hf
    refine r_iald X hP (ch_11_18 ks_11).1 (ch_11_18 ks_11).2 hij3 hjj3 dX11_findFrom_233 ?_
    refine r_icmp_lt (tgt := 285) X dX11_findFrom_234 (by decide) (fun q => ?_) (fun q => ?_)
    · replace hf := it_inv q hf
      exact a_X11_findFrom_285 X h26 h155 σ H locs ls l1 l2 l3 l4 l5 l6 l7 l8 l10 l11 l12 l13_1 hP hS hf (lv_sub hl [1, 2, 3, 4, 5, 6, 7, 8, 9, 10, 11, 12, 0] rfl)
    · replace hf := ie_inv q hf
      refine lv_iload X.1 X.2.1 dX11_findFrom_237 (lv_at hl 10 rfl) ?_
      refine lv_aload_n X.1 X.2.1 dX11_findFrom_239 rfl (lv_at hl 1 rfl) ?_
      refine g_11_18 (r := 121) X hP ks_11 rfl (tb t_1105 rfl) dX11_findFrom_240 ?_
      refine lv_iload X.1 X.2.1 dX11_findFrom_243 (lv_at hl 6 rfl) ?_
      obtain ⟨j4, hij4, hjj4, hlj4, hf⟩ := ag_inv hf
      refine r_iald X hP (ch_11_18 ks_11).1 (ch_11_18 ks_11).2 hij4 hjj4 dX11_findFrom_245 ?_
      refine r_icmp_ne (tgt := 289) X dX11_findFrom_246 (by decide) (fun q => ?_) (fun q => ?_)
      · replace hf := it_inv q hf
        exact a_X11_findFrom_289 X h26 h155 σ H locs ls l1 l2 l3 l4 l5 l6 l7 l8 l10 l11 l12 l13_1 hP hS hf (lv_sub hl [1, 2, 3, 4, 5, 6, 7, 8, 9, 10, 11, 12, 0] rfl)
      · replace hf := ie_inv q hf
        refine lv_iload X.1 X.2.1 dX11_findFrom_249 (lv_at hl 0 rfl) ?_
        refine lv_aload_n X.1 X.2.1 dX11_findFrom_251 rfl (lv_at hl 1 rfl) ?_
        refine g_11_19 (r := 122) X hP ks_11 rfl (tb t_1106 rfl) dX11_findFrom_252 ?_
        refine lv_iload X.1 X.2.1 dX11_findFrom_255 (lv_at hl 6 rfl) ?_
        obtain ⟨j5, hij5, hjj5, hlj5, hf⟩ := ag_inv hf
        refine r_iald X hP (ch_11_19 ks_11).1 (ch_11_19 ks_11).2 hij5 hjj5 dX11_findFrom_257 ?_
        refine r_icmp_lt (tgt := 285) X dX11_findFrom_258 (by decide) (fun q => ?_) (fun q => ?_)
        · replace hf := it_inv q hf
          exact a_X11_findFrom_285 X h26 h155 σ H locs ls l1 l2 l3 l4 l5 l6 l7 l8 l10 l11 l12 l13_1 hP hS hf (lv_sub hl [1, 2, 3, 4, 5, 6, 7, 8, 9, 10, 11, 12, 0] rfl)
        · replace hf := ie_inv q hf
          refine lv_iload X.1 X.2.1 dX11_findFrom_261 (lv_at hl 0 rfl) ?_
          refine lv_aload_n X.1 X.2.1 dX11_findFrom_263 rfl (lv_at hl 1 rfl) ?_
          refine g_11_19 (r := 122) X hP ks_11 rfl (tb t_1106 rfl) dX11_findFrom_264 ?_
          refine lv_iload X.1 X.2.1 dX11_findFrom_267 (lv_at hl 6 rfl) ?_
          obtain ⟨j6, hij6, hjj6, hlj6, hf⟩ := ag_inv hf
          refine r_iald X hP (ch_11_19 ks_11).1 (ch_11_19 ks_11).2 hij6 hjj6 dX11_findFrom_269 ?_
          refine r_icmp_ne (tgt := 289) X dX11_findFrom_270 (by decide) (fun q => ?_) (fun q => ?_)
          · replace hf := it_inv q hf
            exact a_X11_findFrom_289 X h26 h155 σ H locs ls l1 l2 l3 l4 l5 l6 l7 l8 l10 l11 l12 l13_1 hP hS hf (lv_sub hl [1, 2, 3, 4, 5, 6, 7, 8, 9, 10, 11, 12, 0] rfl)
          · replace hf := ie_inv q hf
            refine lv_iload X.1 X.2.1 dX11_findFrom_273 (lv_at hl 11 rfl) ?_
            refine lv_aload_n X.1 X.2.1 dX11_findFrom_275 rfl (lv_at hl 1 rfl) ?_
            refine g_11_20 (r := 123) X hP ks_11 rfl (tb t_1107 rfl) dX11_findFrom_276 ?_
            refine lv_iload X.1 X.2.1 dX11_findFrom_279 (lv_at hl 6 rfl) ?_
            obtain ⟨j7, hij7, hjj7, hlj7, hf⟩ := ag_inv hf
            refine r_iald X hP (ch_11_20 ks_11).1 (ch_11_20 ks_11).2 hij7 hjj7 dX11_findFrom_281 ?_
            refine r_icmp_ge (tgt := 289) X dX11_findFrom_282 (by decide) (fun q => ?_) (fun q => ?_)
            · replace hf := it_inv q hf
              exact a_X11_findFrom_289 X h26 h155 σ H locs ls l1 l2 l3 l4 l5 l6 l7 l8 l10 l11 l12 l13_1 hP hS hf (lv_sub hl [1, 2, 3, 4, 5, 6, 7, 8, 9, 10, 11, 12, 0] rfl)
            · replace hf := ie_inv q hf
              exact a_X11_findFrom_285 X h26 h155 σ H locs ls l1 l2 l3 l4 l5 l6 l7 l8 l10 l11 l12 l13_1 hP hS hf (lv_sub hl [1, 2, 3, 4, 5, 6, 7, 8, 9, 10, 11, 12, 0] rfl)
set_option maxHeartbeats 4000000 in
theorem a_X11_findFrom_155 {p : Program} {l : Launch} {e : Env} {R : Room} {s : State} {m : MethodId} {args : Array Value} {below : List Frame} {meth : Method} {c : Code} {G : GT} {τ : Mem} {rec26 : Mem → Int → Int → Int → Int → Int → Int → Option (Mem)} {rec155 : Mem → Int → Int → Int → Int → Int → Int → Int → Int → Int → Int → Int → Option (Mem)} (X : CX p R s m args meth c cX11_findFrom 15 RX11 none 3 102 G) (h26 : S_X11_findFrom_26 rec26 p l e R s m args below meth c G τ) (h155 : S_X11_findFrom_155 rec155 p l e R s m args below meth c G τ) : S_X11_findFrom_155 (X11_findFrom_B155 rec26 rec155) p l e R s m args below meth c G τ := by
  intro σ H locs ls l1 l2 l3 l4 l5 l6 l7 l8 l10 l11 l12 hP hS hf hl
  unfold X11_findFrom_B155 at hf
  refine lv_iload X.1 X.2.1 dX11_findFrom_155 (lv_at hl 11 rfl) ?_
  refine r_iconst X 3 dX11_findFrom_157 ?_
  refine r_icmp_ge (tgt := 351) X dX11_findFrom_158 (by decide) (fun q => ?_) (fun q => ?_)
  · replace hf := it_inv q hf
    exact a_X11_findFrom_351 X h26 σ H locs ls l1 l2 l3 l4 l5 l6 hP hS hf (lv_sub hl [0, 1, 2, 3, 4, 5, 6] rfl)
  · replace hf := ie_inv q hf
    refine lv_aload_n X.1 X.2.1 dX11_findFrom_161 rfl (lv_at hl 0 rfl) ?_
    refine g_11_15 (r := 118) X hP ks_11 rfl (tb t_1102 rfl) dX11_findFrom_162 ?_
    refine lv_iload X.1 X.2.1 dX11_findFrom_165 (lv_at hl 11 rfl) ?_
    refine lv_iload_n X.1 X.2.1 dX11_findFrom_167 rfl (lv_at hl 3 rfl) ?_
    refine lv_iload X.1 X.2.1 dX11_findFrom_168 (lv_at hl 6 rfl) ?_
    obtain ⟨r1, hr1, hf⟩ := bd_inv hf
    refine k_X11_cell X hP hS hl.1  hr1 (tb t_1381 rfl) (by decide) (Nat.le_of_ble_eq_true rfl) dX11_findFrom_170 (fun H locs hP hS => ?_)
    obtain ⟨j2, hij2, hjj2, hlj2, hf⟩ := ag_inv hf
    refine r_iald X hP (ch_11_15 ks_11).1 (ch_11_15 ks_11).2 hij2 hjj2 dX11_findFrom_173 ?_
    obtain ⟨l13_3, el13_3, hf⟩ := lt_inv hf
    refine r_eqi el13_3 ?_
    refine lv_istore (lv' := [(13, .int (i32 l13_3)), (0, .ref (gh G + 111)), (1, .int (i32 l1)), (2, .int (i32 l2)), (3, .int (i32 l3)), (4, .int (i32 l4)), (5, .int (i32 l5)), (6, .int (i32 l6)), (7, .int (i32 l7)), (8, .int (i32 l8)), (10, .int (i32 l10)), (11, .int (i32 l11)), (12, .int (i32 l12))]) X.1 X.2.1 dX11_findFrom_174 hl (by decide) rfl (fun ls hl => ?_)
    refine lv_iload X.1 X.2.1 dX11_findFrom_176 (lv_at hl 0 rfl) ?_
    refine r_ldcw X 1000000000 (tb t_1384 rfl) (by decide) dX11_findFrom_178 ?_
    refine r_icmp_ne (tgt := 187) X dX11_findFrom_181 (by decide) (fun q => ?_) (fun q => ?_)
    · replace hf := it_inv q hf
      refine lv_iload X.1 X.2.1 dX11_findFrom_187 (lv_at hl 0 rfl) ?_
      refine lv_aload_n X.1 X.2.1 dX11_findFrom_189 rfl (lv_at hl 1 rfl) ?_
      refine g_11_0 (r := 112) X hP ks_11 rfl (tb t_1087 rfl) dX11_findFrom_190 ?_
      refine r_iconst X 4 dX11_findFrom_193 ?_
      obtain ⟨j4, hij4, hjj4, hlj4, hf⟩ := ag_inv hf
      refine r_iald X hP (ch_11_0 ks_11).1 (ch_11_0 ks_11).2 hij4 hjj4 dX11_findFrom_194 ?_
      refine lv_iload X.1 X.2.1 dX11_findFrom_195 (lv_at hl 9 rfl) ?_
      refine r_if_eq (tgt := 204) X dX11_findFrom_197 (by decide) (fun q => ?_) (fun q => ?_)
      · replace hf := it_inv q hf
        refine lv_aload_n X.1 X.2.1 dX11_findFrom_204 rfl (lv_at hl 1 rfl) ?_
        refine g_11_19 (r := 122) X hP ks_11 rfl (tb t_1106 rfl) dX11_findFrom_205 ?_
        refine lv_iload X.1 X.2.1 dX11_findFrom_208 (lv_at hl 8 rfl) ?_
        obtain ⟨j5, hij5, hjj5, hlj5, hf⟩ := ag_inv hf
        refine r_iald X hP (ch_11_19 ks_11).1 (ch_11_19 ks_11).2 hij5 hjj5 dX11_findFrom_210 ?_
        exact a_X11_findFrom_211 X h26 h155 σ H locs ls l1 l2 l3 l4 l5 l6 l7 l8 l10 l11 l12 l13_3 (σ 112 j4) (σ 122 j5) hP hS hf (lv_sub hl [1, 2, 3, 4, 5, 6, 7, 8, 9, 10, 11, 12] rfl)
      · replace hf := ie_inv q hf
        refine r_iconst X 0 dX11_findFrom_200 ?_
        refine lv_goto (tgt := 211) X.1 X.2.1 dX11_findFrom_201 (by decide) ?_
        exact a_X11_findFrom_211 X h26 h155 σ H locs ls l1 l2 l3 l4 l5 l6 l7 l8 l10 l11 l12 l13_3 (σ 112 j4) 0 hP hS hf (lv_sub hl [1, 2, 3, 4, 5, 6, 7, 8, 9, 10, 11, 12] rfl)
    · replace hf := ie_inv q hf
      refine lv_goto (tgt := 345) X.1 X.2.1 dX11_findFrom_184 (by decide) ?_
      exact a_X11_findFrom_345 X h26 h155 σ H locs ls l1 l2 l3 l4 l5 l6 l7 l8 l10 l11 l12 hP hS hf (lv_sub hl [1, 2, 3, 4, 5, 6, 7, 8, 9, 10, 11, 12] rfl)
theorem al_X11_findFrom_155 {p : Program} {l : Launch} {e : Env} {R : Room} {s : State} {m : MethodId} {args : Array Value} {below : List Frame} {meth : Method} {c : Code} {G : GT} {τ : Mem} {rec26 : Mem → Int → Int → Int → Int → Int → Int → Option (Mem)} (X : CX p R s m args meth c cX11_findFrom 15 RX11 none 3 102 G) (h26 : S_X11_findFrom_26 rec26 p l e R s m args below meth c G τ) : ∀ n, S_X11_findFrom_155 (X11_findFrom_L155 rec26 n) p l e R s m args below meth c G τ := by
  intro n
  induction n with
  | zero =>
    intro σ H locs ls l1 l2 l3 l4 l5 l6 l7 l8 l10 l11 l12 hP hS hf hl
    cases hf
  | succ n ih => exact a_X11_findFrom_155 X h26 ih
set_option maxHeartbeats 4000000 in
theorem a_X11_findFrom_150 {p : Program} {l : Launch} {e : Env} {R : Room} {s : State} {m : MethodId} {args : Array Value} {below : List Frame} {meth : Method} {c : Code} {G : GT} {τ : Mem} {rec26 : Mem → Int → Int → Int → Int → Int → Int → Option (Mem)} (X : CX p R s m args meth c cX11_findFrom 15 RX11 none 3 102 G) (h26 : S_X11_findFrom_26 rec26 p l e R s m args below meth c G τ) : S_X11_findFrom_150 (X11_findFrom_B150 rec26) p l e R s m args below meth c G τ := by
  intro σ H locs ls l1 l2 l3 l4 l5 l6 l7 l8 l10 k0 hP hS hf hl
  unfold X11_findFrom_B150 at hf
  refine lv_istore (lv' := [(11, .int (i32 k0)), (0, .ref (gh G + 111)), (1, .int (i32 l1)), (2, .int (i32 l2)), (3, .int (i32 l3)), (4, .int (i32 l4)), (5, .int (i32 l5)), (6, .int (i32 l6)), (7, .int (i32 l7)), (8, .int (i32 l8)), (10, .int (i32 l10))]) X.1 X.2.1 dX11_findFrom_150 hl (by decide) rfl (fun ls hl => ?_)
  refine r_iconst X 0 dX11_findFrom_152 ?_
  refine lv_istore (lv' := [(12, .int (i32 0)), (11, .int (i32 k0)), (0, .ref (gh G + 111)), (1, .int (i32 l1)), (2, .int (i32 l2)), (3, .int (i32 l3)), (4, .int (i32 l4)), (5, .int (i32 l5)), (6, .int (i32 l6)), (7, .int (i32 l7)), (8, .int (i32 l8)), (10, .int (i32 l10))]) X.1 X.2.1 dX11_findFrom_153 hl (by decide) rfl (fun ls hl => ?_)
  exact al_X11_findFrom_155 X h26 5000 σ H locs ls l1 l2 l3 l4 l5 l6 l7 l8 l10 k0 0 hP hS hf (lv_sub hl [2, 3, 4, 5, 6, 7, 8, 9, 10, 11, 1, 0] rfl)
set_option maxHeartbeats 4000000 in
theorem a_X11_findFrom_130 {p : Program} {l : Launch} {e : Env} {R : Room} {s : State} {m : MethodId} {args : Array Value} {below : List Frame} {meth : Method} {c : Code} {G : GT} {τ : Mem} {rec26 : Mem → Int → Int → Int → Int → Int → Int → Option (Mem)} (X : CX p R s m args meth c cX11_findFrom 15 RX11 none 3 102 G) (h26 : S_X11_findFrom_26 rec26 p l e R s m args below meth c G τ) : S_X11_findFrom_130 (X11_findFrom_B130 rec26) p l e R s m args below meth c G τ := by
  intro σ H locs ls l1 l2 l3 l4 l5 l6 l7 l8 k0 hP hS hf hl
  unfold X11_findFrom_B130 at hf
  refine lv_istore (lv' := [(10, .int (i32 k0)), (0, .ref (gh G + 111)), (1, .int (i32 l1)), (2, .int (i32 l2)), (3, .int (i32 l3)), (4, .int (i32 l4)), (5, .int (i32 l5)), (6, .int (i32 l6)), (7, .int (i32 l7)), (8, .int (i32 l8))]) X.1 X.2.1 dX11_findFrom_130 hl (by decide) rfl (fun ls hl => ?_)
  refine lv_iload X.1 X.2.1 dX11_findFrom_132 (lv_at hl 9 rfl) ?_
  refine r_if_eq (tgt := 141) X dX11_findFrom_134 (by decide) (fun q => ?_) (fun q => ?_)
  · replace hf := it_inv q hf
    refine r_iconst X 1 dX11_findFrom_141 ?_
    refine lv_aload_n X.1 X.2.1 dX11_findFrom_142 rfl (lv_at hl 1 rfl) ?_
    refine g_11_20 (r := 123) X hP ks_11 rfl (tb t_1107 rfl) dX11_findFrom_143 ?_
    refine lv_iload X.1 X.2.1 dX11_findFrom_146 (lv_at hl 8 rfl) ?_
    obtain ⟨j1, hij1, hjj1, hlj1, hf⟩ := ag_inv hf
    refine r_iald X hP (ch_11_20 ks_11).1 (ch_11_20 ks_11).2 hij1 hjj1 dX11_findFrom_148 ?_
    refine r_iadd X dX11_findFrom_149 ?_
    exact a_X11_findFrom_150 X h26 σ H locs ls l1 l2 l3 l4 l5 l6 l7 l8 k0 (1 + (σ 123 j1)) hP hS hf (lv_sub hl [1, 2, 3, 4, 5, 6, 7, 8, 9, 0] rfl)
  · replace hf := ie_inv q hf
    refine r_iconst X 1 dX11_findFrom_137 ?_
    refine lv_goto (tgt := 150) X.1 X.2.1 dX11_findFrom_138 (by decide) ?_
    exact a_X11_findFrom_150 X h26 σ H locs ls l1 l2 l3 l4 l5 l6 l7 l8 k0 1 hP hS hf (lv_sub hl [1, 2, 3, 4, 5, 6, 7, 8, 9, 0] rfl)
set_option maxHeartbeats 4000000 in
theorem a_X11_findFrom_109 {p : Program} {l : Launch} {e : Env} {R : Room} {s : State} {m : MethodId} {args : Array Value} {below : List Frame} {meth : Method} {c : Code} {G : GT} {τ : Mem} {rec26 : Mem → Int → Int → Int → Int → Int → Int → Option (Mem)} (X : CX p R s m args meth c cX11_findFrom 15 RX11 none 3 102 G) (h26 : S_X11_findFrom_26 rec26 p l e R s m args below meth c G τ) : S_X11_findFrom_109 (X11_findFrom_B109 rec26) p l e R s m args below meth c G τ := by
  intro σ H locs ls l1 l2 l3 l4 l5 l6 l7 l8 k0 hP hS hf hl
  unfold X11_findFrom_B109 at hf
  refine lv_istore (lv' := [(9, .int (i32 k0)), (0, .ref (gh G + 111)), (1, .int (i32 l1)), (2, .int (i32 l2)), (3, .int (i32 l3)), (4, .int (i32 l4)), (5, .int (i32 l5)), (6, .int (i32 l6)), (7, .int (i32 l7)), (8, .int (i32 l8))]) X.1 X.2.1 dX11_findFrom_109 hl (by decide) rfl (fun ls hl => ?_)
  refine lv_iload X.1 X.2.1 dX11_findFrom_111 (lv_at hl 9 rfl) ?_
  refine r_if_eq (tgt := 120) X dX11_findFrom_113 (by decide) (fun q => ?_) (fun q => ?_)
  · replace hf := it_inv q hf
    refine lv_iload X.1 X.2.1 dX11_findFrom_120 (lv_at hl 0 rfl) ?_
    refine lv_aload_n X.1 X.2.1 dX11_findFrom_122 rfl (lv_at hl 1 rfl) ?_
    refine g_11_18 (r := 121) X hP ks_11 rfl (tb t_1105 rfl) dX11_findFrom_123 ?_
    refine lv_iload X.1 X.2.1 dX11_findFrom_126 (lv_at hl 8 rfl) ?_
    obtain ⟨j1, hij1, hjj1, hlj1, hf⟩ := ag_inv hf
    refine r_iald X hP (ch_11_18 ks_11).1 (ch_11_18 ks_11).2 hij1 hjj1 dX11_findFrom_128 ?_
    refine r_iadd X dX11_findFrom_129 ?_
    exact a_X11_findFrom_130 X h26 σ H locs ls l1 l2 l3 l4 l5 l6 l7 l8 (k0 + (σ 121 j1)) hP hS hf (lv_sub hl [1, 2, 3, 4, 5, 6, 7, 8, 9] rfl)
  · replace hf := ie_inv q hf
    refine r_iconst X 0 dX11_findFrom_116 ?_
    refine lv_goto (tgt := 130) X.1 X.2.1 dX11_findFrom_117 (by decide) ?_
    exact a_X11_findFrom_130 X h26 σ H locs ls l1 l2 l3 l4 l5 l6 l7 l8 0 hP hS hf (lv_sub hl [1, 2, 3, 4, 5, 6, 7, 8, 9] rfl)
set_option maxHeartbeats 4000000 in
theorem a_X11_findFrom_108 {p : Program} {l : Launch} {e : Env} {R : Room} {s : State} {m : MethodId} {args : Array Value} {below : List Frame} {meth : Method} {c : Code} {G : GT} {τ : Mem} {rec26 : Mem → Int → Int → Int → Int → Int → Int → Option (Mem)} (X : CX p R s m args meth c cX11_findFrom 15 RX11 none 3 102 G) (h26 : S_X11_findFrom_26 rec26 p l e R s m args below meth c G τ) : S_X11_findFrom_108 (X11_findFrom_B108 rec26) p l e R s m args below meth c G τ := by
  intro σ H locs ls l1 l2 l3 l4 l5 l6 l7 l8 hP hS hf hl
  unfold X11_findFrom_B108 at hf
  refine r_iconst X 0 dX11_findFrom_108 ?_
  exact a_X11_findFrom_109 X h26 σ H locs ls l1 l2 l3 l4 l5 l6 l7 l8 0 hP hS hf hl
set_option maxHeartbeats 4000000 in
theorem a_X11_findFrom_80 {p : Program} {l : Launch} {e : Env} {R : Room} {s : State} {m : MethodId} {args : Array Value} {below : List Frame} {meth : Method} {c : Code} {G : GT} {τ : Mem} {rec26 : Mem → Int → Int → Int → Int → Int → Int → Option (Mem)} (X : CX p R s m args meth c cX11_findFrom 15 RX11 none 3 102 G) (h26 : S_X11_findFrom_26 rec26 p l e R s m args below meth c G τ) : S_X11_findFrom_80 (X11_findFrom_B80 rec26) p l e R s m args below meth c G τ := by
  intro σ H locs ls l1 l2 l3 l4 l5 l6 l7 l8 hP hS hf hl
  unfold X11_findFrom_B80 at hf
  refine lv_iload X.1 X.2.1 dX11_findFrom_80 (lv_at hl 8 rfl) ?_
  refine r_if_ne (tgt := 108) X dX11_findFrom_82 (by decide) (fun q => ?_) (fun q => ?_)
  · replace hf := it_inv q hf
    exact a_X11_findFrom_108 X h26 σ H locs ls l1 l2 l3 l4 l5 l6 l7 l8 hP hS hf hl
  · replace hf := ie_inv q hf
    refine lv_aload_n X.1 X.2.1 dX11_findFrom_85 rfl (lv_at hl 0 rfl) ?_
    refine lv_iload_n X.1 X.2.1 dX11_findFrom_86 rfl (lv_at hl 1 rfl) ?_
    refine lv_iload_n X.1 X.2.1 dX11_findFrom_87 rfl (lv_at hl 2 rfl) ?_
    obtain ⟨r1, hr1, hf⟩ := bd_inv hf
    refine k_X11_isTurn X hP hS hl.1  hr1 (tb t_1417 rfl) (by decide) (Nat.le_of_ble_eq_true rfl) dX11_findFrom_88 (fun H locs hP hS => ?_)
    refine r_if_eq (tgt := 108) X dX11_findFrom_91 (by decide) (fun q => ?_) (fun q => ?_)
    · replace hf := it_inv q hf
      exact a_X11_findFrom_108 X h26 σ H locs ls l1 l2 l3 l4 l5 l6 l7 l8 hP hS hf hl
    · replace hf := ie_inv q hf
      refine lv_aload_n X.1 X.2.1 dX11_findFrom_94 rfl (lv_at hl 0 rfl) ?_
      refine g_11_17 (r := 120) X hP ks_11 rfl (tb t_1104 rfl) dX11_findFrom_95 ?_
      refine lv_iload X.1 X.2.1 dX11_findFrom_98 (lv_at hl 6 rfl) ?_
      obtain ⟨j2, hij2, hjj2, hlj2, hf⟩ := ag_inv hf
      refine r_zald X hP (ch_11_17 ks_11).1 (ch_11_17 ks_11).2 hij2 hjj2 dX11_findFrom_100 ?_
      refine r_if_eq (tgt := 108) X dX11_findFrom_101 (by decide) (fun q => ?_) (fun q => ?_)
      · replace hf := it_inv q hf
        exact a_X11_findFrom_108 X h26 σ H locs ls l1 l2 l3 l4 l5 l6 l7 l8 hP hS hf hl
      · replace hf := ie_inv q hf
        refine r_iconst X 1 dX11_findFrom_104 ?_
        refine lv_goto (tgt := 109) X.1 X.2.1 dX11_findFrom_105 (by decide) ?_
        exact a_X11_findFrom_109 X h26 σ H locs ls l1 l2 l3 l4 l5 l6 l7 l8 1 hP hS hf hl
set_option maxHeartbeats 4000000 in
theorem a_X11_findFrom_60 {p : Program} {l : Launch} {e : Env} {R : Room} {s : State} {m : MethodId} {args : Array Value} {below : List Frame} {meth : Method} {c : Code} {G : GT} {τ : Mem} {rec26 : Mem → Int → Int → Int → Int → Int → Int → Option (Mem)} (X : CX p R s m args meth c cX11_findFrom 15 RX11 none 3 102 G) (h26 : S_X11_findFrom_26 rec26 p l e R s m args below meth c G τ) : S_X11_findFrom_60 (X11_findFrom_B60 rec26) p l e R s m args below meth c G τ := by
  intro σ H locs ls l1 l2 l3 l4 l5 l6 l7 k0 hP hS hf hl
  unfold X11_findFrom_B60 at hf
  refine lv_istore (lv' := [(8, .int (i32 k0)), (0, .ref (gh G + 111)), (1, .int (i32 l1)), (2, .int (i32 l2)), (3, .int (i32 l3)), (4, .int (i32 l4)), (5, .int (i32 l5)), (6, .int (i32 l6)), (7, .int (i32 l7))]) X.1 X.2.1 dX11_findFrom_60 hl (by decide) rfl (fun ls hl => ?_)
  refine lv_iload X.1 X.2.1 dX11_findFrom_62 (lv_at hl 0 rfl) ?_
  refine r_if_ne (tgt := 80) X dX11_findFrom_64 (by decide) (fun q => ?_) (fun q => ?_)
  · replace hf := it_inv q hf
    exact a_X11_findFrom_80 X h26 σ H locs ls l1 l2 l3 l4 l5 l6 l7 k0 hP hS hf (lv_sub hl [1, 2, 3, 4, 5, 6, 7, 8, 0] rfl)
  · replace hf := ie_inv q hf
    refine lv_aload_n X.1 X.2.1 dX11_findFrom_67 rfl (lv_at hl 1 rfl) ?_
    refine g_11_21 (r := 124) X hP ks_11 rfl (tb t_1108 rfl) dX11_findFrom_68 ?_
    refine lv_iload X.1 X.2.1 dX11_findFrom_71 (lv_at hl 8 rfl) ?_
    obtain ⟨j1, hij1, hjj1, hlj1, hf⟩ := ag_inv hf
    refine r_iald X hP (ch_11_21 ks_11).1 (ch_11_21 ks_11).2 hij1 hjj1 dX11_findFrom_73 ?_
    refine r_if_ge (tgt := 80) X dX11_findFrom_74 (by decide) (fun q => ?_) (fun q => ?_)
    · replace hf := it_inv q hf
      exact a_X11_findFrom_80 X h26 σ H locs ls l1 l2 l3 l4 l5 l6 l7 k0 hP hS hf (lv_sub hl [1, 2, 3, 4, 5, 6, 7, 8, 0] rfl)
    · replace hf := ie_inv q hf
      refine lv_goto (tgt := 351) X.1 X.2.1 dX11_findFrom_77 (by decide) ?_
      exact a_X11_findFrom_351 X h26 σ H locs ls l1 l2 l3 l4 l5 l6 hP hS hf (lv_sub hl [1, 2, 3, 4, 5, 6, 7] rfl)
set_option maxHeartbeats 4000000 in
theorem a_X11_findFrom_26 {p : Program} {l : Launch} {e : Env} {R : Room} {s : State} {m : MethodId} {args : Array Value} {below : List Frame} {meth : Method} {c : Code} {G : GT} {τ : Mem} {rec26 : Mem → Int → Int → Int → Int → Int → Int → Option (Mem)} (X : CX p R s m args meth c cX11_findFrom 15 RX11 none 3 102 G) (h26 : S_X11_findFrom_26 rec26 p l e R s m args below meth c G τ) : S_X11_findFrom_26 (X11_findFrom_B26 rec26) p l e R s m args below meth c G τ := by
  intro σ H locs ls l1 l2 l3 l4 l5 l6 hP hS hf hl
  unfold X11_findFrom_B26 at hf
  refine lv_iload X.1 X.2.1 dX11_findFrom_26 (lv_at hl 6 rfl) ?_
  refine lv_iload X.1 X.2.1 dX11_findFrom_28 (lv_at hl 4 rfl) ?_
  refine r_icmp_ge (tgt := 357) X dX11_findFrom_30 (by decide) (fun q => ?_) (fun q => ?_)
  · replace hf := it_inv q hf
    cases so_inv hf
    exact r_vret X hP hS dX11_findFrom_357
  · replace hf := ie_inv q hf
    refine r_bipush X 41 (by decide) dX11_findFrom_33 ?_
    refine lv_iload_n X.1 X.2.1 dX11_findFrom_35 rfl (lv_at hl 2 rfl) ?_
    refine r_iconst X 1 dX11_findFrom_36 ?_
    refine r_iadd X dX11_findFrom_37 ?_
    refine r_imul X dX11_findFrom_38 ?_
    refine lv_iload X.1 X.2.1 dX11_findFrom_39 (lv_at hl 6 rfl) ?_
    refine r_iadd X dX11_findFrom_41 ?_
    refine r_iconst X 1 dX11_findFrom_42 ?_
    refine r_iadd X dX11_findFrom_43 ?_
    obtain ⟨l7_1, el7_1, hf⟩ := lt_inv hf
    refine r_eqi el7_1 ?_
    refine lv_istore (lv' := [(7, .int (i32 l7_1)), (0, .ref (gh G + 111)), (1, .int (i32 l1)), (2, .int (i32 l2)), (3, .int (i32 l3)), (4, .int (i32 l4)), (5, .int (i32 l5)), (6, .int (i32 l6))]) X.1 X.2.1 dX11_findFrom_44 hl (by decide) rfl (fun ls hl => ?_)
    refine lv_iload X.1 X.2.1 dX11_findFrom_46 (lv_at hl 7 rfl) ?_
    refine lv_iload X.1 X.2.1 dX11_findFrom_48 (lv_at hl 5 rfl) ?_
    refine r_iconst X 1 dX11_findFrom_50 ?_
    refine r_isub X dX11_findFrom_51 ?_
    refine r_icmp_ne (tgt := 59) X dX11_findFrom_52 (by decide) (fun q => ?_) (fun q => ?_)
    · replace hf := it_inv q hf
      refine r_iconst X 0 dX11_findFrom_59 ?_
      exact a_X11_findFrom_60 X h26 σ H locs ls l1 l2 l3 l4 l5 l6 l7_1 0 hP hS hf (lv_sub hl [1, 2, 3, 4, 5, 6, 7, 0] rfl)
    · replace hf := ie_inv q hf
      refine r_iconst X 1 dX11_findFrom_55 ?_
      refine lv_goto (tgt := 60) X.1 X.2.1 dX11_findFrom_56 (by decide) ?_
      exact a_X11_findFrom_60 X h26 σ H locs ls l1 l2 l3 l4 l5 l6 l7_1 1 hP hS hf (lv_sub hl [1, 2, 3, 4, 5, 6, 7, 0] rfl)
theorem al_X11_findFrom_26 {p : Program} {l : Launch} {e : Env} {R : Room} {s : State} {m : MethodId} {args : Array Value} {below : List Frame} {meth : Method} {c : Code} {G : GT} {τ : Mem} (X : CX p R s m args meth c cX11_findFrom 15 RX11 none 3 102 G) : ∀ n, S_X11_findFrom_26 (X11_findFrom_L26 n) p l e R s m args below meth c G τ := by
  intro n
  induction n with
  | zero =>
    intro σ H locs ls l1 l2 l3 l4 l5 l6 hP hS hf hl
    cases hf
  | succ n ih => exact a_X11_findFrom_26 X ih
set_option maxHeartbeats 4000000 in
theorem a_X11_findFrom_0 {p : Program} {l : Launch} {e : Env} {R : Room} {s : State} {m : MethodId} {args : Array Value} {below : List Frame} {meth : Method} {c : Code} {G : GT} {τ : Mem} (X : CX p R s m args meth c cX11_findFrom 15 RX11 none 3 102 G) : S_X11_findFrom_0 (X11_findFrom) p l e R s m args below meth c G τ := by
  intro σ H locs ls l1 l2 l3 hP hS hf hl
  unfold X11_findFrom at hf
  refine lv_aload_n X.1 X.2.1 dX11_findFrom_0 rfl (lv_at hl 0 rfl) ?_
  refine lv_iload_n X.1 X.2.1 dX11_findFrom_1 rfl (lv_at hl 1 rfl) ?_
  obtain ⟨r1, hr1, hf⟩ := bd_inv hf
  refine k_X11_bars X hP hS hl.1  hr1 (tb t_1296 rfl) (by decide) (Nat.le_of_ble_eq_true rfl) dX11_findFrom_2 (fun H locs hP hS => ?_)
  refine lv_istore (lv' := [(4, .int (i32 r1)), (0, .ref (gh G + 111)), (1, .int (i32 l1)), (2, .int (i32 l2)), (3, .int (i32 l3))]) X.1 X.2.1 dX11_findFrom_5 hl (by decide) rfl (fun ls hl => ?_)
  refine r_bipush X 41 (by decide) dX11_findFrom_7 ?_
  refine lv_iload_n X.1 X.2.1 dX11_findFrom_9 rfl (lv_at hl 3 rfl) ?_
  refine r_imul X dX11_findFrom_10 ?_
  refine lv_iload_n X.1 X.2.1 dX11_findFrom_11 rfl (lv_at hl 4 rfl) ?_
  refine r_iadd X dX11_findFrom_12 ?_
  obtain ⟨l5_2, el5_2, hf⟩ := lt_inv hf
  refine r_eqi el5_2 ?_
  refine lv_istore (lv' := [(5, .int (i32 l5_2)), (4, .int (i32 r1)), (0, .ref (gh G + 111)), (1, .int (i32 l1)), (2, .int (i32 l2)), (3, .int (i32 l3))]) X.1 X.2.1 dX11_findFrom_13 hl (by decide) rfl (fun ls hl => ?_)
  refine lv_aload_n X.1 X.2.1 dX11_findFrom_15 rfl (lv_at hl 2 rfl) ?_
  refine g_11_21 (r := 124) X hP ks_11 rfl (tb t_1108 rfl) dX11_findFrom_16 ?_
  refine lv_iload X.1 X.2.1 dX11_findFrom_19 (lv_at hl 0 rfl) ?_
  refine r_iconst X (-1) dX11_findFrom_21 ?_
  obtain ⟨j3, hij3, hjj3, hlj3, hf⟩ := ag_inv hf
  refine r_iast X hP hS (ch_11_21 ks_11).1 (ch_11_21 ks_11).2 hij3 hjj3 dX11_findFrom_22 (fun H locs hP hS => ?_)
  obtain ⟨s4, es4, hf⟩ := lt_inv hf
  rw [es4] at hP
  refine lv_iload_n X.1 X.2.1 dX11_findFrom_23 rfl (lv_at hl 5 rfl) ?_
  refine lv_istore (lv' := [(6, .int (i32 l3)), (5, .int (i32 l5_2)), (4, .int (i32 r1)), (0, .ref (gh G + 111)), (1, .int (i32 l1)), (2, .int (i32 l2)), (3, .int (i32 l3))]) X.1 X.2.1 dX11_findFrom_24 hl (by decide) rfl (fun ls hl => ?_)
  exact al_X11_findFrom_26 X 5000 s4 H locs ls l1 l2 l3 r1 l5_2 l3 hP hS hf (lv_sub hl [3, 4, 5, 6, 2, 1, 0] rfl)
set_option maxHeartbeats 4000000 in
theorem c_X11_findFrom {l : Launch} {G : GT} {σ τ : Mem} {l1 : Int} {l2 : Int} {l3 : Int} (hf : X11_findFrom σ l1 l2 l3 = some τ) : CT l yX11_findFrom cX11_findFrom 15 none 3 102 G [.ref (gh G + 111), .int (i32 l1), .int (i32 l2), .int (i32 l3)] σ τ none := by
  refine CT.mk (own := RX11) (by decide) rfl (Nat.le_of_ble_eq_true rfl) ?_
  intro p e s m below meth c ls X hP hS hl
  have hl : lv_has ls 15 [(0, .ref (gh G + 111)), (1, .int (i32 l1)), (2, .int (i32 l2)), (3, .int (i32 l3))] := hl
  exact a_X11_findFrom_0 X σ s.heap [] ls l1 l2 l3 hP hS hf hl
theorem k_X11_findFrom {p : Program} {l : Launch} {e : Env} {R : Room} {s : State} {m : MethodId} {args : Array Value} {below : List Frame} {meth : Method} {c : Code} {H : Heap} {locs : List Loc} {Q : State → Prop} {cc : ByteArray} {nL : Nat} {own : String} {ret : Option FieldType} {fF fL : Nat} {G : GT} {pc idx : Nat} {ls : Array Slot} {rest : List Value} {σ τ : Mem} {l1 : Int} {l2 : Int} {l3 : Int} (X : CX p R s m args meth c cc nL own ret fF fL G) (hP : PW G σ H) (hS : va_S (AA G) s.heap H locs) (hls : ls.size = nL) (hf : X11_findFrom σ l1 l2 l3 = some τ) (h1 : Cond.methodLink own idx yX11_findFrom ∈ TB) (hR : 3 + 1 ≤ fF ∧ 8 + (15 + 11) + 102 ≤ fL) (hW : (rest.map fun v => v.category).sum ≤ 8) (hd : decode cc pc = .ok (.invokevirtual idx, 3)) (kk : ∀ (H1 : Heap) (locs1 : List Loc), PW G τ H1 → va_S (AA G) s.heap H1 locs1 → W p l e R s m args below meth c H1 locs1 0 0 Q (F0 m (pc + 3) ls (rest))) : W p l e R s m args below meth c H locs 0 0 Q (F0 m pc ls (.int (i32 l3) :: .int (i32 l2) :: .int (i32 l1) :: .ref (gh G + 111) :: rest)) := r_callV (n := 3) X hP hS hls (c_X11_findFrom hf) h1 (tb t_1415 rfl) (tb t_62 rfl) (tb t_87 rfl) (tb t_1416 rfl) (by decide +kernel) hR (r_recv X hP (kd_lt ks_11 (by decide)) (cE_11 ks_11) rfl) rfl rfl hW hd kk
/-! X11_lays -/
theorem dX11_lays_0 : decode cX11_lays 0 = .ok (.aload_n 0, 1) := by decide +kernel
theorem dX11_lays_1 : decode cX11_lays 1 = .ok (.iload_n 1, 1) := by decide +kernel
theorem dX11_lays_2 : decode cX11_lays 2 = .ok (.invokevirtual 101, 3) := by decide +kernel
theorem dX11_lays_5 : decode cX11_lays 5 = .ok (.istore_n 2, 1) := by decide +kernel
theorem dX11_lays_6 : decode cX11_lays 6 = .ok (.iload_n 2, 1) := by decide +kernel
theorem dX11_lays_7 : decode cX11_lays 7 = .ok (.ifCond .ne 5, 3) := by decide +kernel
theorem dX11_lays_10 : decode cX11_lays 10 = .ok (.iconst 0, 1) := by decide +kernel
theorem dX11_lays_11 : decode cX11_lays 11 = .ok (.ireturn, 1) := by decide +kernel
theorem dX11_lays_12 : decode cX11_lays 12 = .ok (.aload_n 0, 1) := by decide +kernel
theorem dX11_lays_13 : decode cX11_lays 13 = .ok (.iload_n 1, 1) := by decide +kernel
theorem dX11_lays_14 : decode cX11_lays 14 = .ok (.invokevirtual 272, 3) := by decide +kernel
theorem dX11_lays_17 : decode cX11_lays 17 = .ok (.iload_n 2, 1) := by decide +kernel
theorem dX11_lays_18 : decode cX11_lays 18 = .ok (.iconst 1, 1) := by decide +kernel
theorem dX11_lays_19 : decode cX11_lays 19 = .ok (.isub, 1) := by decide +kernel
theorem dX11_lays_20 : decode cX11_lays 20 = .ok (.istore_n 3, 1) := by decide +kernel
theorem dX11_lays_21 : decode cX11_lays 21 = .ok (.iload_n 3, 1) := by decide +kernel
theorem dX11_lays_22 : decode cX11_lays 22 = .ok (.ifCond .lt 34, 3) := by decide +kernel
theorem dX11_lays_25 : decode cX11_lays 25 = .ok (.iload_n 2, 1) := by decide +kernel
theorem dX11_lays_26 : decode cX11_lays 26 = .ok (.iconst 1, 1) := by decide +kernel
theorem dX11_lays_27 : decode cX11_lays 27 = .ok (.isub, 1) := by decide +kernel
theorem dX11_lays_28 : decode cX11_lays 28 = .ok (.istore 4, 2) := by decide +kernel
theorem dX11_lays_30 : decode cX11_lays 30 = .ok (.iload 4, 2) := by decide +kernel
theorem dX11_lays_32 : decode cX11_lays 32 = .ok (.iload_n 3, 1) := by decide +kernel
theorem dX11_lays_33 : decode cX11_lays 33 = .ok (.if_icmp .lt 17, 3) := by decide +kernel
theorem dX11_lays_36 : decode cX11_lays 36 = .ok (.aload_n 0, 1) := by decide +kernel
theorem dX11_lays_37 : decode cX11_lays 37 = .ok (.iload_n 1, 1) := by decide +kernel
theorem dX11_lays_38 : decode cX11_lays 38 = .ok (.iload_n 3, 1) := by decide +kernel
theorem dX11_lays_39 : decode cX11_lays 39 = .ok (.iload 4, 2) := by decide +kernel
theorem dX11_lays_41 : decode cX11_lays 41 = .ok (.invokevirtual 276, 3) := by decide +kernel
theorem dX11_lays_44 : decode cX11_lays 44 = .ok (.iinc 4 (-1), 3) := by decide +kernel
theorem dX11_lays_47 : decode cX11_lays 47 = .ok (.goto (-17), 3) := by decide +kernel
theorem dX11_lays_50 : decode cX11_lays 50 = .ok (.iinc 3 (-1), 3) := by decide +kernel
theorem dX11_lays_53 : decode cX11_lays 53 = .ok (.goto (-32), 3) := by decide +kernel
theorem dX11_lays_56 : decode cX11_lays 56 = .ok (.aload_n 0, 1) := by decide +kernel
theorem dX11_lays_57 : decode cX11_lays 57 = .ok (.getfield 47, 3) := by decide +kernel
theorem dX11_lays_60 : decode cX11_lays 60 = .ok (.iconst 0, 1) := by decide +kernel
theorem dX11_lays_61 : decode cX11_lays 61 = .ok (.iaload, 1) := by decide +kernel
theorem dX11_lays_62 : decode cX11_lays 62 = .ok (.ifCond .lt 7, 3) := by decide +kernel
theorem dX11_lays_65 : decode cX11_lays 65 = .ok (.iconst 1, 1) := by decide +kernel
theorem dX11_lays_66 : decode cX11_lays 66 = .ok (.goto 4, 3) := by decide +kernel
theorem dX11_lays_69 : decode cX11_lays 69 = .ok (.iconst 0, 1) := by decide +kernel
theorem dX11_lays_70 : decode cX11_lays 70 = .ok (.ireturn, 1) := by decide +kernel
def S_X11_lays_21 (fn : Mem → Int → Int → Int → Option (Int × Mem)) (p : Program) (l : Launch) (e : Env) (R : Room) (s : State) (m : MethodId) (args : Array Value) (below : List Frame) (meth : Method) (c : Code) (G : GT) (τ : Mem) (res : Int) : Prop := ∀ (σ : Mem) (H : Heap) (locs : List Loc) (ls : Array Slot) (l1 : Int) (l2 : Int) (l3 : Int), PW G σ H → va_S (AA G) s.heap H locs → fn σ l1 l2 l3 = some (res, τ) → lv_has ls 5 [(0, .ref (gh G + 111)), (1, .int (i32 l1)), (2, .int (i32 l2)), (3, .int (i32 l3))] → W p l e R s m args below meth c H locs 0 0 (MQ below (QM G (some (.int (i32 res))) τ) args s 0 0 (AA G)) (F0 m 21 ls [])
def S_X11_lays_30 (fn : Mem → Int → Int → Int → Int → Option (Int × Mem)) (p : Program) (l : Launch) (e : Env) (R : Room) (s : State) (m : MethodId) (args : Array Value) (below : List Frame) (meth : Method) (c : Code) (G : GT) (τ : Mem) (res : Int) : Prop := ∀ (σ : Mem) (H : Heap) (locs : List Loc) (ls : Array Slot) (l1 : Int) (l2 : Int) (l3 : Int) (l4 : Int), PW G σ H → va_S (AA G) s.heap H locs → fn σ l1 l2 l3 l4 = some (res, τ) → lv_has ls 5 [(0, .ref (gh G + 111)), (1, .int (i32 l1)), (2, .int (i32 l2)), (3, .int (i32 l3)), (4, .int (i32 l4))] → W p l e R s m args below meth c H locs 0 0 (MQ below (QM G (some (.int (i32 res))) τ) args s 0 0 (AA G)) (F0 m 30 ls [])
def X11_lays_B30 (rec21 : Mem → Int → Int → Int → Option (Int × Mem)) (rec30 : Mem → Int → Int → Int → Int → Option (Int × Mem)) (σ : Mem) (l1 : Int) (l2 : Int) (l3 : Int) (l4 : Int) : Option (Int × Mem) :=
  if w32 l4 < w32 l3 then
    lt (l3 + (-1)) fun l3_1 =>
    rec21 σ l1 l2 l3_1
  else
  bd (X11_findFrom σ l1 l3 l4) fun s3 =>
  lt (l4 + (-1)) fun l4_4 =>
  rec30 s3 l1 l2 l3 l4_4
def X11_lays_L30 (rec21 : Mem → Int → Int → Int → Option (Int × Mem)) : Nat → Mem → Int → Int → Int → Int → Option (Int × Mem)
  | 0 => fun _ _ _ _ _ => none
  | n + 1 => X11_lays_B30 rec21 (X11_lays_L30 rec21 n)
def X11_lays_B21 (rec21 : Mem → Int → Int → Int → Option (Int × Mem)) (σ : Mem) (l1 : Int) (l2 : Int) (l3 : Int) : Option (Int × Mem) :=
  if w32 l3 < 0 then
    ag 1681 0 fun j1 =>
    if w32 (σ 124 j1) < 0 then
      some (0, σ)
    else
    some (1, σ)
  else
  lt (l2 - 1) fun l4_2 =>
  X11_lays_L30 rec21 5000 σ l1 l2 l3 l4_2
def X11_lays_L21 : Nat → Mem → Int → Int → Int → Option (Int × Mem)
  | 0 => fun _ _ _ _ => none
  | n + 1 => X11_lays_B21 (X11_lays_L21 n)
def X11_lays (σ : Mem) (l1 : Int) : Option (Int × Mem) :=
  bd (X11_bars σ l1) fun r1 =>
  if w32 r1 ≠ 0 then
    bd (X11_findStops σ l1) fun s3 =>
    lt (r1 - 1) fun l3_4 =>
    X11_lays_L21 5000 s3 l1 r1 l3_4
  else
  some (0, σ)
def S_X11_lays_0 (fn : Mem → Int → Option (Int × Mem)) (p : Program) (l : Launch) (e : Env) (R : Room) (s : State) (m : MethodId) (args : Array Value) (below : List Frame) (meth : Method) (c : Code) (G : GT) (τ : Mem) (res : Int) : Prop := ∀ (σ : Mem) (H : Heap) (locs : List Loc) (ls : Array Slot) (l1 : Int), PW G σ H → va_S (AA G) s.heap H locs → fn σ l1 = some (res, τ) → lv_has ls 5 [(0, .ref (gh G + 111)), (1, .int (i32 l1))] → W p l e R s m args below meth c H locs 0 0 (MQ below (QM G (some (.int (i32 res))) τ) args s 0 0 (AA G)) (F0 m 0 ls [])
set_option maxHeartbeats 4000000 in
theorem a_X11_lays_30 {p : Program} {l : Launch} {e : Env} {R : Room} {s : State} {m : MethodId} {args : Array Value} {below : List Frame} {meth : Method} {c : Code} {G : GT} {τ : Mem} {res : Int} {rec21 : Mem → Int → Int → Int → Option (Int × Mem)} {rec30 : Mem → Int → Int → Int → Int → Option (Int × Mem)} (X : CX p R s m args meth c cX11_lays 5 RX11 (some FieldType.boolean) 8 221 G) (h21 : S_X11_lays_21 rec21 p l e R s m args below meth c G τ res) (h30 : S_X11_lays_30 rec30 p l e R s m args below meth c G τ res) : S_X11_lays_30 (X11_lays_B30 rec21 rec30) p l e R s m args below meth c G τ res := by
  intro σ H locs ls l1 l2 l3 l4 hP hS hf hl
  unfold X11_lays_B30 at hf
  refine lv_iload X.1 X.2.1 dX11_lays_30 (lv_at hl 4 rfl) ?_
  refine lv_iload_n X.1 X.2.1 dX11_lays_32 rfl (lv_at hl 3 rfl) ?_
  refine r_icmp_lt (tgt := 50) X dX11_lays_33 (by decide) (fun q => ?_) (fun q => ?_)
  · replace hf := it_inv q hf
    obtain ⟨l3_1, el3_1, hf⟩ := lt_inv hf
    refine lv_iinc (v := i32 l3_1) (lv' := [(3, .int (i32 l3_1)), (0, .ref (gh G + 111)), (1, .int (i32 l1)), (2, .int (i32 l2)), (4, .int (i32 l4))]) X.1 X.2.1 dX11_lays_50 hl (k := 3) rfl (by rw [← el3_1]; exact i32_add _ _) (by decide) rfl (fun ls hl => ?_)
    refine lv_goto (tgt := 21) X.1 X.2.1 dX11_lays_53 (by decide) ?_
    exact h21 σ H locs ls l1 l2 l3_1 hP hS hf (lv_sub hl [1, 2, 3, 0] rfl)
  · replace hf := ie_inv q hf
    refine lv_aload_n X.1 X.2.1 dX11_lays_36 rfl (lv_at hl 0 rfl) ?_
    refine lv_iload_n X.1 X.2.1 dX11_lays_37 rfl (lv_at hl 1 rfl) ?_
    refine lv_iload_n X.1 X.2.1 dX11_lays_38 rfl (lv_at hl 3 rfl) ?_
    refine lv_iload X.1 X.2.1 dX11_lays_39 (lv_at hl 4 rfl) ?_
    obtain ⟨s3, hr2, hf⟩ := bd_inv hf
    refine k_X11_findFrom X hP hS hl.1  hr2 (tb t_1413 rfl) (by decide) (Nat.le_of_ble_eq_true rfl) dX11_lays_41 (fun H locs hP hS => ?_)
    obtain ⟨l4_4, el4_4, hf⟩ := lt_inv hf
    refine lv_iinc (v := i32 l4_4) (lv' := [(4, .int (i32 l4_4)), (0, .ref (gh G + 111)), (1, .int (i32 l1)), (2, .int (i32 l2)), (3, .int (i32 l3))]) X.1 X.2.1 dX11_lays_44 hl (k := 4) rfl (by rw [← el4_4]; exact i32_add _ _) (by decide) rfl (fun ls hl => ?_)
    refine lv_goto (tgt := 30) X.1 X.2.1 dX11_lays_47 (by decide) ?_
    exact h30 s3 H locs ls l1 l2 l3 l4_4 hP hS hf (lv_sub hl [1, 2, 3, 4, 0] rfl)
theorem al_X11_lays_30 {p : Program} {l : Launch} {e : Env} {R : Room} {s : State} {m : MethodId} {args : Array Value} {below : List Frame} {meth : Method} {c : Code} {G : GT} {τ : Mem} {res : Int} {rec21 : Mem → Int → Int → Int → Option (Int × Mem)} (X : CX p R s m args meth c cX11_lays 5 RX11 (some FieldType.boolean) 8 221 G) (h21 : S_X11_lays_21 rec21 p l e R s m args below meth c G τ res) : ∀ n, S_X11_lays_30 (X11_lays_L30 rec21 n) p l e R s m args below meth c G τ res := by
  intro n
  induction n with
  | zero =>
    intro σ H locs ls l1 l2 l3 l4 hP hS hf hl
    cases hf
  | succ n ih => exact a_X11_lays_30 X h21 ih
set_option maxHeartbeats 4000000 in
theorem a_X11_lays_21 {p : Program} {l : Launch} {e : Env} {R : Room} {s : State} {m : MethodId} {args : Array Value} {below : List Frame} {meth : Method} {c : Code} {G : GT} {τ : Mem} {res : Int} {rec21 : Mem → Int → Int → Int → Option (Int × Mem)} (X : CX p R s m args meth c cX11_lays 5 RX11 (some FieldType.boolean) 8 221 G) (h21 : S_X11_lays_21 rec21 p l e R s m args below meth c G τ res) : S_X11_lays_21 (X11_lays_B21 rec21) p l e R s m args below meth c G τ res := by
  intro σ H locs ls l1 l2 l3 hP hS hf hl
  unfold X11_lays_B21 at hf
  refine lv_iload_n X.1 X.2.1 dX11_lays_21 rfl (lv_at hl 3 rfl) ?_
  refine r_if_lt (tgt := 56) X dX11_lays_22 (by decide) (fun q => ?_) (fun q => ?_)
  · replace hf := it_inv q hf
    refine lv_aload_n X.1 X.2.1 dX11_lays_56 rfl (lv_at hl 0 rfl) ?_
    refine g_11_21 (r := 124) X hP ks_11 rfl (tb t_1108 rfl) dX11_lays_57 ?_
    refine r_iconst X 0 dX11_lays_60 ?_
    obtain ⟨j1, hij1, hjj1, hlj1, hf⟩ := ag_inv hf
    refine r_iald X hP (ch_11_21 ks_11).1 (ch_11_21 ks_11).2 hij1 hjj1 dX11_lays_61 ?_
    refine r_if_lt (tgt := 69) X dX11_lays_62 (by decide) (fun q => ?_) (fun q => ?_)
    · replace hf := it_inv q hf
      refine r_iconst X 0 dX11_lays_69 ?_
      obtain ⟨rfl, rfl⟩ := so2_inv hf
      exact r_zret X hP hS (Or.inl rfl) dX11_lays_70
    · replace hf := ie_inv q hf
      refine r_iconst X 1 dX11_lays_65 ?_
      refine lv_goto (tgt := 70) X.1 X.2.1 dX11_lays_66 (by decide) ?_
      obtain ⟨rfl, rfl⟩ := so2_inv hf
      exact r_zret X hP hS (Or.inr rfl) dX11_lays_70
  · replace hf := ie_inv q hf
    refine lv_iload_n X.1 X.2.1 dX11_lays_25 rfl (lv_at hl 2 rfl) ?_
    refine r_iconst X 1 dX11_lays_26 ?_
    refine r_isub X dX11_lays_27 ?_
    obtain ⟨l4_2, el4_2, hf⟩ := lt_inv hf
    refine r_eqi el4_2 ?_
    refine lv_istore (lv' := [(4, .int (i32 l4_2)), (0, .ref (gh G + 111)), (1, .int (i32 l1)), (2, .int (i32 l2)), (3, .int (i32 l3))]) X.1 X.2.1 dX11_lays_28 hl (by decide) rfl (fun ls hl => ?_)
    exact al_X11_lays_30 X h21 5000 σ H locs ls l1 l2 l3 l4_2 hP hS hf (lv_sub hl [1, 2, 3, 4, 0] rfl)
theorem al_X11_lays_21 {p : Program} {l : Launch} {e : Env} {R : Room} {s : State} {m : MethodId} {args : Array Value} {below : List Frame} {meth : Method} {c : Code} {G : GT} {τ : Mem} {res : Int} (X : CX p R s m args meth c cX11_lays 5 RX11 (some FieldType.boolean) 8 221 G) : ∀ n, S_X11_lays_21 (X11_lays_L21 n) p l e R s m args below meth c G τ res := by
  intro n
  induction n with
  | zero =>
    intro σ H locs ls l1 l2 l3 hP hS hf hl
    cases hf
  | succ n ih => exact a_X11_lays_21 X ih
set_option maxHeartbeats 4000000 in
theorem a_X11_lays_0 {p : Program} {l : Launch} {e : Env} {R : Room} {s : State} {m : MethodId} {args : Array Value} {below : List Frame} {meth : Method} {c : Code} {G : GT} {τ : Mem} {res : Int} (X : CX p R s m args meth c cX11_lays 5 RX11 (some FieldType.boolean) 8 221 G) : S_X11_lays_0 (X11_lays) p l e R s m args below meth c G τ res := by
  intro σ H locs ls l1 hP hS hf hl
  unfold X11_lays at hf
  refine lv_aload_n X.1 X.2.1 dX11_lays_0 rfl (lv_at hl 0 rfl) ?_
  refine lv_iload_n X.1 X.2.1 dX11_lays_1 rfl (lv_at hl 1 rfl) ?_
  obtain ⟨r1, hr1, hf⟩ := bd_inv hf
  refine k_X11_bars X hP hS hl.1  hr1 (tb t_1296 rfl) (by decide) (Nat.le_of_ble_eq_true rfl) dX11_lays_2 (fun H locs hP hS => ?_)
  refine lv_istore_n (lv' := [(2, .int (i32 r1)), (0, .ref (gh G + 111)), (1, .int (i32 l1))]) X.1 X.2.1 dX11_lays_5 rfl hl (by decide) rfl (fun ls hl => ?_)
  refine lv_iload_n X.1 X.2.1 dX11_lays_6 rfl (lv_at hl 0 rfl) ?_
  refine r_if_ne (tgt := 12) X dX11_lays_7 (by decide) (fun q => ?_) (fun q => ?_)
  · replace hf := it_inv q hf
    refine lv_aload_n X.1 X.2.1 dX11_lays_12 rfl (lv_at hl 1 rfl) ?_
    refine lv_iload_n X.1 X.2.1 dX11_lays_13 rfl (lv_at hl 2 rfl) ?_
    obtain ⟨s3, hr2, hf⟩ := bd_inv hf
    refine k_X11_findStops X hP hS hl.1  hr2 (tb t_1405 rfl) (by decide) (Nat.le_of_ble_eq_true rfl) dX11_lays_14 (fun H locs hP hS => ?_)
    refine lv_iload_n X.1 X.2.1 dX11_lays_17 rfl (lv_at hl 0 rfl) ?_
    refine r_iconst X 1 dX11_lays_18 ?_
    refine r_isub X dX11_lays_19 ?_
    obtain ⟨l3_4, el3_4, hf⟩ := lt_inv hf
    refine r_eqi el3_4 ?_
    refine lv_istore_n (lv' := [(3, .int (i32 l3_4)), (2, .int (i32 r1)), (0, .ref (gh G + 111)), (1, .int (i32 l1))]) X.1 X.2.1 dX11_lays_20 rfl hl (by decide) rfl (fun ls hl => ?_)
    exact al_X11_lays_21 X 5000 s3 H locs ls l1 r1 l3_4 hP hS hf (lv_sub hl [2, 3, 1, 0] rfl)
  · replace hf := ie_inv q hf
    refine r_iconst X 0 dX11_lays_10 ?_
    obtain ⟨rfl, rfl⟩ := so2_inv hf
    exact r_zret X hP hS (Or.inl rfl) dX11_lays_11
set_option maxHeartbeats 4000000 in
theorem c_X11_lays {l : Launch} {G : GT} {σ τ : Mem} {res : Int} {l1 : Int} (hf : X11_lays σ l1 = some (res, τ)) : CT l yX11_lays cX11_lays 5 (some FieldType.boolean) 8 221 G [.ref (gh G + 111), .int (i32 l1)] σ τ (some (.int (i32 res))) := by
  refine CT.mk (own := RX11) (by decide) rfl (Nat.le_of_ble_eq_true rfl) ?_
  intro p e s m below meth c ls X hP hS hl
  have hl : lv_has ls 5 [(0, .ref (gh G + 111)), (1, .int (i32 l1))] := hl
  exact a_X11_lays_0 X σ s.heap [] ls l1 hP hS hf hl
theorem k_X11_lays {p : Program} {l : Launch} {e : Env} {R : Room} {s : State} {m : MethodId} {args : Array Value} {below : List Frame} {meth : Method} {c : Code} {H : Heap} {locs : List Loc} {Q : State → Prop} {cc : ByteArray} {nL : Nat} {own : String} {ret : Option FieldType} {fF fL : Nat} {G : GT} {pc idx : Nat} {ls : Array Slot} {rest : List Value} {σ τ : Mem} {res : Int} {l1 : Int} (X : CX p R s m args meth c cc nL own ret fF fL G) (hP : PW G σ H) (hS : va_S (AA G) s.heap H locs) (hls : ls.size = nL) (hf : X11_lays σ l1 = some (res, τ)) (h1 : Cond.methodLink own idx yX11_lays ∈ TB) (hR : 8 + 1 ≤ fF ∧ 8 + (5 + 11) + 221 ≤ fL) (hW : (rest.map fun v => v.category).sum ≤ 8) (hd : decode cc pc = .ok (.invokevirtual idx, 3)) (kk : ∀ (H1 : Heap) (locs1 : List Loc), PW G τ H1 → va_S (AA G) s.heap H1 locs1 → W p l e R s m args below meth c H1 locs1 0 0 Q (F0 m (pc + 3) ls (.int (i32 res) :: rest))) : W p l e R s m args below meth c H locs 0 0 Q (F0 m pc ls (.int (i32 l1) :: .ref (gh G + 111) :: rest)) := r_callV (n := 1) X hP hS hls (c_X11_lays hf) h1 (tb t_1403 rfl) (tb t_59 rfl) (tb t_87 rfl) (tb t_1404 rfl) (by decide +kernel) hR (r_recv X hP (kd_lt ks_11 (by decide)) (cE_11 ks_11) rfl) rfl rfl hW hd kk
/-! X11_layLines -/
theorem dX11_layLines_0 : decode cX11_layLines 0 = .ok (.aload_n 0, 1) := by decide +kernel
theorem dX11_layLines_1 : decode cX11_layLines 1 = .ok (.getfield 59, 3) := by decide +kernel
theorem dX11_layLines_4 : decode cX11_layLines 4 = .ok (.iload_n 1, 1) := by decide +kernel
theorem dX11_layLines_5 : decode cX11_layLines 5 = .ok (.iaload, 1) := by decide +kernel
theorem dX11_layLines_6 : decode cX11_layLines 6 = .ok (.istore_n 2, 1) := by decide +kernel
theorem dX11_layLines_7 : decode cX11_layLines 7 = .ok (.aload_n 0, 1) := by decide +kernel
theorem dX11_layLines_8 : decode cX11_layLines 8 = .ok (.getfield 56, 3) := by decide +kernel
theorem dX11_layLines_11 : decode cX11_layLines 11 = .ok (.iload_n 1, 1) := by decide +kernel
theorem dX11_layLines_12 : decode cX11_layLines 12 = .ok (.iaload, 1) := by decide +kernel
theorem dX11_layLines_13 : decode cX11_layLines 13 = .ok (.istore_n 3, 1) := by decide +kernel
theorem dX11_layLines_14 : decode cX11_layLines 14 = .ok (.aload_n 0, 1) := by decide +kernel
theorem dX11_layLines_15 : decode cX11_layLines 15 = .ok (.getfield 53, 3) := by decide +kernel
theorem dX11_layLines_18 : decode cX11_layLines 18 = .ok (.iload_n 1, 1) := by decide +kernel
theorem dX11_layLines_19 : decode cX11_layLines 19 = .ok (.iaload, 1) := by decide +kernel
theorem dX11_layLines_20 : decode cX11_layLines 20 = .ok (.istore 4, 2) := by decide +kernel
theorem dX11_layLines_22 : decode cX11_layLines 22 = .ok (.aload_n 0, 1) := by decide +kernel
theorem dX11_layLines_23 : decode cX11_layLines 23 = .ok (.iload_n 2, 1) := by decide +kernel
theorem dX11_layLines_24 : decode cX11_layLines 24 = .ok (.iload_n 3, 1) := by decide +kernel
theorem dX11_layLines_25 : decode cX11_layLines 25 = .ok (.invokevirtual 263, 3) := by decide +kernel
theorem dX11_layLines_28 : decode cX11_layLines 28 = .ok (.aload_n 0, 1) := by decide +kernel
theorem dX11_layLines_29 : decode cX11_layLines 29 = .ok (.getfield 9, 3) := by decide +kernel
theorem dX11_layLines_32 : decode cX11_layLines 32 = .ok (.iconst 1, 1) := by decide +kernel
theorem dX11_layLines_33 : decode cX11_layLines 33 = .ok (.iaload, 1) := by decide +kernel
theorem dX11_layLines_34 : decode cX11_layLines 34 = .ok (.istore 5, 2) := by decide +kernel
theorem dX11_layLines_36 : decode cX11_layLines 36 = .ok (.aload_n 0, 1) := by decide +kernel
theorem dX11_layLines_37 : decode cX11_layLines 37 = .ok (.getfield 31, 3) := by decide +kernel
theorem dX11_layLines_40 : decode cX11_layLines 40 = .ok (.bipush 41, 2) := by decide +kernel
theorem dX11_layLines_42 : decode cX11_layLines 42 = .ok (.iload 5, 2) := by decide +kernel
theorem dX11_layLines_44 : decode cX11_layLines 44 = .ok (.imul, 1) := by decide +kernel
theorem dX11_layLines_45 : decode cX11_layLines 45 = .ok (.iload 4, 2) := by decide +kernel
theorem dX11_layLines_47 : decode cX11_layLines 47 = .ok (.iadd, 1) := by decide +kernel
theorem dX11_layLines_48 : decode cX11_layLines 48 = .ok (.iaload, 1) := by decide +kernel
theorem dX11_layLines_49 : decode cX11_layLines 49 = .ok (.istore 6, 2) := by decide +kernel
theorem dX11_layLines_51 : decode cX11_layLines 51 = .ok (.aload_n 0, 1) := by decide +kernel
theorem dX11_layLines_52 : decode cX11_layLines 52 = .ok (.getfield 65, 3) := by decide +kernel
theorem dX11_layLines_55 : decode cX11_layLines 55 = .ok (.iload_n 1, 1) := by decide +kernel
theorem dX11_layLines_56 : decode cX11_layLines 56 = .ok (.iload 6, 2) := by decide +kernel
theorem dX11_layLines_58 : decode cX11_layLines 58 = .ok (.iastore, 1) := by decide +kernel
theorem dX11_layLines_59 : decode cX11_layLines 59 = .ok (.aload_n 0, 1) := by decide +kernel
theorem dX11_layLines_60 : decode cX11_layLines 60 = .ok (.getfield 62, 3) := by decide +kernel
theorem dX11_layLines_63 : decode cX11_layLines 63 = .ok (.iload_n 1, 1) := by decide +kernel
theorem dX11_layLines_64 : decode cX11_layLines 64 = .ok (.iconst 0, 1) := by decide +kernel
theorem dX11_layLines_65 : decode cX11_layLines 65 = .ok (.iastore, 1) := by decide +kernel
theorem dX11_layLines_66 : decode cX11_layLines 66 = .ok (.iload 4, 2) := by decide +kernel
theorem dX11_layLines_68 : decode cX11_layLines 68 = .ok (.iload_n 3, 1) := by decide +kernel
theorem dX11_layLines_69 : decode cX11_layLines 69 = .ok (.if_icmp .gt 152, 3) := by decide +kernel
theorem dX11_layLines_72 : decode cX11_layLines 72 = .ok (.iload 4, 2) := by decide +kernel
theorem dX11_layLines_74 : decode cX11_layLines 74 = .ok (.istore 7, 2) := by decide +kernel
theorem dX11_layLines_76 : decode cX11_layLines 76 = .ok (.aload_n 0, 1) := by decide +kernel
theorem dX11_layLines_77 : decode cX11_layLines 77 = .ok (.getfield 25, 3) := by decide +kernel
theorem dX11_layLines_80 : decode cX11_layLines 80 = .ok (.iload_n 2, 1) := by decide +kernel
theorem dX11_layLines_81 : decode cX11_layLines 81 = .ok (.iload 4, 2) := by decide +kernel
theorem dX11_layLines_83 : decode cX11_layLines 83 = .ok (.iload 7, 2) := by decide +kernel
theorem dX11_layLines_85 : decode cX11_layLines 85 = .ok (.invokestatic 255, 3) := by decide +kernel
theorem dX11_layLines_88 : decode cX11_layLines 88 = .ok (.iaload, 1) := by decide +kernel
theorem dX11_layLines_89 : decode cX11_layLines 89 = .ok (.ldc_w 258, 3) := by decide +kernel
theorem dX11_layLines_92 : decode cX11_layLines 92 = .ok (.if_icmp .eq 62, 3) := by decide +kernel
theorem dX11_layLines_95 : decode cX11_layLines 95 = .ok (.aload_n 0, 1) := by decide +kernel
theorem dX11_layLines_96 : decode cX11_layLines 96 = .ok (.getfield 31, 3) := by decide +kernel
theorem dX11_layLines_99 : decode cX11_layLines 99 = .ok (.bipush 41, 2) := by decide +kernel
theorem dX11_layLines_101 : decode cX11_layLines 101 = .ok (.iload 5, 2) := by decide +kernel
theorem dX11_layLines_103 : decode cX11_layLines 103 = .ok (.iconst 1, 1) := by decide +kernel
theorem dX11_layLines_104 : decode cX11_layLines 104 = .ok (.isub, 1) := by decide +kernel
theorem dX11_layLines_105 : decode cX11_layLines 105 = .ok (.imul, 1) := by decide +kernel
theorem dX11_layLines_106 : decode cX11_layLines 106 = .ok (.iload 7, 2) := by decide +kernel
theorem dX11_layLines_108 : decode cX11_layLines 108 = .ok (.iadd, 1) := by decide +kernel
theorem dX11_layLines_109 : decode cX11_layLines 109 = .ok (.iconst 1, 1) := by decide +kernel
theorem dX11_layLines_110 : decode cX11_layLines 110 = .ok (.iadd, 1) := by decide +kernel
theorem dX11_layLines_111 : decode cX11_layLines 111 = .ok (.iaload, 1) := by decide +kernel
theorem dX11_layLines_112 : decode cX11_layLines 112 = .ok (.ldc_w 258, 3) := by decide +kernel
theorem dX11_layLines_115 : decode cX11_layLines 115 = .ok (.if_icmp .eq 39, 3) := by decide +kernel
theorem dX11_layLines_118 : decode cX11_layLines 118 = .ok (.aload_n 0, 1) := by decide +kernel
theorem dX11_layLines_119 : decode cX11_layLines 119 = .ok (.getfield 25, 3) := by decide +kernel
theorem dX11_layLines_122 : decode cX11_layLines 122 = .ok (.iload_n 2, 1) := by decide +kernel
theorem dX11_layLines_123 : decode cX11_layLines 123 = .ok (.iload 4, 2) := by decide +kernel
theorem dX11_layLines_125 : decode cX11_layLines 125 = .ok (.iload 7, 2) := by decide +kernel
theorem dX11_layLines_127 : decode cX11_layLines 127 = .ok (.invokestatic 255, 3) := by decide +kernel
theorem dX11_layLines_130 : decode cX11_layLines 130 = .ok (.iaload, 1) := by decide +kernel
theorem dX11_layLines_131 : decode cX11_layLines 131 = .ok (.aload_n 0, 1) := by decide +kernel
theorem dX11_layLines_132 : decode cX11_layLines 132 = .ok (.getfield 31, 3) := by decide +kernel
theorem dX11_layLines_135 : decode cX11_layLines 135 = .ok (.bipush 41, 2) := by decide +kernel
theorem dX11_layLines_137 : decode cX11_layLines 137 = .ok (.iload 5, 2) := by decide +kernel
theorem dX11_layLines_139 : decode cX11_layLines 139 = .ok (.iconst 1, 1) := by decide +kernel
theorem dX11_layLines_140 : decode cX11_layLines 140 = .ok (.isub, 1) := by decide +kernel
theorem dX11_layLines_141 : decode cX11_layLines 141 = .ok (.imul, 1) := by decide +kernel
theorem dX11_layLines_142 : decode cX11_layLines 142 = .ok (.iload 7, 2) := by decide +kernel
theorem dX11_layLines_144 : decode cX11_layLines 144 = .ok (.iadd, 1) := by decide +kernel
theorem dX11_layLines_145 : decode cX11_layLines 145 = .ok (.iconst 1, 1) := by decide +kernel
theorem dX11_layLines_146 : decode cX11_layLines 146 = .ok (.iadd, 1) := by decide +kernel
theorem dX11_layLines_147 : decode cX11_layLines 147 = .ok (.iaload, 1) := by decide +kernel
theorem dX11_layLines_148 : decode cX11_layLines 148 = .ok (.iadd, 1) := by decide +kernel
theorem dX11_layLines_149 : decode cX11_layLines 149 = .ok (.iload 6, 2) := by decide +kernel
theorem dX11_layLines_151 : decode cX11_layLines 151 = .ok (.if_icmp .eq 9, 3) := by decide +kernel
theorem dX11_layLines_154 : decode cX11_layLines 154 = .ok (.iinc 7 1, 3) := by decide +kernel
theorem dX11_layLines_157 : decode cX11_layLines 157 = .ok (.goto (-81), 3) := by decide +kernel
theorem dX11_layLines_160 : decode cX11_layLines 160 = .ok (.iload 6, 2) := by decide +kernel
theorem dX11_layLines_162 : decode cX11_layLines 162 = .ok (.aload_n 0, 1) := by decide +kernel
theorem dX11_layLines_163 : decode cX11_layLines 163 = .ok (.getfield 25, 3) := by decide +kernel
theorem dX11_layLines_166 : decode cX11_layLines 166 = .ok (.iload_n 2, 1) := by decide +kernel
theorem dX11_layLines_167 : decode cX11_layLines 167 = .ok (.iload 4, 2) := by decide +kernel
theorem dX11_layLines_169 : decode cX11_layLines 169 = .ok (.iload 7, 2) := by decide +kernel
theorem dX11_layLines_171 : decode cX11_layLines 171 = .ok (.invokestatic 255, 3) := by decide +kernel
theorem dX11_layLines_174 : decode cX11_layLines 174 = .ok (.iaload, 1) := by decide +kernel
theorem dX11_layLines_175 : decode cX11_layLines 175 = .ok (.isub, 1) := by decide +kernel
theorem dX11_layLines_176 : decode cX11_layLines 176 = .ok (.istore 6, 2) := by decide +kernel
theorem dX11_layLines_178 : decode cX11_layLines 178 = .ok (.iinc 5 (-1), 3) := by decide +kernel
theorem dX11_layLines_181 : decode cX11_layLines 181 = .ok (.aload_n 0, 1) := by decide +kernel
theorem dX11_layLines_182 : decode cX11_layLines 182 = .ok (.getfield 71, 3) := by decide +kernel
theorem dX11_layLines_185 : decode cX11_layLines 185 = .ok (.aload_n 0, 1) := by decide +kernel
theorem dX11_layLines_186 : decode cX11_layLines 186 = .ok (.getfield 280, 3) := by decide +kernel
theorem dX11_layLines_189 : decode cX11_layLines 189 = .ok (.iload 7, 2) := by decide +kernel
theorem dX11_layLines_191 : decode cX11_layLines 191 = .ok (.iastore, 1) := by decide +kernel
theorem dX11_layLines_192 : decode cX11_layLines 192 = .ok (.aload_n 0, 1) := by decide +kernel
theorem dX11_layLines_193 : decode cX11_layLines 193 = .ok (.dup, 1) := by decide +kernel
theorem dX11_layLines_194 : decode cX11_layLines 194 = .ok (.getfield 280, 3) := by decide +kernel
theorem dX11_layLines_197 : decode cX11_layLines 197 = .ok (.iconst 1, 1) := by decide +kernel
theorem dX11_layLines_198 : decode cX11_layLines 198 = .ok (.iadd, 1) := by decide +kernel
theorem dX11_layLines_199 : decode cX11_layLines 199 = .ok (.putfield 280, 3) := by decide +kernel
theorem dX11_layLines_202 : decode cX11_layLines 202 = .ok (.aload_n 0, 1) := by decide +kernel
theorem dX11_layLines_203 : decode cX11_layLines 203 = .ok (.getfield 62, 3) := by decide +kernel
theorem dX11_layLines_206 : decode cX11_layLines 206 = .ok (.iload_n 1, 1) := by decide +kernel
theorem dX11_layLines_207 : decode cX11_layLines 207 = .ok (.dup2, 1) := by decide +kernel
theorem dX11_layLines_208 : decode cX11_layLines 208 = .ok (.iaload, 1) := by decide +kernel
theorem dX11_layLines_209 : decode cX11_layLines 209 = .ok (.iconst 1, 1) := by decide +kernel
theorem dX11_layLines_210 : decode cX11_layLines 210 = .ok (.iadd, 1) := by decide +kernel
theorem dX11_layLines_211 : decode cX11_layLines 211 = .ok (.iastore, 1) := by decide +kernel
theorem dX11_layLines_212 : decode cX11_layLines 212 = .ok (.iload 7, 2) := by decide +kernel
theorem dX11_layLines_214 : decode cX11_layLines 214 = .ok (.iconst 1, 1) := by decide +kernel
theorem dX11_layLines_215 : decode cX11_layLines 215 = .ok (.iadd, 1) := by decide +kernel
theorem dX11_layLines_216 : decode cX11_layLines 216 = .ok (.istore 4, 2) := by decide +kernel
theorem dX11_layLines_218 : decode cX11_layLines 218 = .ok (.goto (-152), 3) := by decide +kernel
theorem dX11_layLines_221 : decode cX11_layLines 221 = .ok (.return_, 1) := by decide +kernel
def S_X11_layLines_66 (fn : Mem → Int → Int → Int → Int → Int → Int → Option (Mem)) (p : Program) (l : Launch) (e : Env) (R : Room) (s : State) (m : MethodId) (args : Array Value) (below : List Frame) (meth : Method) (c : Code) (G : GT) (τ : Mem) : Prop := ∀ (σ : Mem) (H : Heap) (locs : List Loc) (ls : Array Slot) (l1 : Int) (l2 : Int) (l3 : Int) (l4 : Int) (l5 : Int) (l6 : Int), PW G σ H → va_S (AA G) s.heap H locs → fn σ l1 l2 l3 l4 l5 l6 = some τ → lv_has ls 8 [(0, .ref (gh G + 111)), (1, .int (i32 l1)), (2, .int (i32 l2)), (3, .int (i32 l3)), (4, .int (i32 l4)), (5, .int (i32 l5)), (6, .int (i32 l6))] → W p l e R s m args below meth c H locs 0 0 (MQ below (QM G none τ) args s 0 0 (AA G)) (F0 m 66 ls [])
def S_X11_layLines_76 (fn : Mem → Int → Int → Int → Int → Int → Int → Int → Option (Mem)) (p : Program) (l : Launch) (e : Env) (R : Room) (s : State) (m : MethodId) (args : Array Value) (below : List Frame) (meth : Method) (c : Code) (G : GT) (τ : Mem) : Prop := ∀ (σ : Mem) (H : Heap) (locs : List Loc) (ls : Array Slot) (l1 : Int) (l2 : Int) (l3 : Int) (l4 : Int) (l5 : Int) (l6 : Int) (l7 : Int), PW G σ H → va_S (AA G) s.heap H locs → fn σ l1 l2 l3 l4 l5 l6 l7 = some τ → lv_has ls 8 [(0, .ref (gh G + 111)), (1, .int (i32 l1)), (2, .int (i32 l2)), (3, .int (i32 l3)), (4, .int (i32 l4)), (5, .int (i32 l5)), (6, .int (i32 l6)), (7, .int (i32 l7))] → W p l e R s m args below meth c H locs 0 0 (MQ below (QM G none τ) args s 0 0 (AA G)) (F0 m 76 ls [])
def X11_layLines_B154 (rec66 : Mem → Int → Int → Int → Int → Int → Int → Option (Mem)) (rec76 : Mem → Int → Int → Int → Int → Int → Int → Int → Option (Mem)) (σ : Mem) (l1 : Int) (l2 : Int) (l3 : Int) (l4 : Int) (l5 : Int) (l6 : Int) (l7 : Int) : Option (Mem) :=
  lt (l7 + 1) fun l7_1 =>
  rec76 σ l1 l2 l3 l4 l5 l6 l7_1
def S_X11_layLines_154 (fn : Mem → Int → Int → Int → Int → Int → Int → Int → Option (Mem)) (p : Program) (l : Launch) (e : Env) (R : Room) (s : State) (m : MethodId) (args : Array Value) (below : List Frame) (meth : Method) (c : Code) (G : GT) (τ : Mem) : Prop := ∀ (σ : Mem) (H : Heap) (locs : List Loc) (ls : Array Slot) (l1 : Int) (l2 : Int) (l3 : Int) (l4 : Int) (l5 : Int) (l6 : Int) (l7 : Int), PW G σ H → va_S (AA G) s.heap H locs → fn σ l1 l2 l3 l4 l5 l6 l7 = some τ → lv_has ls 8 [(0, .ref (gh G + 111)), (1, .int (i32 l1)), (2, .int (i32 l2)), (3, .int (i32 l3)), (4, .int (i32 l4)), (5, .int (i32 l5)), (6, .int (i32 l6)), (7, .int (i32 l7))] → W p l e R s m args below meth c H locs 0 0 (MQ below (QM G none τ) args s 0 0 (AA G)) (F0 m 154 ls [])
def X11_layLines_B76 (rec66 : Mem → Int → Int → Int → Int → Int → Int → Option (Mem)) (rec76 : Mem → Int → Int → Int → Int → Int → Int → Int → Option (Mem)) (σ : Mem) (l1 : Int) (l2 : Int) (l3 : Int) (l4 : Int) (l5 : Int) (l6 : Int) (l7 : Int) : Option (Mem) :=
  bd (X11_cell σ l2 l4 l7) fun r1 =>
  ag 4800 r1 fun j2 =>
  if w32 (σ 117 j2) = w32 1000000000 then
    X11_layLines_B154 rec66 rec76 σ l1 l2 l3 l4 l5 l6 l7
  else
  ag 287 (((41 * (l5 - 1)) + l7) + 1) fun j3 =>
  if w32 (σ 119 j3) = w32 1000000000 then
    X11_layLines_B154 rec66 rec76 σ l1 l2 l3 l4 l5 l6 l7
  else
  bd (X11_cell σ l2 l4 l7) fun r4 =>
  ag 4800 r4 fun j5 =>
  ag 287 (((41 * (l5 - 1)) + l7) + 1) fun j6 =>
  if w32 ((σ 117 j5) + (σ 119 j6)) = w32 l6 then
    bd (X11_cell σ l2 l4 l7) fun r7 =>
    ag 4800 r7 fun j8 =>
    lt (l6 - (σ 117 j8)) fun l6_9 =>
    lt (l5 + (-1)) fun l5_10 =>
    ag 40 (σ 111 24) fun j11 =>
    lt (st σ 132 j11 l7) fun s12 =>
    lt (st s12 111 24 ((s12 111 24) + 1)) fun s13 =>
    ag 40 l1 fun j14 =>
    ag 40 l1 fun j15 =>
    lt (st s13 129 j15 ((s13 129 j14) + 1)) fun s16 =>
    lt (l7 + 1) fun l4_17 =>
    rec66 s16 l1 l2 l3 l4_17 l5_10 l6_9
  else
  X11_layLines_B154 rec66 rec76 σ l1 l2 l3 l4 l5 l6 l7
def X11_layLines_L76 (rec66 : Mem → Int → Int → Int → Int → Int → Int → Option (Mem)) : Nat → Mem → Int → Int → Int → Int → Int → Int → Int → Option (Mem)
  | 0 => fun _ _ _ _ _ _ _ _ => none
  | n + 1 => X11_layLines_B76 rec66 (X11_layLines_L76 rec66 n)
def X11_layLines_B66 (rec66 : Mem → Int → Int → Int → Int → Int → Int → Option (Mem)) (σ : Mem) (l1 : Int) (l2 : Int) (l3 : Int) (l4 : Int) (l5 : Int) (l6 : Int) : Option (Mem) :=
  if w32 l3 < w32 l4 then
    some σ
  else
  X11_layLines_L76 rec66 5000 σ l1 l2 l3 l4 l5 l6 l4
def X11_layLines_L66 : Nat → Mem → Int → Int → Int → Int → Int → Int → Option (Mem)
  | 0 => fun _ _ _ _ _ _ _ => none
  | n + 1 => X11_layLines_B66 (X11_layLines_L66 n)
def X11_layLines (σ : Mem) (l1 : Int) : Option (Mem) :=
  ag 40 l1 fun j1 =>
  lt (σ 128 j1) fun l2_2 =>
  ag 40 l1 fun j3 =>
  lt (σ 127 j3) fun l3_4 =>
  ag 40 l1 fun j5 =>
  lt (σ 126 j5) fun l4_6 =>
  bd (X11_findTails σ l2_2 l3_4) fun s8 =>
  ag 766 1 fun j9 =>
  lt (s8 112 j9) fun l5_10 =>
  ag 287 ((41 * l5_10) + l4_6) fun j11 =>
  lt (s8 119 j11) fun l6_12 =>
  ag 40 l1 fun j13 =>
  lt (st s8 130 j13 l6_12) fun s14 =>
  ag 40 l1 fun j15 =>
  lt (st s14 129 j15 0) fun s16 =>
  X11_layLines_L66 5000 s16 l1 l2_2 l3_4 l4_6 l5_10 l6_12
def S_X11_layLines_0 (fn : Mem → Int → Option (Mem)) (p : Program) (l : Launch) (e : Env) (R : Room) (s : State) (m : MethodId) (args : Array Value) (below : List Frame) (meth : Method) (c : Code) (G : GT) (τ : Mem) : Prop := ∀ (σ : Mem) (H : Heap) (locs : List Loc) (ls : Array Slot) (l1 : Int), PW G σ H → va_S (AA G) s.heap H locs → fn σ l1 = some τ → lv_has ls 8 [(0, .ref (gh G + 111)), (1, .int (i32 l1))] → W p l e R s m args below meth c H locs 0 0 (MQ below (QM G none τ) args s 0 0 (AA G)) (F0 m 0 ls [])
set_option maxHeartbeats 4000000 in
theorem a_X11_layLines_154 {p : Program} {l : Launch} {e : Env} {R : Room} {s : State} {m : MethodId} {args : Array Value} {below : List Frame} {meth : Method} {c : Code} {G : GT} {τ : Mem} {rec66 : Mem → Int → Int → Int → Int → Int → Int → Option (Mem)} {rec76 : Mem → Int → Int → Int → Int → Int → Int → Int → Option (Mem)} (X : CX p R s m args meth c cX11_layLines 8 RX11 none 3 110 G) (h66 : S_X11_layLines_66 rec66 p l e R s m args below meth c G τ) (h76 : S_X11_layLines_76 rec76 p l e R s m args below meth c G τ) : S_X11_layLines_154 (X11_layLines_B154 rec66 rec76) p l e R s m args below meth c G τ := by
  intro σ H locs ls l1 l2 l3 l4 l5 l6 l7 hP hS hf hl
  unfold X11_layLines_B154 at hf
  obtain ⟨l7_1, el7_1, hf⟩ := lt_inv hf
  refine lv_iinc (v := i32 l7_1) (lv' := [(7, .int (i32 l7_1)), (0, .ref (gh G + 111)), (1, .int (i32 l1)), (2, .int (i32 l2)), (3, .int (i32 l3)), (4, .int (i32 l4)), (5, .int (i32 l5)), (6, .int (i32 l6))]) X.1 X.2.1 dX11_layLines_154 hl (k := 7) rfl (by rw [← el7_1]; exact i32_add _ _) (by decide) rfl (fun ls hl => ?_)
  refine lv_goto (tgt := 76) X.1 X.2.1 dX11_layLines_157 (by decide) ?_
  exact h76 σ H locs ls l1 l2 l3 l4 l5 l6 l7_1 hP hS hf (lv_sub hl [1, 2, 3, 4, 5, 6, 7, 0] rfl)
set_option maxHeartbeats 4000000 in
theorem a_X11_layLines_76 {p : Program} {l : Launch} {e : Env} {R : Room} {s : State} {m : MethodId} {args : Array Value} {below : List Frame} {meth : Method} {c : Code} {G : GT} {τ : Mem} {rec66 : Mem → Int → Int → Int → Int → Int → Int → Option (Mem)} {rec76 : Mem → Int → Int → Int → Int → Int → Int → Int → Option (Mem)} (X : CX p R s m args meth c cX11_layLines 8 RX11 none 3 110 G) (h66 : S_X11_layLines_66 rec66 p l e R s m args below meth c G τ) (h76 : S_X11_layLines_76 rec76 p l e R s m args below meth c G τ) : S_X11_layLines_76 (X11_layLines_B76 rec66 rec76) p l e R s m args below meth c G τ := by
  intro σ H locs ls l1 l2 l3 l4 l5 l6 l7 hP hS hf hl
  unfold X11_layLines_B76 at hf
  refine lv_aload_n X.1 X.2.1 dX11_layLines_76 rfl (lv_at hl 0 rfl) ?_
  refine g_11_14 (r := 117) X hP ks_11 rfl (tb t_1101 rfl) dX11_layLines_77 ?_
  refine lv_iload_n X.1 X.2.1 dX11_layLines_80 rfl (lv_at hl 2 rfl) ?_
  refine lv_iload X.1 X.2.1 dX11_layLines_81 (lv_at hl 4 rfl) ?_
  refine lv_iload X.1 X.2.1 dX11_layLines_83 (lv_at hl 7 rfl) ?_
  obtain ⟨r1, hr1, hf⟩ := bd_inv hf
  refine k_X11_cell X hP hS hl.1  hr1 (tb t_1381 rfl) (by decide) (Nat.le_of_ble_eq_true rfl) dX11_layLines_85 (fun H locs hP hS => ?_)
  obtain ⟨j2, hij2, hjj2, hlj2, hf⟩ := ag_inv hf
  refine r_iald X hP (ch_11_14 ks_11).1 (ch_11_14 ks_11).2 hij2 hjj2 dX11_layLines_88 ?_
  refine r_ldcw X 1000000000 (tb t_1384 rfl) (by decide) dX11_layLines_89 ?_
  refine r_icmp_eq (tgt := 154) X dX11_layLines_92 (by decide) (fun q => ?_) (fun q => ?_)
  · replace hf := it_inv q hf
    exact a_X11_layLines_154 X h66 h76 σ H locs ls l1 l2 l3 l4 l5 l6 l7 hP hS hf hl
  · replace hf := ie_inv q hf
    refine lv_aload_n X.1 X.2.1 dX11_layLines_95 rfl (lv_at hl 0 rfl) ?_
    refine g_11_16 (r := 119) X hP ks_11 rfl (tb t_1103 rfl) dX11_layLines_96 ?_
    refine r_bipush X 41 (by decide) dX11_layLines_99 ?_
    refine lv_iload X.1 X.2.1 dX11_layLines_101 (lv_at hl 5 rfl) ?_
    refine r_iconst X 1 dX11_layLines_103 ?_
    refine r_isub X dX11_layLines_104 ?_
    refine r_imul X dX11_layLines_105 ?_
    refine lv_iload X.1 X.2.1 dX11_layLines_106 (lv_at hl 7 rfl) ?_
    refine r_iadd X dX11_layLines_108 ?_
    refine r_iconst X 1 dX11_layLines_109 ?_
    refine r_iadd X dX11_layLines_110 ?_
    obtain ⟨j3, hij3, hjj3, hlj3, hf⟩ := ag_inv hf
    refine r_iald X hP (ch_11_16 ks_11).1 (ch_11_16 ks_11).2 hij3 hjj3 dX11_layLines_111 ?_
    refine r_ldcw X 1000000000 (tb t_1384 rfl) (by decide) dX11_layLines_112 ?_
    refine r_icmp_eq (tgt := 154) X dX11_layLines_115 (by decide) (fun q => ?_) (fun q => ?_)
    · replace hf := it_inv q hf
      exact a_X11_layLines_154 X h66 h76 σ H locs ls l1 l2 l3 l4 l5 l6 l7 hP hS hf hl
    · replace hf := ie_inv q hf
      refine lv_aload_n X.1 X.2.1 dX11_layLines_118 rfl (lv_at hl 0 rfl) ?_
      refine g_11_14 (r := 117) X hP ks_11 rfl (tb t_1101 rfl) dX11_layLines_119 ?_
      refine lv_iload_n X.1 X.2.1 dX11_layLines_122 rfl (lv_at hl 2 rfl) ?_
      refine lv_iload X.1 X.2.1 dX11_layLines_123 (lv_at hl 4 rfl) ?_
      refine lv_iload X.1 X.2.1 dX11_layLines_125 (lv_at hl 7 rfl) ?_
      obtain ⟨r4, hr4, hf⟩ := bd_inv hf
      refine k_X11_cell X hP hS hl.1  hr4 (tb t_1381 rfl) (by decide) (Nat.le_of_ble_eq_true rfl) dX11_layLines_127 (fun H locs hP hS => ?_)
      obtain ⟨j5, hij5, hjj5, hlj5, hf⟩ := ag_inv hf
      refine r_iald X hP (ch_11_14 ks_11).1 (ch_11_14 ks_11).2 hij5 hjj5 dX11_layLines_130 ?_
      refine lv_aload_n X.1 X.2.1 dX11_layLines_131 rfl (lv_at hl 0 rfl) ?_
      refine g_11_16 (r := 119) X hP ks_11 rfl (tb t_1103 rfl) dX11_layLines_132 ?_
      refine r_bipush X 41 (by decide) dX11_layLines_135 ?_
      refine lv_iload X.1 X.2.1 dX11_layLines_137 (lv_at hl 5 rfl) ?_
      refine r_iconst X 1 dX11_layLines_139 ?_
      refine r_isub X dX11_layLines_140 ?_
      refine r_imul X dX11_layLines_141 ?_
      refine lv_iload X.1 X.2.1 dX11_layLines_142 (lv_at hl 7 rfl) ?_
      refine r_iadd X dX11_layLines_144 ?_
      refine r_iconst X 1 dX11_layLines_145 ?_
      refine r_iadd X dX11_layLines_146 ?_
      obtain ⟨j6, hij6, hjj6, hlj6, hf⟩ := ag_inv hf
      refine r_iald X hP (ch_11_16 ks_11).1 (ch_11_16 ks_11).2 hij6 hjj6 dX11_layLines_147 ?_
      refine r_iadd X dX11_layLines_148 ?_
      refine lv_iload X.1 X.2.1 dX11_layLines_149 (lv_at hl 6 rfl) ?_
      refine r_icmp_eq (tgt := 160) X dX11_layLines_151 (by decide) (fun q => ?_) (fun q => ?_)
      · replace hf := it_inv q hf
        refine lv_iload X.1 X.2.1 dX11_layLines_160 (lv_at hl 6 rfl) ?_
        refine lv_aload_n X.1 X.2.1 dX11_layLines_162 rfl (lv_at hl 0 rfl) ?_
        refine g_11_14 (r := 117) X hP ks_11 rfl (tb t_1101 rfl) dX11_layLines_163 ?_
        refine lv_iload_n X.1 X.2.1 dX11_layLines_166 rfl (lv_at hl 2 rfl) ?_
        refine lv_iload X.1 X.2.1 dX11_layLines_167 (lv_at hl 4 rfl) ?_
        refine lv_iload X.1 X.2.1 dX11_layLines_169 (lv_at hl 7 rfl) ?_
        obtain ⟨r7, hr7, hf⟩ := bd_inv hf
        refine k_X11_cell X hP hS hl.1  hr7 (tb t_1381 rfl) (by decide) (Nat.le_of_ble_eq_true rfl) dX11_layLines_171 (fun H locs hP hS => ?_)
        obtain ⟨j8, hij8, hjj8, hlj8, hf⟩ := ag_inv hf
        refine r_iald X hP (ch_11_14 ks_11).1 (ch_11_14 ks_11).2 hij8 hjj8 dX11_layLines_174 ?_
        refine r_isub X dX11_layLines_175 ?_
        obtain ⟨l6_9, el6_9, hf⟩ := lt_inv hf
        refine r_eqi el6_9 ?_
        refine lv_istore (lv' := [(6, .int (i32 l6_9)), (0, .ref (gh G + 111)), (1, .int (i32 l1)), (2, .int (i32 l2)), (3, .int (i32 l3)), (4, .int (i32 l4)), (5, .int (i32 l5)), (7, .int (i32 l7))]) X.1 X.2.1 dX11_layLines_176 hl (by decide) rfl (fun ls hl => ?_)
        obtain ⟨l5_10, el5_10, hf⟩ := lt_inv hf
        refine lv_iinc (v := i32 l5_10) (lv' := [(5, .int (i32 l5_10)), (6, .int (i32 l6_9)), (0, .ref (gh G + 111)), (1, .int (i32 l1)), (2, .int (i32 l2)), (3, .int (i32 l3)), (4, .int (i32 l4)), (7, .int (i32 l7))]) X.1 X.2.1 dX11_layLines_178 hl (k := 6) rfl (by rw [← el5_10]; exact i32_add _ _) (by decide) rfl (fun ls hl => ?_)
        refine lv_aload_n X.1 X.2.1 dX11_layLines_181 rfl (lv_at hl 2 rfl) ?_
        refine g_11_32 (r := 132) X hP ks_11 rfl (tb t_1119 rfl) dX11_layLines_182 ?_
        refine lv_aload_n X.1 X.2.1 dX11_layLines_185 rfl (lv_at hl 2 rfl) ?_
        refine g_11_24 X hP ks_11 (tb t_1111 rfl) dX11_layLines_186 ?_
        refine lv_iload X.1 X.2.1 dX11_layLines_189 (lv_at hl 7 rfl) ?_
        obtain ⟨j11, hij11, hjj11, hlj11, hf⟩ := ag_inv hf
        refine r_iast X hP hS (ch_11_32 ks_11).1 (ch_11_32 ks_11).2 hij11 hjj11 dX11_layLines_191 (fun H locs hP hS => ?_)
        obtain ⟨s12, es12, hf⟩ := lt_inv hf
        rw [es12] at hP
        refine lv_aload_n X.1 X.2.1 dX11_layLines_192 rfl (lv_at hl 2 rfl) ?_
        refine lv_dup X.1 X.2.1 dX11_layLines_193 rfl ?_
        refine g_11_24 X hP ks_11 (tb t_1111 rfl) dX11_layLines_194 ?_
        refine r_iconst X 1 dX11_layLines_197 ?_
        refine r_iadd X dX11_layLines_198 ?_
        refine p_11_24 X hP hS ks_11 (tb t_1111 rfl) dX11_layLines_199 (fun H locs hP hS => ?_)
        obtain ⟨s13, es13, hf⟩ := lt_inv hf
        rw [es13] at hP
        refine lv_aload_n X.1 X.2.1 dX11_layLines_202 rfl (lv_at hl 2 rfl) ?_
        refine g_11_29 (r := 129) X hP ks_11 rfl (tb t_1116 rfl) dX11_layLines_203 ?_
        refine lv_iload_n X.1 X.2.1 dX11_layLines_206 rfl (lv_at hl 3 rfl) ?_
        refine lv_dup2_11 X.1 X.2.1 dX11_layLines_207 rfl rfl ?_
        obtain ⟨j14, hij14, hjj14, hlj14, hf⟩ := ag_inv hf
        refine r_iald X hP (ch_11_29 ks_11).1 (ch_11_29 ks_11).2 hij14 hjj14 dX11_layLines_208 ?_
        refine r_iconst X 1 dX11_layLines_209 ?_
        refine r_iadd X dX11_layLines_210 ?_
        obtain ⟨j15, hij15, hjj15, hlj15, hf⟩ := ag_inv hf
        refine r_iast X hP hS (ch_11_29 ks_11).1 (ch_11_29 ks_11).2 hij15 hjj15 dX11_layLines_211 (fun H locs hP hS => ?_)
        obtain ⟨s16, es16, hf⟩ := lt_inv hf
        rw [es16] at hP
        refine lv_iload X.1 X.2.1 dX11_layLines_212 (lv_at hl 7 rfl) ?_
        refine r_iconst X 1 dX11_layLines_214 ?_
        refine r_iadd X dX11_layLines_215 ?_
        obtain ⟨l4_17, el4_17, hf⟩ := lt_inv hf
        refine r_eqi el4_17 ?_
        refine lv_istore (lv' := [(4, .int (i32 l4_17)), (5, .int (i32 l5_10)), (6, .int (i32 l6_9)), (0, .ref (gh G + 111)), (1, .int (i32 l1)), (2, .int (i32 l2)), (3, .int (i32 l3)), (7, .int (i32 l7))]) X.1 X.2.1 dX11_layLines_216 hl (by decide) rfl (fun ls hl => ?_)
        refine lv_goto (tgt := 66) X.1 X.2.1 dX11_layLines_218 (by decide) ?_
        exact h66 s16 H locs ls l1 l2 l3 l4_17 l5_10 l6_9 hP hS hf (lv_sub hl [3, 4, 5, 6, 0, 1, 2] rfl)
      · replace hf := ie_inv q hf
        exact a_X11_layLines_154 X h66 h76 σ H locs ls l1 l2 l3 l4 l5 l6 l7 hP hS hf hl
theorem al_X11_layLines_76 {p : Program} {l : Launch} {e : Env} {R : Room} {s : State} {m : MethodId} {args : Array Value} {below : List Frame} {meth : Method} {c : Code} {G : GT} {τ : Mem} {rec66 : Mem → Int → Int → Int → Int → Int → Int → Option (Mem)} (X : CX p R s m args meth c cX11_layLines 8 RX11 none 3 110 G) (h66 : S_X11_layLines_66 rec66 p l e R s m args below meth c G τ) : ∀ n, S_X11_layLines_76 (X11_layLines_L76 rec66 n) p l e R s m args below meth c G τ := by
  intro n
  induction n with
  | zero =>
    intro σ H locs ls l1 l2 l3 l4 l5 l6 l7 hP hS hf hl
    cases hf
  | succ n ih => exact a_X11_layLines_76 X h66 ih
set_option maxHeartbeats 4000000 in
theorem a_X11_layLines_66 {p : Program} {l : Launch} {e : Env} {R : Room} {s : State} {m : MethodId} {args : Array Value} {below : List Frame} {meth : Method} {c : Code} {G : GT} {τ : Mem} {rec66 : Mem → Int → Int → Int → Int → Int → Int → Option (Mem)} (X : CX p R s m args meth c cX11_layLines 8 RX11 none 3 110 G) (h66 : S_X11_layLines_66 rec66 p l e R s m args below meth c G τ) : S_X11_layLines_66 (X11_layLines_B66 rec66) p l e R s m args below meth c G τ := by
  intro σ H locs ls l1 l2 l3 l4 l5 l6 hP hS hf hl
  unfold X11_layLines_B66 at hf
  refine lv_iload X.1 X.2.1 dX11_layLines_66 (lv_at hl 4 rfl) ?_
  refine lv_iload_n X.1 X.2.1 dX11_layLines_68 rfl (lv_at hl 3 rfl) ?_
  refine r_icmp_gt (tgt := 221) X dX11_layLines_69 (by decide) (fun q => ?_) (fun q => ?_)
  · replace hf := it_inv q hf
    cases so_inv hf
    exact r_vret X hP hS dX11_layLines_221
  · replace hf := ie_inv q hf
    refine lv_iload X.1 X.2.1 dX11_layLines_72 (lv_at hl 4 rfl) ?_
    refine lv_istore (lv' := [(7, .int (i32 l4)), (0, .ref (gh G + 111)), (1, .int (i32 l1)), (2, .int (i32 l2)), (3, .int (i32 l3)), (4, .int (i32 l4)), (5, .int (i32 l5)), (6, .int (i32 l6))]) X.1 X.2.1 dX11_layLines_74 hl (by decide) rfl (fun ls hl => ?_)
    exact al_X11_layLines_76 X h66 5000 σ H locs ls l1 l2 l3 l4 l5 l6 l4 hP hS hf (lv_sub hl [1, 2, 3, 4, 5, 6, 7, 0] rfl)
theorem al_X11_layLines_66 {p : Program} {l : Launch} {e : Env} {R : Room} {s : State} {m : MethodId} {args : Array Value} {below : List Frame} {meth : Method} {c : Code} {G : GT} {τ : Mem} (X : CX p R s m args meth c cX11_layLines 8 RX11 none 3 110 G) : ∀ n, S_X11_layLines_66 (X11_layLines_L66 n) p l e R s m args below meth c G τ := by
  intro n
  induction n with
  | zero =>
    intro σ H locs ls l1 l2 l3 l4 l5 l6 hP hS hf hl
    cases hf
  | succ n ih => exact a_X11_layLines_66 X ih
set_option maxHeartbeats 4000000 in
theorem a_X11_layLines_0 {p : Program} {l : Launch} {e : Env} {R : Room} {s : State} {m : MethodId} {args : Array Value} {below : List Frame} {meth : Method} {c : Code} {G : GT} {τ : Mem} (X : CX p R s m args meth c cX11_layLines 8 RX11 none 3 110 G) : S_X11_layLines_0 (X11_layLines) p l e R s m args below meth c G τ := by
  intro σ H locs ls l1 hP hS hf hl
  unfold X11_layLines at hf
  refine lv_aload_n X.1 X.2.1 dX11_layLines_0 rfl (lv_at hl 0 rfl) ?_
  refine g_11_28 (r := 128) X hP ks_11 rfl (tb t_1115 rfl) dX11_layLines_1 ?_
  refine lv_iload_n X.1 X.2.1 dX11_layLines_4 rfl (lv_at hl 1 rfl) ?_
  obtain ⟨j1, hij1, hjj1, hlj1, hf⟩ := ag_inv hf
  refine r_iald X hP (ch_11_28 ks_11).1 (ch_11_28 ks_11).2 hij1 hjj1 dX11_layLines_5 ?_
  obtain ⟨l2_2, el2_2, hf⟩ := lt_inv hf
  refine r_eqi el2_2 ?_
  refine lv_istore_n (lv' := [(2, .int (i32 l2_2)), (0, .ref (gh G + 111)), (1, .int (i32 l1))]) X.1 X.2.1 dX11_layLines_6 rfl hl (by decide) rfl (fun ls hl => ?_)
  refine lv_aload_n X.1 X.2.1 dX11_layLines_7 rfl (lv_at hl 1 rfl) ?_
  refine g_11_27 (r := 127) X hP ks_11 rfl (tb t_1114 rfl) dX11_layLines_8 ?_
  refine lv_iload_n X.1 X.2.1 dX11_layLines_11 rfl (lv_at hl 2 rfl) ?_
  obtain ⟨j3, hij3, hjj3, hlj3, hf⟩ := ag_inv hf
  refine r_iald X hP (ch_11_27 ks_11).1 (ch_11_27 ks_11).2 hij3 hjj3 dX11_layLines_12 ?_
  obtain ⟨l3_4, el3_4, hf⟩ := lt_inv hf
  refine r_eqi el3_4 ?_
  refine lv_istore_n (lv' := [(3, .int (i32 l3_4)), (2, .int (i32 l2_2)), (0, .ref (gh G + 111)), (1, .int (i32 l1))]) X.1 X.2.1 dX11_layLines_13 rfl hl (by decide) rfl (fun ls hl => ?_)
  refine lv_aload_n X.1 X.2.1 dX11_layLines_14 rfl (lv_at hl 2 rfl) ?_
  refine g_11_26 (r := 126) X hP ks_11 rfl (tb t_1113 rfl) dX11_layLines_15 ?_
  refine lv_iload_n X.1 X.2.1 dX11_layLines_18 rfl (lv_at hl 3 rfl) ?_
  obtain ⟨j5, hij5, hjj5, hlj5, hf⟩ := ag_inv hf
  refine r_iald X hP (ch_11_26 ks_11).1 (ch_11_26 ks_11).2 hij5 hjj5 dX11_layLines_19 ?_
  obtain ⟨l4_6, el4_6, hf⟩ := lt_inv hf
  refine r_eqi el4_6 ?_
  refine lv_istore (lv' := [(4, .int (i32 l4_6)), (3, .int (i32 l3_4)), (2, .int (i32 l2_2)), (0, .ref (gh G + 111)), (1, .int (i32 l1))]) X.1 X.2.1 dX11_layLines_20 hl (by decide) rfl (fun ls hl => ?_)
  refine lv_aload_n X.1 X.2.1 dX11_layLines_22 rfl (lv_at hl 3 rfl) ?_
  refine lv_iload_n X.1 X.2.1 dX11_layLines_23 rfl (lv_at hl 2 rfl) ?_
  refine lv_iload_n X.1 X.2.1 dX11_layLines_24 rfl (lv_at hl 1 rfl) ?_
  obtain ⟨s8, hr7, hf⟩ := bd_inv hf
  refine k_X11_findTails X hP hS hl.1  hr7 (tb t_1385 rfl) (by decide) (Nat.le_of_ble_eq_true rfl) dX11_layLines_25 (fun H locs hP hS => ?_)
  refine lv_aload_n X.1 X.2.1 dX11_layLines_28 rfl (lv_at hl 3 rfl) ?_
  refine g_11_0 (r := 112) X hP ks_11 rfl (tb t_1087 rfl) dX11_layLines_29 ?_
  refine r_iconst X 1 dX11_layLines_32 ?_
  obtain ⟨j9, hij9, hjj9, hlj9, hf⟩ := ag_inv hf
  refine r_iald X hP (ch_11_0 ks_11).1 (ch_11_0 ks_11).2 hij9 hjj9 dX11_layLines_33 ?_
  obtain ⟨l5_10, el5_10, hf⟩ := lt_inv hf
  refine r_eqi el5_10 ?_
  refine lv_istore (lv' := [(5, .int (i32 l5_10)), (4, .int (i32 l4_6)), (3, .int (i32 l3_4)), (2, .int (i32 l2_2)), (0, .ref (gh G + 111)), (1, .int (i32 l1))]) X.1 X.2.1 dX11_layLines_34 hl (by decide) rfl (fun ls hl => ?_)
  refine lv_aload_n X.1 X.2.1 dX11_layLines_36 rfl (lv_at hl 4 rfl) ?_
  refine g_11_16 (r := 119) X hP ks_11 rfl (tb t_1103 rfl) dX11_layLines_37 ?_
  refine r_bipush X 41 (by decide) dX11_layLines_40 ?_
  refine lv_iload X.1 X.2.1 dX11_layLines_42 (lv_at hl 0 rfl) ?_
  refine r_imul X dX11_layLines_44 ?_
  refine lv_iload X.1 X.2.1 dX11_layLines_45 (lv_at hl 1 rfl) ?_
  refine r_iadd X dX11_layLines_47 ?_
  obtain ⟨j11, hij11, hjj11, hlj11, hf⟩ := ag_inv hf
  refine r_iald X hP (ch_11_16 ks_11).1 (ch_11_16 ks_11).2 hij11 hjj11 dX11_layLines_48 ?_
  obtain ⟨l6_12, el6_12, hf⟩ := lt_inv hf
  refine r_eqi el6_12 ?_
  refine lv_istore (lv' := [(6, .int (i32 l6_12)), (5, .int (i32 l5_10)), (4, .int (i32 l4_6)), (3, .int (i32 l3_4)), (2, .int (i32 l2_2)), (0, .ref (gh G + 111)), (1, .int (i32 l1))]) X.1 X.2.1 dX11_layLines_49 hl (by decide) rfl (fun ls hl => ?_)
  refine lv_aload_n X.1 X.2.1 dX11_layLines_51 rfl (lv_at hl 5 rfl) ?_
  refine g_11_30 (r := 130) X hP ks_11 rfl (tb t_1117 rfl) dX11_layLines_52 ?_
  refine lv_iload_n X.1 X.2.1 dX11_layLines_55 rfl (lv_at hl 6 rfl) ?_
  refine lv_iload X.1 X.2.1 dX11_layLines_56 (lv_at hl 0 rfl) ?_
  obtain ⟨j13, hij13, hjj13, hlj13, hf⟩ := ag_inv hf
  refine r_iast X hP hS (ch_11_30 ks_11).1 (ch_11_30 ks_11).2 hij13 hjj13 dX11_layLines_58 (fun H locs hP hS => ?_)
  obtain ⟨s14, es14, hf⟩ := lt_inv hf
  rw [es14] at hP
  refine lv_aload_n X.1 X.2.1 dX11_layLines_59 rfl (lv_at hl 5 rfl) ?_
  refine g_11_29 (r := 129) X hP ks_11 rfl (tb t_1116 rfl) dX11_layLines_60 ?_
  refine lv_iload_n X.1 X.2.1 dX11_layLines_63 rfl (lv_at hl 6 rfl) ?_
  refine r_iconst X 0 dX11_layLines_64 ?_
  obtain ⟨j15, hij15, hjj15, hlj15, hf⟩ := ag_inv hf
  refine r_iast X hP hS (ch_11_29 ks_11).1 (ch_11_29 ks_11).2 hij15 hjj15 dX11_layLines_65 (fun H locs hP hS => ?_)
  obtain ⟨s16, es16, hf⟩ := lt_inv hf
  rw [es16] at hP
  exact al_X11_layLines_66 X 5000 s16 H locs ls l1 l2_2 l3_4 l4_6 l5_10 l6_12 hP hS hf (lv_sub hl [5, 6, 4, 3, 2, 1, 0] rfl)
set_option maxHeartbeats 4000000 in
theorem c_X11_layLines {l : Launch} {G : GT} {σ τ : Mem} {l1 : Int} (hf : X11_layLines σ l1 = some τ) : CT l yX11_layLines cX11_layLines 8 none 3 110 G [.ref (gh G + 111), .int (i32 l1)] σ τ none := by
  refine CT.mk (own := RX11) (by decide) rfl (Nat.le_of_ble_eq_true rfl) ?_
  intro p e s m below meth c ls X hP hS hl
  have hl : lv_has ls 8 [(0, .ref (gh G + 111)), (1, .int (i32 l1))] := hl
  exact a_X11_layLines_0 X σ s.heap [] ls l1 hP hS hf hl
theorem k_X11_layLines {p : Program} {l : Launch} {e : Env} {R : Room} {s : State} {m : MethodId} {args : Array Value} {below : List Frame} {meth : Method} {c : Code} {H : Heap} {locs : List Loc} {Q : State → Prop} {cc : ByteArray} {nL : Nat} {own : String} {ret : Option FieldType} {fF fL : Nat} {G : GT} {pc idx : Nat} {ls : Array Slot} {rest : List Value} {σ τ : Mem} {l1 : Int} (X : CX p R s m args meth c cc nL own ret fF fL G) (hP : PW G σ H) (hS : va_S (AA G) s.heap H locs) (hls : ls.size = nL) (hf : X11_layLines σ l1 = some τ) (h1 : Cond.methodLink own idx yX11_layLines ∈ TB) (hR : 3 + 1 ≤ fF ∧ 8 + (8 + 11) + 110 ≤ fL) (hW : (rest.map fun v => v.category).sum ≤ 8) (hd : decode cc pc = .ok (.invokevirtual idx, 3)) (kk : ∀ (H1 : Heap) (locs1 : List Loc), PW G τ H1 → va_S (AA G) s.heap H1 locs1 → W p l e R s m args below meth c H1 locs1 0 0 Q (F0 m (pc + 3) ls (rest))) : W p l e R s m args below meth c H locs 0 0 Q (F0 m pc ls (.int (i32 l1) :: .ref (gh G + 111) :: rest)) := r_callV (n := 1) X hP hS hls (c_X11_layLines hf) h1 (tb t_1423 rfl) (tb t_64 rfl) (tb t_87 rfl) (tb t_1424 rfl) (by decide +kernel) hR (r_recv X hP (kd_lt ks_11 (by decide)) (cE_11 ks_11) rfl) rfl rfl hW hd kk
/-! X11_laysOut -/
theorem dX11_laysOut_0 : decode cX11_laysOut 0 = .ok (.aload_n 0, 1) := by decide +kernel
theorem dX11_laysOut_1 : decode cX11_laysOut 1 = .ok (.iload_n 1, 1) := by decide +kernel
theorem dX11_laysOut_2 : decode cX11_laysOut 2 = .ok (.invokevirtual 283, 3) := by decide +kernel
theorem dX11_laysOut_5 : decode cX11_laysOut 5 = .ok (.aload_n 0, 1) := by decide +kernel
theorem dX11_laysOut_6 : decode cX11_laysOut 6 = .ok (.iload_n 1, 1) := by decide +kernel
theorem dX11_laysOut_7 : decode cX11_laysOut 7 = .ok (.invokevirtual 286, 3) := by decide +kernel
theorem dX11_laysOut_10 : decode cX11_laysOut 10 = .ok (.ifCond .ne 5, 3) := by decide +kernel
theorem dX11_laysOut_13 : decode cX11_laysOut 13 = .ok (.iconst 0, 1) := by decide +kernel
theorem dX11_laysOut_14 : decode cX11_laysOut 14 = .ok (.ireturn, 1) := by decide +kernel
theorem dX11_laysOut_15 : decode cX11_laysOut 15 = .ok (.aload_n 0, 1) := by decide +kernel
theorem dX11_laysOut_16 : decode cX11_laysOut 16 = .ok (.iconst 0, 1) := by decide +kernel
theorem dX11_laysOut_17 : decode cX11_laysOut 17 = .ok (.putfield 289, 3) := by decide +kernel
theorem dX11_laysOut_20 : decode cX11_laysOut 20 = .ok (.aload_n 0, 1) := by decide +kernel
theorem dX11_laysOut_21 : decode cX11_laysOut 21 = .ok (.iconst 0, 1) := by decide +kernel
theorem dX11_laysOut_22 : decode cX11_laysOut 22 = .ok (.putfield 280, 3) := by decide +kernel
theorem dX11_laysOut_25 : decode cX11_laysOut 25 = .ok (.aload_n 0, 1) := by decide +kernel
theorem dX11_laysOut_26 : decode cX11_laysOut 26 = .ok (.iconst 0, 1) := by decide +kernel
theorem dX11_laysOut_27 : decode cX11_laysOut 27 = .ok (.putfield 292, 3) := by decide +kernel
theorem dX11_laysOut_30 : decode cX11_laysOut 30 = .ok (.iconst 0, 1) := by decide +kernel
theorem dX11_laysOut_31 : decode cX11_laysOut 31 = .ok (.istore_n 2, 1) := by decide +kernel
theorem dX11_laysOut_32 : decode cX11_laysOut 32 = .ok (.iload_n 2, 1) := by decide +kernel
theorem dX11_laysOut_33 : decode cX11_laysOut 33 = .ok (.aload_n 0, 1) := by decide +kernel
theorem dX11_laysOut_34 : decode cX11_laysOut 34 = .ok (.iload_n 1, 1) := by decide +kernel
theorem dX11_laysOut_35 : decode cX11_laysOut 35 = .ok (.invokevirtual 101, 3) := by decide +kernel
theorem dX11_laysOut_38 : decode cX11_laysOut 38 = .ok (.if_icmp .ge 166, 3) := by decide +kernel
theorem dX11_laysOut_41 : decode cX11_laysOut 41 = .ok (.bipush 41, 2) := by decide +kernel
theorem dX11_laysOut_43 : decode cX11_laysOut 43 = .ok (.aload_n 0, 1) := by decide +kernel
theorem dX11_laysOut_44 : decode cX11_laysOut 44 = .ok (.getfield 289, 3) := by decide +kernel
theorem dX11_laysOut_47 : decode cX11_laysOut 47 = .ok (.imul, 1) := by decide +kernel
theorem dX11_laysOut_48 : decode cX11_laysOut 48 = .ok (.iload_n 2, 1) := by decide +kernel
theorem dX11_laysOut_49 : decode cX11_laysOut 49 = .ok (.iadd, 1) := by decide +kernel
theorem dX11_laysOut_50 : decode cX11_laysOut 50 = .ok (.istore_n 3, 1) := by decide +kernel
theorem dX11_laysOut_51 : decode cX11_laysOut 51 = .ok (.aload_n 0, 1) := by decide +kernel
theorem dX11_laysOut_52 : decode cX11_laysOut 52 = .ok (.getfield 47, 3) := by decide +kernel
theorem dX11_laysOut_55 : decode cX11_laysOut 55 = .ok (.iload_n 3, 1) := by decide +kernel
theorem dX11_laysOut_56 : decode cX11_laysOut 56 = .ok (.iaload, 1) := by decide +kernel
theorem dX11_laysOut_57 : decode cX11_laysOut 57 = .ok (.istore 4, 2) := by decide +kernel
theorem dX11_laysOut_59 : decode cX11_laysOut 59 = .ok (.iload 4, 2) := by decide +kernel
theorem dX11_laysOut_61 : decode cX11_laysOut 61 = .ok (.aload_n 0, 1) := by decide +kernel
theorem dX11_laysOut_62 : decode cX11_laysOut 62 = .ok (.iload_n 1, 1) := by decide +kernel
theorem dX11_laysOut_63 : decode cX11_laysOut 63 = .ok (.invokevirtual 101, 3) := by decide +kernel
theorem dX11_laysOut_66 : decode cX11_laysOut 66 = .ok (.iconst 1, 1) := by decide +kernel
theorem dX11_laysOut_67 : decode cX11_laysOut 67 = .ok (.isub, 1) := by decide +kernel
theorem dX11_laysOut_68 : decode cX11_laysOut 68 = .ok (.if_icmp .ge 19, 3) := by decide +kernel
theorem dX11_laysOut_71 : decode cX11_laysOut 71 = .ok (.aload_n 0, 1) := by decide +kernel
theorem dX11_laysOut_72 : decode cX11_laysOut 72 = .ok (.iload_n 1, 1) := by decide +kernel
theorem dX11_laysOut_73 : decode cX11_laysOut 73 = .ok (.aload_n 0, 1) := by decide +kernel
theorem dX11_laysOut_74 : decode cX11_laysOut 74 = .ok (.getfield 289, 3) := by decide +kernel
theorem dX11_laysOut_77 : decode cX11_laysOut 77 = .ok (.invokevirtual 269, 3) := by decide +kernel
theorem dX11_laysOut_80 : decode cX11_laysOut 80 = .ok (.ifCond .eq 7, 3) := by decide +kernel
theorem dX11_laysOut_83 : decode cX11_laysOut 83 = .ok (.iconst 1, 1) := by decide +kernel
theorem dX11_laysOut_84 : decode cX11_laysOut 84 = .ok (.goto 4, 3) := by decide +kernel
theorem dX11_laysOut_87 : decode cX11_laysOut 87 = .ok (.iconst 0, 1) := by decide +kernel
theorem dX11_laysOut_88 : decode cX11_laysOut 88 = .ok (.istore 5, 2) := by decide +kernel
theorem dX11_laysOut_90 : decode cX11_laysOut 90 = .ok (.aload_n 0, 1) := by decide +kernel
theorem dX11_laysOut_91 : decode cX11_laysOut 91 = .ok (.getfield 53, 3) := by decide +kernel
theorem dX11_laysOut_94 : decode cX11_laysOut 94 = .ok (.aload_n 0, 1) := by decide +kernel
theorem dX11_laysOut_95 : decode cX11_laysOut 95 = .ok (.getfield 289, 3) := by decide +kernel
theorem dX11_laysOut_98 : decode cX11_laysOut 98 = .ok (.iload_n 2, 1) := by decide +kernel
theorem dX11_laysOut_99 : decode cX11_laysOut 99 = .ok (.iastore, 1) := by decide +kernel
theorem dX11_laysOut_100 : decode cX11_laysOut 100 = .ok (.aload_n 0, 1) := by decide +kernel
theorem dX11_laysOut_101 : decode cX11_laysOut 101 = .ok (.getfield 56, 3) := by decide +kernel
theorem dX11_laysOut_104 : decode cX11_laysOut 104 = .ok (.aload_n 0, 1) := by decide +kernel
theorem dX11_laysOut_105 : decode cX11_laysOut 105 = .ok (.getfield 289, 3) := by decide +kernel
theorem dX11_laysOut_108 : decode cX11_laysOut 108 = .ok (.iload 4, 2) := by decide +kernel
theorem dX11_laysOut_110 : decode cX11_laysOut 110 = .ok (.iastore, 1) := by decide +kernel
theorem dX11_laysOut_111 : decode cX11_laysOut 111 = .ok (.aload_n 0, 1) := by decide +kernel
theorem dX11_laysOut_112 : decode cX11_laysOut 112 = .ok (.getfield 59, 3) := by decide +kernel
theorem dX11_laysOut_115 : decode cX11_laysOut 115 = .ok (.aload_n 0, 1) := by decide +kernel
theorem dX11_laysOut_116 : decode cX11_laysOut 116 = .ok (.getfield 289, 3) := by decide +kernel
theorem dX11_laysOut_119 : decode cX11_laysOut 119 = .ok (.aload_n 0, 1) := by decide +kernel
theorem dX11_laysOut_120 : decode cX11_laysOut 120 = .ok (.getfield 50, 3) := by decide +kernel
theorem dX11_laysOut_123 : decode cX11_laysOut 123 = .ok (.iload_n 3, 1) := by decide +kernel
theorem dX11_laysOut_124 : decode cX11_laysOut 124 = .ok (.iaload, 1) := by decide +kernel
theorem dX11_laysOut_125 : decode cX11_laysOut 125 = .ok (.iastore, 1) := by decide +kernel
theorem dX11_laysOut_126 : decode cX11_laysOut 126 = .ok (.aload_n 0, 1) := by decide +kernel
theorem dX11_laysOut_127 : decode cX11_laysOut 127 = .ok (.getfield 68, 3) := by decide +kernel
theorem dX11_laysOut_130 : decode cX11_laysOut 130 = .ok (.aload_n 0, 1) := by decide +kernel
theorem dX11_laysOut_131 : decode cX11_laysOut 131 = .ok (.getfield 289, 3) := by decide +kernel
theorem dX11_laysOut_134 : decode cX11_laysOut 134 = .ok (.iload 5, 2) := by decide +kernel
theorem dX11_laysOut_136 : decode cX11_laysOut 136 = .ok (.ifCond .ne 7, 3) := by decide +kernel
theorem dX11_laysOut_139 : decode cX11_laysOut 139 = .ok (.iconst 0, 1) := by decide +kernel
theorem dX11_laysOut_140 : decode cX11_laysOut 140 = .ok (.goto 18, 3) := by decide +kernel
theorem dX11_laysOut_143 : decode cX11_laysOut 143 = .ok (.aload_n 0, 1) := by decide +kernel
theorem dX11_laysOut_144 : decode cX11_laysOut 144 = .ok (.getfield 34, 3) := by decide +kernel
theorem dX11_laysOut_147 : decode cX11_laysOut 147 = .ok (.iload 4, 2) := by decide +kernel
theorem dX11_laysOut_149 : decode cX11_laysOut 149 = .ok (.baload, 1) := by decide +kernel
theorem dX11_laysOut_150 : decode cX11_laysOut 150 = .ok (.ifCond .eq 7, 3) := by decide +kernel
theorem dX11_laysOut_153 : decode cX11_laysOut 153 = .ok (.iconst 2, 1) := by decide +kernel
theorem dX11_laysOut_154 : decode cX11_laysOut 154 = .ok (.goto 4, 3) := by decide +kernel
theorem dX11_laysOut_157 : decode cX11_laysOut 157 = .ok (.iconst 1, 1) := by decide +kernel
theorem dX11_laysOut_158 : decode cX11_laysOut 158 = .ok (.iastore, 1) := by decide +kernel
theorem dX11_laysOut_159 : decode cX11_laysOut 159 = .ok (.aload_n 0, 1) := by decide +kernel
theorem dX11_laysOut_160 : decode cX11_laysOut 160 = .ok (.dup, 1) := by decide +kernel
theorem dX11_laysOut_161 : decode cX11_laysOut 161 = .ok (.getfield 292, 3) := by decide +kernel
theorem dX11_laysOut_164 : decode cX11_laysOut 164 = .ok (.iload 5, 2) := by decide +kernel
theorem dX11_laysOut_166 : decode cX11_laysOut 166 = .ok (.ifCond .eq 7, 3) := by decide +kernel
theorem dX11_laysOut_169 : decode cX11_laysOut 169 = .ok (.iconst 1, 1) := by decide +kernel
theorem dX11_laysOut_170 : decode cX11_laysOut 170 = .ok (.goto 4, 3) := by decide +kernel
theorem dX11_laysOut_173 : decode cX11_laysOut 173 = .ok (.iconst 0, 1) := by decide +kernel
theorem dX11_laysOut_174 : decode cX11_laysOut 174 = .ok (.iadd, 1) := by decide +kernel
theorem dX11_laysOut_175 : decode cX11_laysOut 175 = .ok (.putfield 292, 3) := by decide +kernel
theorem dX11_laysOut_178 : decode cX11_laysOut 178 = .ok (.aload_n 0, 1) := by decide +kernel
theorem dX11_laysOut_179 : decode cX11_laysOut 179 = .ok (.aload_n 0, 1) := by decide +kernel
theorem dX11_laysOut_180 : decode cX11_laysOut 180 = .ok (.getfield 289, 3) := by decide +kernel
theorem dX11_laysOut_183 : decode cX11_laysOut 183 = .ok (.invokevirtual 295, 3) := by decide +kernel
theorem dX11_laysOut_186 : decode cX11_laysOut 186 = .ok (.aload_n 0, 1) := by decide +kernel
theorem dX11_laysOut_187 : decode cX11_laysOut 187 = .ok (.dup, 1) := by decide +kernel
theorem dX11_laysOut_188 : decode cX11_laysOut 188 = .ok (.getfield 289, 3) := by decide +kernel
theorem dX11_laysOut_191 : decode cX11_laysOut 191 = .ok (.iconst 1, 1) := by decide +kernel
theorem dX11_laysOut_192 : decode cX11_laysOut 192 = .ok (.iadd, 1) := by decide +kernel
theorem dX11_laysOut_193 : decode cX11_laysOut 193 = .ok (.putfield 289, 3) := by decide +kernel
theorem dX11_laysOut_196 : decode cX11_laysOut 196 = .ok (.iload 4, 2) := by decide +kernel
theorem dX11_laysOut_198 : decode cX11_laysOut 198 = .ok (.iconst 1, 1) := by decide +kernel
theorem dX11_laysOut_199 : decode cX11_laysOut 199 = .ok (.iadd, 1) := by decide +kernel
theorem dX11_laysOut_200 : decode cX11_laysOut 200 = .ok (.istore_n 2, 1) := by decide +kernel
theorem dX11_laysOut_201 : decode cX11_laysOut 201 = .ok (.goto (-169), 3) := by decide +kernel
theorem dX11_laysOut_204 : decode cX11_laysOut 204 = .ok (.iconst 1, 1) := by decide +kernel
theorem dX11_laysOut_205 : decode cX11_laysOut 205 = .ok (.ireturn, 1) := by decide +kernel
def S_X11_laysOut_32 (fn : Mem → Int → Int → Option (Int × Mem)) (p : Program) (l : Launch) (e : Env) (R : Room) (s : State) (m : MethodId) (args : Array Value) (below : List Frame) (meth : Method) (c : Code) (G : GT) (τ : Mem) (res : Int) : Prop := ∀ (σ : Mem) (H : Heap) (locs : List Loc) (ls : Array Slot) (l1 : Int) (l2 : Int), PW G σ H → va_S (AA G) s.heap H locs → fn σ l1 l2 = some (res, τ) → lv_has ls 6 [(0, .ref (gh G + 111)), (1, .int (i32 l1)), (2, .int (i32 l2))] → W p l e R s m args below meth c H locs 0 0 (MQ below (QM G (some (.int (i32 res))) τ) args s 0 0 (AA G)) (F0 m 32 ls [])
def X11_laysOut_B174 (rec32 : Mem → Int → Int → Option (Int × Mem)) (σ : Mem) (l1 : Int) (l4 : Int) (k1 : Int) (k2 : Int) : Option (Int × Mem) :=
  lt (st σ 111 25 (k1 + k2)) fun s1 =>
  bd (X11_layLines s1 (s1 111 23)) fun s3 =>
  lt (st s3 111 23 ((s3 111 23) + 1)) fun s4 =>
  lt (l4 + 1) fun l2_5 =>
  rec32 s4 l1 l2_5
def S_X11_laysOut_174 (fn : Mem → Int → Int → Int → Int → Option (Int × Mem)) (p : Program) (l : Launch) (e : Env) (R : Room) (s : State) (m : MethodId) (args : Array Value) (below : List Frame) (meth : Method) (c : Code) (G : GT) (τ : Mem) (res : Int) : Prop := ∀ (σ : Mem) (H : Heap) (locs : List Loc) (ls : Array Slot) (l1 : Int) (l4 : Int) (k1 : Int) (k2 : Int), PW G σ H → va_S (AA G) s.heap H locs → fn σ l1 l4 k1 k2 = some (res, τ) → lv_has ls 6 [(0, .ref (gh G + 111)), (1, .int (i32 l1)), (4, .int (i32 l4))] → W p l e R s m args below meth c H locs 0 0 (MQ below (QM G (some (.int (i32 res))) τ) args s 0 0 (AA G)) (F0 m 174 ls [.int (i32 k2), .int (i32 k1), .ref (gh G + 111)])
def X11_laysOut_B158 (rec32 : Mem → Int → Int → Option (Int × Mem)) (σ : Mem) (l1 : Int) (l4 : Int) (l5 : Int) (k0 : Nat) (k1 : Int) (k2 : Int) : Option (Int × Mem) :=
  ag 40 k1 fun j1 =>
  lt (st σ k0 j1 k2) fun s2 =>
  if w32 l5 = 0 then
    X11_laysOut_B174 rec32 s2 l1 l4 (s2 111 25) 0
  else
  X11_laysOut_B174 rec32 s2 l1 l4 (s2 111 25) 1
def S_X11_laysOut_158 (fn : Mem → Int → Int → Int → Nat → Int → Int → Option (Int × Mem)) (p : Program) (l : Launch) (e : Env) (R : Room) (s : State) (m : MethodId) (args : Array Value) (below : List Frame) (meth : Method) (c : Code) (G : GT) (τ : Mem) (res : Int) : Prop := ∀ (σ : Mem) (H : Heap) (locs : List Loc) (ls : Array Slot) (l1 : Int) (l4 : Int) (l5 : Int) (k0 : Nat) (k1 : Int) (k2 : Int), kd k0 = 13 → ln k0 = 40 → PW G σ H → va_S (AA G) s.heap H locs → fn σ l1 l4 l5 k0 k1 k2 = some (res, τ) → lv_has ls 6 [(0, .ref (gh G + 111)), (1, .int (i32 l1)), (4, .int (i32 l4)), (5, .int (i32 l5))] → W p l e R s m args below meth c H locs 0 0 (MQ below (QM G (some (.int (i32 res))) τ) args s 0 0 (AA G)) (F0 m 158 ls [.int (i32 k2), .int (i32 k1), .ref (gh G + k0)])
def X11_laysOut_B88 (rec32 : Mem → Int → Int → Option (Int × Mem)) (σ : Mem) (l1 : Int) (l2 : Int) (l3 : Int) (l4 : Int) (k0 : Int) : Option (Int × Mem) :=
  ag 40 (σ 111 23) fun j1 =>
  lt (st σ 126 j1 l2) fun s2 =>
  ag 40 (s2 111 23) fun j3 =>
  lt (st s2 127 j3 l4) fun s4 =>
  ag 1681 l3 fun j5 =>
  ag 40 (s4 111 23) fun j6 =>
  lt (st s4 128 j6 (s4 125 j5)) fun s7 =>
  if w32 k0 ≠ 0 then
    ag 40 l4 fun j8 =>
    if w32 (s7 120 j8) = 0 then
      X11_laysOut_B158 rec32 s7 l1 l4 k0 131 (s7 111 23) 1
    else
    X11_laysOut_B158 rec32 s7 l1 l4 k0 131 (s7 111 23) 2
  else
  X11_laysOut_B158 rec32 s7 l1 l4 k0 131 (s7 111 23) 0
def S_X11_laysOut_88 (fn : Mem → Int → Int → Int → Int → Int → Option (Int × Mem)) (p : Program) (l : Launch) (e : Env) (R : Room) (s : State) (m : MethodId) (args : Array Value) (below : List Frame) (meth : Method) (c : Code) (G : GT) (τ : Mem) (res : Int) : Prop := ∀ (σ : Mem) (H : Heap) (locs : List Loc) (ls : Array Slot) (l1 : Int) (l2 : Int) (l3 : Int) (l4 : Int) (k0 : Int), PW G σ H → va_S (AA G) s.heap H locs → fn σ l1 l2 l3 l4 k0 = some (res, τ) → lv_has ls 6 [(0, .ref (gh G + 111)), (1, .int (i32 l1)), (2, .int (i32 l2)), (3, .int (i32 l3)), (4, .int (i32 l4))] → W p l e R s m args below meth c H locs 0 0 (MQ below (QM G (some (.int (i32 res))) τ) args s 0 0 (AA G)) (F0 m 88 ls [.int (i32 k0)])
def X11_laysOut_B87 (rec32 : Mem → Int → Int → Option (Int × Mem)) (σ : Mem) (l1 : Int) (l2 : Int) (l3 : Int) (l4 : Int) : Option (Int × Mem) :=
  X11_laysOut_B88 rec32 σ l1 l2 l3 l4 0
def S_X11_laysOut_87 (fn : Mem → Int → Int → Int → Int → Option (Int × Mem)) (p : Program) (l : Launch) (e : Env) (R : Room) (s : State) (m : MethodId) (args : Array Value) (below : List Frame) (meth : Method) (c : Code) (G : GT) (τ : Mem) (res : Int) : Prop := ∀ (σ : Mem) (H : Heap) (locs : List Loc) (ls : Array Slot) (l1 : Int) (l2 : Int) (l3 : Int) (l4 : Int), PW G σ H → va_S (AA G) s.heap H locs → fn σ l1 l2 l3 l4 = some (res, τ) → lv_has ls 6 [(0, .ref (gh G + 111)), (1, .int (i32 l1)), (2, .int (i32 l2)), (3, .int (i32 l3)), (4, .int (i32 l4))] → W p l e R s m args below meth c H locs 0 0 (MQ below (QM G (some (.int (i32 res))) τ) args s 0 0 (AA G)) (F0 m 87 ls [])
def X11_laysOut_B32 (rec32 : Mem → Int → Int → Option (Int × Mem)) (σ : Mem) (l1 : Int) (l2 : Int) : Option (Int × Mem) :=
  bd (X11_bars σ l1) fun r1 =>
  if w32 r1 ≤ w32 l2 then
    some (1, σ)
  else
  lt ((41 * (σ 111 23)) + l2) fun l3_2 =>
  ag 1681 l3_2 fun j3 =>
  lt (σ 124 j3) fun l4_4 =>
  bd (X11_bars σ l1) fun r5 =>
  if w32 (r5 - 1) ≤ w32 l4_4 then
    X11_laysOut_B87 rec32 σ l1 l2 l3_2 l4_4
  else
  bd (X11_isTurn σ l1 (σ 111 23)) fun r6 =>
  if w32 r6 = 0 then
    X11_laysOut_B87 rec32 σ l1 l2 l3_2 l4_4
  else
  X11_laysOut_B88 rec32 σ l1 l2 l3_2 l4_4 1
def X11_laysOut_L32 : Nat → Mem → Int → Int → Option (Int × Mem)
  | 0 => fun _ _ _ => none
  | n + 1 => X11_laysOut_B32 (X11_laysOut_L32 n)
def X11_laysOut (σ : Mem) (l1 : Int) : Option (Int × Mem) :=
  bd (X11_findPages σ l1) fun s2 =>
  bd2 (X11_lays s2 l1) fun r3 s4 =>
  if w32 r3 ≠ 0 then
    lt (st s4 111 23 0) fun s5 =>
    lt (st s5 111 24 0) fun s6 =>
    lt (st s6 111 25 0) fun s7 =>
    X11_laysOut_L32 5000 s7 l1 0
  else
  some (0, s4)
def S_X11_laysOut_0 (fn : Mem → Int → Option (Int × Mem)) (p : Program) (l : Launch) (e : Env) (R : Room) (s : State) (m : MethodId) (args : Array Value) (below : List Frame) (meth : Method) (c : Code) (G : GT) (τ : Mem) (res : Int) : Prop := ∀ (σ : Mem) (H : Heap) (locs : List Loc) (ls : Array Slot) (l1 : Int), PW G σ H → va_S (AA G) s.heap H locs → fn σ l1 = some (res, τ) → lv_has ls 6 [(0, .ref (gh G + 111)), (1, .int (i32 l1))] → W p l e R s m args below meth c H locs 0 0 (MQ below (QM G (some (.int (i32 res))) τ) args s 0 0 (AA G)) (F0 m 0 ls [])
set_option maxHeartbeats 4000000 in
theorem a_X11_laysOut_174 {p : Program} {l : Launch} {e : Env} {R : Room} {s : State} {m : MethodId} {args : Array Value} {below : List Frame} {meth : Method} {c : Code} {G : GT} {τ : Mem} {res : Int} {rec32 : Mem → Int → Int → Option (Int × Mem)} (X : CX p R s m args meth c cX11_laysOut 6 RX11 (some FieldType.boolean) 9 245 G) (h32 : S_X11_laysOut_32 rec32 p l e R s m args below meth c G τ res) : S_X11_laysOut_174 (X11_laysOut_B174 rec32) p l e R s m args below meth c G τ res := by
  intro σ H locs ls l1 l4 k1 k2 hP hS hf hl
  unfold X11_laysOut_B174 at hf
  refine r_iadd X dX11_laysOut_174 ?_
  refine p_11_25 X hP hS ks_11 (tb t_1112 rfl) dX11_laysOut_175 (fun H locs hP hS => ?_)
  obtain ⟨s1, es1, hf⟩ := lt_inv hf
  rw [es1] at hP
  refine lv_aload_n X.1 X.2.1 dX11_laysOut_178 rfl (lv_at hl 0 rfl) ?_
  refine lv_aload_n X.1 X.2.1 dX11_laysOut_179 rfl (lv_at hl 0 rfl) ?_
  refine g_11_23 X hP ks_11 (tb t_1110 rfl) dX11_laysOut_180 ?_
  obtain ⟨s3, hr2, hf⟩ := bd_inv hf
  refine k_X11_layLines X hP hS hl.1  hr2 (tb t_1421 rfl) (by decide) (Nat.le_of_ble_eq_true rfl) dX11_laysOut_183 (fun H locs hP hS => ?_)
  refine lv_aload_n X.1 X.2.1 dX11_laysOut_186 rfl (lv_at hl 0 rfl) ?_
  refine lv_dup X.1 X.2.1 dX11_laysOut_187 rfl ?_
  refine g_11_23 X hP ks_11 (tb t_1110 rfl) dX11_laysOut_188 ?_
  refine r_iconst X 1 dX11_laysOut_191 ?_
  refine r_iadd X dX11_laysOut_192 ?_
  refine p_11_23 X hP hS ks_11 (tb t_1110 rfl) dX11_laysOut_193 (fun H locs hP hS => ?_)
  obtain ⟨s4, es4, hf⟩ := lt_inv hf
  rw [es4] at hP
  refine lv_iload X.1 X.2.1 dX11_laysOut_196 (lv_at hl 2 rfl) ?_
  refine r_iconst X 1 dX11_laysOut_198 ?_
  refine r_iadd X dX11_laysOut_199 ?_
  obtain ⟨l2_5, el2_5, hf⟩ := lt_inv hf
  refine r_eqi el2_5 ?_
  refine lv_istore_n (lv' := [(2, .int (i32 l2_5)), (0, .ref (gh G + 111)), (1, .int (i32 l1)), (4, .int (i32 l4))]) X.1 X.2.1 dX11_laysOut_200 rfl hl (by decide) rfl (fun ls hl => ?_)
  refine lv_goto (tgt := 32) X.1 X.2.1 dX11_laysOut_201 (by decide) ?_
  exact h32 s4 H locs ls l1 l2_5 hP hS hf (lv_sub hl [1, 2, 0] rfl)
set_option maxHeartbeats 4000000 in
theorem a_X11_laysOut_158 {p : Program} {l : Launch} {e : Env} {R : Room} {s : State} {m : MethodId} {args : Array Value} {below : List Frame} {meth : Method} {c : Code} {G : GT} {τ : Mem} {res : Int} {rec32 : Mem → Int → Int → Option (Int × Mem)} (X : CX p R s m args meth c cX11_laysOut 6 RX11 (some FieldType.boolean) 9 245 G) (h32 : S_X11_laysOut_32 rec32 p l e R s m args below meth c G τ res) : S_X11_laysOut_158 (X11_laysOut_B158 rec32) p l e R s m args below meth c G τ res := by
  intro σ H locs ls l1 l4 l5 k0 k1 k2 hk_k0 hn_k0 hP hS hf hl
  unfold X11_laysOut_B158 at hf
  obtain ⟨j1, hij1, hjj1, hlj1, hf⟩ := ag_inv hf
  refine r_iast X hP hS hk_k0 hn_k0 hij1 hjj1 dX11_laysOut_158 (fun H locs hP hS => ?_)
  obtain ⟨s2, es2, hf⟩ := lt_inv hf
  rw [es2] at hP
  refine lv_aload_n X.1 X.2.1 dX11_laysOut_159 rfl (lv_at hl 0 rfl) ?_
  refine lv_dup X.1 X.2.1 dX11_laysOut_160 rfl ?_
  refine g_11_25 X hP ks_11 (tb t_1112 rfl) dX11_laysOut_161 ?_
  refine lv_iload X.1 X.2.1 dX11_laysOut_164 (lv_at hl 3 rfl) ?_
  refine r_if_eq (tgt := 173) X dX11_laysOut_166 (by decide) (fun q => ?_) (fun q => ?_)
  · replace hf := it_inv q hf
    refine r_iconst X 0 dX11_laysOut_173 ?_
    exact a_X11_laysOut_174 X h32 s2 H locs ls l1 l4 (s2 111 25) 0 hP hS hf (lv_sub hl [0, 1, 2] rfl)
  · replace hf := ie_inv q hf
    refine r_iconst X 1 dX11_laysOut_169 ?_
    refine lv_goto (tgt := 174) X.1 X.2.1 dX11_laysOut_170 (by decide) ?_
    exact a_X11_laysOut_174 X h32 s2 H locs ls l1 l4 (s2 111 25) 1 hP hS hf (lv_sub hl [0, 1, 2] rfl)
set_option maxHeartbeats 4000000 in
theorem a_X11_laysOut_88 {p : Program} {l : Launch} {e : Env} {R : Room} {s : State} {m : MethodId} {args : Array Value} {below : List Frame} {meth : Method} {c : Code} {G : GT} {τ : Mem} {res : Int} {rec32 : Mem → Int → Int → Option (Int × Mem)} (X : CX p R s m args meth c cX11_laysOut 6 RX11 (some FieldType.boolean) 9 245 G) (h32 : S_X11_laysOut_32 rec32 p l e R s m args below meth c G τ res) : S_X11_laysOut_88 (X11_laysOut_B88 rec32) p l e R s m args below meth c G τ res := by
  intro σ H locs ls l1 l2 l3 l4 k0 hP hS hf hl
  unfold X11_laysOut_B88 at hf
  refine lv_istore (lv' := [(5, .int (i32 k0)), (0, .ref (gh G + 111)), (1, .int (i32 l1)), (2, .int (i32 l2)), (3, .int (i32 l3)), (4, .int (i32 l4))]) X.1 X.2.1 dX11_laysOut_88 hl (by decide) rfl (fun ls hl => ?_)
  refine lv_aload_n X.1 X.2.1 dX11_laysOut_90 rfl (lv_at hl 1 rfl) ?_
  refine g_11_26 (r := 126) X hP ks_11 rfl (tb t_1113 rfl) dX11_laysOut_91 ?_
  refine lv_aload_n X.1 X.2.1 dX11_laysOut_94 rfl (lv_at hl 1 rfl) ?_
  refine g_11_23 X hP ks_11 (tb t_1110 rfl) dX11_laysOut_95 ?_
  refine lv_iload_n X.1 X.2.1 dX11_laysOut_98 rfl (lv_at hl 3 rfl) ?_
  obtain ⟨j1, hij1, hjj1, hlj1, hf⟩ := ag_inv hf
  refine r_iast X hP hS (ch_11_26 ks_11).1 (ch_11_26 ks_11).2 hij1 hjj1 dX11_laysOut_99 (fun H locs hP hS => ?_)
  obtain ⟨s2, es2, hf⟩ := lt_inv hf
  rw [es2] at hP
  refine lv_aload_n X.1 X.2.1 dX11_laysOut_100 rfl (lv_at hl 1 rfl) ?_
  refine g_11_27 (r := 127) X hP ks_11 rfl (tb t_1114 rfl) dX11_laysOut_101 ?_
  refine lv_aload_n X.1 X.2.1 dX11_laysOut_104 rfl (lv_at hl 1 rfl) ?_
  refine g_11_23 X hP ks_11 (tb t_1110 rfl) dX11_laysOut_105 ?_
  refine lv_iload X.1 X.2.1 dX11_laysOut_108 (lv_at hl 5 rfl) ?_
  obtain ⟨j3, hij3, hjj3, hlj3, hf⟩ := ag_inv hf
  refine r_iast X hP hS (ch_11_27 ks_11).1 (ch_11_27 ks_11).2 hij3 hjj3 dX11_laysOut_110 (fun H locs hP hS => ?_)
  obtain ⟨s4, es4, hf⟩ := lt_inv hf
  rw [es4] at hP
  refine lv_aload_n X.1 X.2.1 dX11_laysOut_111 rfl (lv_at hl 1 rfl) ?_
  refine g_11_28 (r := 128) X hP ks_11 rfl (tb t_1115 rfl) dX11_laysOut_112 ?_
  refine lv_aload_n X.1 X.2.1 dX11_laysOut_115 rfl (lv_at hl 1 rfl) ?_
  refine g_11_23 X hP ks_11 (tb t_1110 rfl) dX11_laysOut_116 ?_
  refine lv_aload_n X.1 X.2.1 dX11_laysOut_119 rfl (lv_at hl 1 rfl) ?_
  refine g_11_22 (r := 125) X hP ks_11 rfl (tb t_1109 rfl) dX11_laysOut_120 ?_
  refine lv_iload_n X.1 X.2.1 dX11_laysOut_123 rfl (lv_at hl 4 rfl) ?_
  obtain ⟨j5, hij5, hjj5, hlj5, hf⟩ := ag_inv hf
  refine r_iald X hP (ch_11_22 ks_11).1 (ch_11_22 ks_11).2 hij5 hjj5 dX11_laysOut_124 ?_
  obtain ⟨j6, hij6, hjj6, hlj6, hf⟩ := ag_inv hf
  refine r_iast X hP hS (ch_11_28 ks_11).1 (ch_11_28 ks_11).2 hij6 hjj6 dX11_laysOut_125 (fun H locs hP hS => ?_)
  obtain ⟨s7, es7, hf⟩ := lt_inv hf
  rw [es7] at hP
  refine lv_aload_n X.1 X.2.1 dX11_laysOut_126 rfl (lv_at hl 1 rfl) ?_
  refine g_11_31 (r := 131) X hP ks_11 rfl (tb t_1118 rfl) dX11_laysOut_127 ?_
  refine lv_aload_n X.1 X.2.1 dX11_laysOut_130 rfl (lv_at hl 1 rfl) ?_
  refine g_11_23 X hP ks_11 (tb t_1110 rfl) dX11_laysOut_131 ?_
  refine lv_iload X.1 X.2.1 dX11_laysOut_134 (lv_at hl 0 rfl) ?_
  refine r_if_ne (tgt := 143) X dX11_laysOut_136 (by decide) (fun q => ?_) (fun q => ?_)
  · replace hf := it_inv q hf
    refine lv_aload_n X.1 X.2.1 dX11_laysOut_143 rfl (lv_at hl 1 rfl) ?_
    refine g_11_17 (r := 120) X hP ks_11 rfl (tb t_1104 rfl) dX11_laysOut_144 ?_
    refine lv_iload X.1 X.2.1 dX11_laysOut_147 (lv_at hl 5 rfl) ?_
    obtain ⟨j8, hij8, hjj8, hlj8, hf⟩ := ag_inv hf
    refine r_zald X hP (ch_11_17 ks_11).1 (ch_11_17 ks_11).2 hij8 hjj8 dX11_laysOut_149 ?_
    refine r_if_eq (tgt := 157) X dX11_laysOut_150 (by decide) (fun q => ?_) (fun q => ?_)
    · replace hf := it_inv q hf
      refine r_iconst X 1 dX11_laysOut_157 ?_
      exact a_X11_laysOut_158 X h32 s7 H locs ls l1 l4 k0 131 (s7 111 23) 1 (ch_11_31 ks_11).1 (ch_11_31 ks_11).2 hP hS hf (lv_sub hl [1, 2, 5, 0] rfl)
    · replace hf := ie_inv q hf
      refine r_iconst X 2 dX11_laysOut_153 ?_
      refine lv_goto (tgt := 158) X.1 X.2.1 dX11_laysOut_154 (by decide) ?_
      exact a_X11_laysOut_158 X h32 s7 H locs ls l1 l4 k0 131 (s7 111 23) 2 (ch_11_31 ks_11).1 (ch_11_31 ks_11).2 hP hS hf (lv_sub hl [1, 2, 5, 0] rfl)
  · replace hf := ie_inv q hf
    refine r_iconst X 0 dX11_laysOut_139 ?_
    refine lv_goto (tgt := 158) X.1 X.2.1 dX11_laysOut_140 (by decide) ?_
    exact a_X11_laysOut_158 X h32 s7 H locs ls l1 l4 k0 131 (s7 111 23) 0 (ch_11_31 ks_11).1 (ch_11_31 ks_11).2 hP hS hf (lv_sub hl [1, 2, 5, 0] rfl)
set_option maxHeartbeats 4000000 in
theorem a_X11_laysOut_87 {p : Program} {l : Launch} {e : Env} {R : Room} {s : State} {m : MethodId} {args : Array Value} {below : List Frame} {meth : Method} {c : Code} {G : GT} {τ : Mem} {res : Int} {rec32 : Mem → Int → Int → Option (Int × Mem)} (X : CX p R s m args meth c cX11_laysOut 6 RX11 (some FieldType.boolean) 9 245 G) (h32 : S_X11_laysOut_32 rec32 p l e R s m args below meth c G τ res) : S_X11_laysOut_87 (X11_laysOut_B87 rec32) p l e R s m args below meth c G τ res := by
  intro σ H locs ls l1 l2 l3 l4 hP hS hf hl
  unfold X11_laysOut_B87 at hf
  refine r_iconst X 0 dX11_laysOut_87 ?_
  exact a_X11_laysOut_88 X h32 σ H locs ls l1 l2 l3 l4 0 hP hS hf hl
set_option maxHeartbeats 4000000 in
theorem a_X11_laysOut_32 {p : Program} {l : Launch} {e : Env} {R : Room} {s : State} {m : MethodId} {args : Array Value} {below : List Frame} {meth : Method} {c : Code} {G : GT} {τ : Mem} {res : Int} {rec32 : Mem → Int → Int → Option (Int × Mem)} (X : CX p R s m args meth c cX11_laysOut 6 RX11 (some FieldType.boolean) 9 245 G) (h32 : S_X11_laysOut_32 rec32 p l e R s m args below meth c G τ res) : S_X11_laysOut_32 (X11_laysOut_B32 rec32) p l e R s m args below meth c G τ res := by
  intro σ H locs ls l1 l2 hP hS hf hl
  unfold X11_laysOut_B32 at hf
  refine lv_iload_n X.1 X.2.1 dX11_laysOut_32 rfl (lv_at hl 2 rfl) ?_
  refine lv_aload_n X.1 X.2.1 dX11_laysOut_33 rfl (lv_at hl 0 rfl) ?_
  refine lv_iload_n X.1 X.2.1 dX11_laysOut_34 rfl (lv_at hl 1 rfl) ?_
  obtain ⟨r1, hr1, hf⟩ := bd_inv hf
  refine k_X11_bars X hP hS hl.1  hr1 (tb t_1296 rfl) (by decide) (Nat.le_of_ble_eq_true rfl) dX11_laysOut_35 (fun H locs hP hS => ?_)
  refine r_icmp_ge (tgt := 204) X dX11_laysOut_38 (by decide) (fun q => ?_) (fun q => ?_)
  · replace hf := it_inv q hf
    refine r_iconst X 1 dX11_laysOut_204 ?_
    obtain ⟨rfl, rfl⟩ := so2_inv hf
    exact r_zret X hP hS (Or.inr rfl) dX11_laysOut_205
  · replace hf := ie_inv q hf
    refine r_bipush X 41 (by decide) dX11_laysOut_41 ?_
    refine lv_aload_n X.1 X.2.1 dX11_laysOut_43 rfl (lv_at hl 0 rfl) ?_
    refine g_11_23 X hP ks_11 (tb t_1110 rfl) dX11_laysOut_44 ?_
    refine r_imul X dX11_laysOut_47 ?_
    refine lv_iload_n X.1 X.2.1 dX11_laysOut_48 rfl (lv_at hl 2 rfl) ?_
    refine r_iadd X dX11_laysOut_49 ?_
    obtain ⟨l3_2, el3_2, hf⟩ := lt_inv hf
    refine r_eqi el3_2 ?_
    refine lv_istore_n (lv' := [(3, .int (i32 l3_2)), (0, .ref (gh G + 111)), (1, .int (i32 l1)), (2, .int (i32 l2))]) X.1 X.2.1 dX11_laysOut_50 rfl hl (by decide) rfl (fun ls hl => ?_)
    refine lv_aload_n X.1 X.2.1 dX11_laysOut_51 rfl (lv_at hl 1 rfl) ?_
    refine g_11_21 (r := 124) X hP ks_11 rfl (tb t_1108 rfl) dX11_laysOut_52 ?_
    refine lv_iload_n X.1 X.2.1 dX11_laysOut_55 rfl (lv_at hl 0 rfl) ?_
    obtain ⟨j3, hij3, hjj3, hlj3, hf⟩ := ag_inv hf
    refine r_iald X hP (ch_11_21 ks_11).1 (ch_11_21 ks_11).2 hij3 hjj3 dX11_laysOut_56 ?_
    obtain ⟨l4_4, el4_4, hf⟩ := lt_inv hf
    refine r_eqi el4_4 ?_
    refine lv_istore (lv' := [(4, .int (i32 l4_4)), (3, .int (i32 l3_2)), (0, .ref (gh G + 111)), (1, .int (i32 l1)), (2, .int (i32 l2))]) X.1 X.2.1 dX11_laysOut_57 hl (by decide) rfl (fun ls hl => ?_)
    refine lv_iload X.1 X.2.1 dX11_laysOut_59 (lv_at hl 0 rfl) ?_
    refine lv_aload_n X.1 X.2.1 dX11_laysOut_61 rfl (lv_at hl 2 rfl) ?_
    refine lv_iload_n X.1 X.2.1 dX11_laysOut_62 rfl (lv_at hl 3 rfl) ?_
    obtain ⟨r5, hr5, hf⟩ := bd_inv hf
    refine k_X11_bars X hP hS hl.1  hr5 (tb t_1296 rfl) (by decide) (Nat.le_of_ble_eq_true rfl) dX11_laysOut_63 (fun H locs hP hS => ?_)
    refine r_iconst X 1 dX11_laysOut_66 ?_
    refine r_isub X dX11_laysOut_67 ?_
    refine r_icmp_ge (tgt := 87) X dX11_laysOut_68 (by decide) (fun q => ?_) (fun q => ?_)
    · replace hf := it_inv q hf
      exact a_X11_laysOut_87 X h32 σ H locs ls l1 l2 l3_2 l4_4 hP hS hf (lv_sub hl [2, 3, 4, 1, 0] rfl)
    · replace hf := ie_inv q hf
      refine lv_aload_n X.1 X.2.1 dX11_laysOut_71 rfl (lv_at hl 2 rfl) ?_
      refine lv_iload_n X.1 X.2.1 dX11_laysOut_72 rfl (lv_at hl 3 rfl) ?_
      refine lv_aload_n X.1 X.2.1 dX11_laysOut_73 rfl (lv_at hl 2 rfl) ?_
      refine g_11_23 X hP ks_11 (tb t_1110 rfl) dX11_laysOut_74 ?_
      obtain ⟨r6, hr6, hf⟩ := bd_inv hf
      refine k_X11_isTurn X hP hS hl.1  hr6 (tb t_1417 rfl) (by decide) (Nat.le_of_ble_eq_true rfl) dX11_laysOut_77 (fun H locs hP hS => ?_)
      refine r_if_eq (tgt := 87) X dX11_laysOut_80 (by decide) (fun q => ?_) (fun q => ?_)
      · replace hf := it_inv q hf
        exact a_X11_laysOut_87 X h32 σ H locs ls l1 l2 l3_2 l4_4 hP hS hf (lv_sub hl [2, 3, 4, 1, 0] rfl)
      · replace hf := ie_inv q hf
        refine r_iconst X 1 dX11_laysOut_83 ?_
        refine lv_goto (tgt := 88) X.1 X.2.1 dX11_laysOut_84 (by decide) ?_
        exact a_X11_laysOut_88 X h32 σ H locs ls l1 l2 l3_2 l4_4 1 hP hS hf (lv_sub hl [2, 3, 4, 1, 0] rfl)
theorem al_X11_laysOut_32 {p : Program} {l : Launch} {e : Env} {R : Room} {s : State} {m : MethodId} {args : Array Value} {below : List Frame} {meth : Method} {c : Code} {G : GT} {τ : Mem} {res : Int} (X : CX p R s m args meth c cX11_laysOut 6 RX11 (some FieldType.boolean) 9 245 G) : ∀ n, S_X11_laysOut_32 (X11_laysOut_L32 n) p l e R s m args below meth c G τ res := by
  intro n
  induction n with
  | zero =>
    intro σ H locs ls l1 l2 hP hS hf hl
    cases hf
  | succ n ih => exact a_X11_laysOut_32 X ih
set_option maxHeartbeats 4000000 in
theorem a_X11_laysOut_0 {p : Program} {l : Launch} {e : Env} {R : Room} {s : State} {m : MethodId} {args : Array Value} {below : List Frame} {meth : Method} {c : Code} {G : GT} {τ : Mem} {res : Int} (X : CX p R s m args meth c cX11_laysOut 6 RX11 (some FieldType.boolean) 9 245 G) : S_X11_laysOut_0 (X11_laysOut) p l e R s m args below meth c G τ res := by
  intro σ H locs ls l1 hP hS hf hl
  unfold X11_laysOut at hf
  refine lv_aload_n X.1 X.2.1 dX11_laysOut_0 rfl (lv_at hl 0 rfl) ?_
  refine lv_iload_n X.1 X.2.1 dX11_laysOut_1 rfl (lv_at hl 1 rfl) ?_
  obtain ⟨s2, hr1, hf⟩ := bd_inv hf
  refine k_X11_findPages X hP hS hl.1  hr1 (tb t_1397 rfl) (by decide) (Nat.le_of_ble_eq_true rfl) dX11_laysOut_2 (fun H locs hP hS => ?_)
  refine lv_aload_n X.1 X.2.1 dX11_laysOut_5 rfl (lv_at hl 0 rfl) ?_
  refine lv_iload_n X.1 X.2.1 dX11_laysOut_6 rfl (lv_at hl 1 rfl) ?_
  obtain ⟨r3, s4, hr3, hf⟩ := bd2_inv hf
  refine k_X11_lays X hP hS hl.1  hr3 (tb t_1401 rfl) (by decide) (Nat.le_of_ble_eq_true rfl) dX11_laysOut_7 (fun H locs hP hS => ?_)
  refine r_if_ne (tgt := 15) X dX11_laysOut_10 (by decide) (fun q => ?_) (fun q => ?_)
  · replace hf := it_inv q hf
    refine lv_aload_n X.1 X.2.1 dX11_laysOut_15 rfl (lv_at hl 0 rfl) ?_
    refine r_iconst X 0 dX11_laysOut_16 ?_
    refine p_11_23 X hP hS ks_11 (tb t_1110 rfl) dX11_laysOut_17 (fun H locs hP hS => ?_)
    obtain ⟨s5, es5, hf⟩ := lt_inv hf
    rw [es5] at hP
    refine lv_aload_n X.1 X.2.1 dX11_laysOut_20 rfl (lv_at hl 0 rfl) ?_
    refine r_iconst X 0 dX11_laysOut_21 ?_
    refine p_11_24 X hP hS ks_11 (tb t_1111 rfl) dX11_laysOut_22 (fun H locs hP hS => ?_)
    obtain ⟨s6, es6, hf⟩ := lt_inv hf
    rw [es6] at hP
    refine lv_aload_n X.1 X.2.1 dX11_laysOut_25 rfl (lv_at hl 0 rfl) ?_
    refine r_iconst X 0 dX11_laysOut_26 ?_
    refine p_11_25 X hP hS ks_11 (tb t_1112 rfl) dX11_laysOut_27 (fun H locs hP hS => ?_)
    obtain ⟨s7, es7, hf⟩ := lt_inv hf
    rw [es7] at hP
    refine r_iconst X 0 dX11_laysOut_30 ?_
    refine lv_istore_n (lv' := [(2, .int (i32 0)), (0, .ref (gh G + 111)), (1, .int (i32 l1))]) X.1 X.2.1 dX11_laysOut_31 rfl hl (by decide) rfl (fun ls hl => ?_)
    exact al_X11_laysOut_32 X 5000 s7 H locs ls l1 0 hP hS hf (lv_sub hl [1, 2, 0] rfl)
  · replace hf := ie_inv q hf
    refine r_iconst X 0 dX11_laysOut_13 ?_
    obtain ⟨rfl, rfl⟩ := so2_inv hf
    exact r_zret X hP hS (Or.inl rfl) dX11_laysOut_14
set_option maxHeartbeats 4000000 in
theorem c_X11_laysOut {l : Launch} {G : GT} {σ τ : Mem} {res : Int} {l1 : Int} (hf : X11_laysOut σ l1 = some (res, τ)) : CT l yX11_laysOut cX11_laysOut 6 (some FieldType.boolean) 9 245 G [.ref (gh G + 111), .int (i32 l1)] σ τ (some (.int (i32 res))) := by
  refine CT.mk (own := RX11) (by decide) rfl (Nat.le_of_ble_eq_true rfl) ?_
  intro p e s m below meth c ls X hP hS hl
  have hl : lv_has ls 6 [(0, .ref (gh G + 111)), (1, .int (i32 l1))] := hl
  exact a_X11_laysOut_0 X σ s.heap [] ls l1 hP hS hf hl
theorem k_X11_laysOut {p : Program} {l : Launch} {e : Env} {R : Room} {s : State} {m : MethodId} {args : Array Value} {below : List Frame} {meth : Method} {c : Code} {H : Heap} {locs : List Loc} {Q : State → Prop} {cc : ByteArray} {nL : Nat} {own : String} {ret : Option FieldType} {fF fL : Nat} {G : GT} {pc idx : Nat} {ls : Array Slot} {rest : List Value} {σ τ : Mem} {res : Int} {l1 : Int} (X : CX p R s m args meth c cc nL own ret fF fL G) (hP : PW G σ H) (hS : va_S (AA G) s.heap H locs) (hls : ls.size = nL) (hf : X11_laysOut σ l1 = some (res, τ)) (h1 : Cond.methodLink own idx yX11_laysOut ∈ TB) (hR : 9 + 1 ≤ fF ∧ 8 + (6 + 11) + 245 ≤ fL) (hW : (rest.map fun v => v.category).sum ≤ 8) (hd : decode cc pc = .ok (.invokevirtual idx, 3)) (kk : ∀ (H1 : Heap) (locs1 : List Loc), PW G τ H1 → va_S (AA G) s.heap H1 locs1 → W p l e R s m args below meth c H1 locs1 0 0 Q (F0 m (pc + 3) ls (.int (i32 res) :: rest))) : W p l e R s m args below meth c H locs 0 0 Q (F0 m pc ls (.int (i32 l1) :: .ref (gh G + 111) :: rest)) := r_callV (n := 1) X hP hS hls (c_X11_laysOut hf) h1 (tb t_1395 rfl) (tb t_57 rfl) (tb t_87 rfl) (tb t_1396 rfl) (by decide +kernel) hR (r_recv X hP (kd_lt ks_11 (by decide)) (cE_11 ks_11) rfl) rfl rfl hW hd kk
/-! X11_countsTurns -/
theorem dX11_countsTurns_0 : decode cX11_countsTurns 0 = .ok (.aload_n 0, 1) := by decide +kernel
theorem dX11_countsTurns_1 : decode cX11_countsTurns 1 = .ok (.iload_n 1, 1) := by decide +kernel
theorem dX11_countsTurns_2 : decode cX11_countsTurns 2 = .ok (.invokevirtual 298, 3) := by decide +kernel
theorem dX11_countsTurns_5 : decode cX11_countsTurns 5 = .ok (.ifCond .ne 5, 3) := by decide +kernel
theorem dX11_countsTurns_8 : decode cX11_countsTurns 8 = .ok (.iconst 0, 1) := by decide +kernel
theorem dX11_countsTurns_9 : decode cX11_countsTurns 9 = .ok (.ireturn, 1) := by decide +kernel
theorem dX11_countsTurns_10 : decode cX11_countsTurns 10 = .ok (.iconst 0, 1) := by decide +kernel
theorem dX11_countsTurns_11 : decode cX11_countsTurns 11 = .ok (.istore_n 2, 1) := by decide +kernel
theorem dX11_countsTurns_12 : decode cX11_countsTurns 12 = .ok (.iload_n 2, 1) := by decide +kernel
theorem dX11_countsTurns_13 : decode cX11_countsTurns 13 = .ok (.aload_n 0, 1) := by decide +kernel
theorem dX11_countsTurns_14 : decode cX11_countsTurns 14 = .ok (.getfield 289, 3) := by decide +kernel
theorem dX11_countsTurns_17 : decode cX11_countsTurns 17 = .ok (.if_icmp .ge 37, 3) := by decide +kernel
theorem dX11_countsTurns_20 : decode cX11_countsTurns 20 = .ok (.aload_n 0, 1) := by decide +kernel
theorem dX11_countsTurns_21 : decode cX11_countsTurns 21 = .ok (.getfield 74, 3) := by decide +kernel
theorem dX11_countsTurns_24 : decode cX11_countsTurns 24 = .ok (.aload_n 0, 1) := by decide +kernel
theorem dX11_countsTurns_25 : decode cX11_countsTurns 25 = .ok (.getfield 56, 3) := by decide +kernel
theorem dX11_countsTurns_28 : decode cX11_countsTurns 28 = .ok (.iload_n 2, 1) := by decide +kernel
theorem dX11_countsTurns_29 : decode cX11_countsTurns 29 = .ok (.iaload, 1) := by decide +kernel
theorem dX11_countsTurns_30 : decode cX11_countsTurns 30 = .ok (.dup2, 1) := by decide +kernel
theorem dX11_countsTurns_31 : decode cX11_countsTurns 31 = .ok (.iaload, 1) := by decide +kernel
theorem dX11_countsTurns_32 : decode cX11_countsTurns 32 = .ok (.aload_n 0, 1) := by decide +kernel
theorem dX11_countsTurns_33 : decode cX11_countsTurns 33 = .ok (.getfield 68, 3) := by decide +kernel
theorem dX11_countsTurns_36 : decode cX11_countsTurns 36 = .ok (.iload_n 2, 1) := by decide +kernel
theorem dX11_countsTurns_37 : decode cX11_countsTurns 37 = .ok (.iaload, 1) := by decide +kernel
theorem dX11_countsTurns_38 : decode cX11_countsTurns 38 = .ok (.ifCond .le 7, 3) := by decide +kernel
theorem dX11_countsTurns_41 : decode cX11_countsTurns 41 = .ok (.iconst 1, 1) := by decide +kernel
theorem dX11_countsTurns_42 : decode cX11_countsTurns 42 = .ok (.goto 4, 3) := by decide +kernel
theorem dX11_countsTurns_45 : decode cX11_countsTurns 45 = .ok (.iconst 0, 1) := by decide +kernel
theorem dX11_countsTurns_46 : decode cX11_countsTurns 46 = .ok (.iadd, 1) := by decide +kernel
theorem dX11_countsTurns_47 : decode cX11_countsTurns 47 = .ok (.iastore, 1) := by decide +kernel
theorem dX11_countsTurns_48 : decode cX11_countsTurns 48 = .ok (.iinc 2 1, 3) := by decide +kernel
theorem dX11_countsTurns_51 : decode cX11_countsTurns 51 = .ok (.goto (-39), 3) := by decide +kernel
theorem dX11_countsTurns_54 : decode cX11_countsTurns 54 = .ok (.iconst 1, 1) := by decide +kernel
theorem dX11_countsTurns_55 : decode cX11_countsTurns 55 = .ok (.ireturn, 1) := by decide +kernel
def S_X11_countsTurns_12 (fn : Mem → Int → Option (Int × Mem)) (p : Program) (l : Launch) (e : Env) (R : Room) (s : State) (m : MethodId) (args : Array Value) (below : List Frame) (meth : Method) (c : Code) (G : GT) (τ : Mem) (res : Int) : Prop := ∀ (σ : Mem) (H : Heap) (locs : List Loc) (ls : Array Slot) (l2 : Int), PW G σ H → va_S (AA G) s.heap H locs → fn σ l2 = some (res, τ) → lv_has ls 3 [(0, .ref (gh G + 111)), (2, .int (i32 l2))] → W p l e R s m args below meth c H locs 0 0 (MQ below (QM G (some (.int (i32 res))) τ) args s 0 0 (AA G)) (F0 m 12 ls [])
def X11_countsTurns_B46 (rec12 : Mem → Int → Option (Int × Mem)) (σ : Mem) (l2 : Int) (k0 : Nat) (k1 : Int) (k2 : Int) (k3 : Int) : Option (Int × Mem) :=
  ag 40 k1 fun j1 =>
  lt (st σ k0 j1 (k2 + k3)) fun s2 =>
  lt (l2 + 1) fun l2_3 =>
  rec12 s2 l2_3
def S_X11_countsTurns_46 (fn : Mem → Int → Nat → Int → Int → Int → Option (Int × Mem)) (p : Program) (l : Launch) (e : Env) (R : Room) (s : State) (m : MethodId) (args : Array Value) (below : List Frame) (meth : Method) (c : Code) (G : GT) (τ : Mem) (res : Int) : Prop := ∀ (σ : Mem) (H : Heap) (locs : List Loc) (ls : Array Slot) (l2 : Int) (k0 : Nat) (k1 : Int) (k2 : Int) (k3 : Int), kd k0 = 13 → ln k0 = 40 → PW G σ H → va_S (AA G) s.heap H locs → fn σ l2 k0 k1 k2 k3 = some (res, τ) → lv_has ls 3 [(0, .ref (gh G + 111)), (2, .int (i32 l2))] → W p l e R s m args below meth c H locs 0 0 (MQ below (QM G (some (.int (i32 res))) τ) args s 0 0 (AA G)) (F0 m 46 ls [.int (i32 k3), .int (i32 k2), .int (i32 k1), .ref (gh G + k0)])
def X11_countsTurns_B12 (rec12 : Mem → Int → Option (Int × Mem)) (σ : Mem) (l2 : Int) : Option (Int × Mem) :=
  if w32 (σ 111 23) ≤ w32 l2 then
    some (1, σ)
  else
  ag 40 l2 fun j1 =>
  lt (σ 127 j1) fun v2 =>
  ag 40 v2 fun j3 =>
  ag 40 l2 fun j4 =>
  if w32 (σ 131 j4) ≤ 0 then
    X11_countsTurns_B46 rec12 σ l2 133 v2 (σ 133 j3) 0
  else
  X11_countsTurns_B46 rec12 σ l2 133 v2 (σ 133 j3) 1
def X11_countsTurns_L12 : Nat → Mem → Int → Option (Int × Mem)
  | 0 => fun _ _ => none
  | n + 1 => X11_countsTurns_B12 (X11_countsTurns_L12 n)
def X11_countsTurns (σ : Mem) (l1 : Int) : Option (Int × Mem) :=
  bd2 (X11_laysOut σ l1) fun r1 s2 =>
  if w32 r1 ≠ 0 then
    X11_countsTurns_L12 5000 s2 0
  else
  some (0, s2)
def S_X11_countsTurns_0 (fn : Mem → Int → Option (Int × Mem)) (p : Program) (l : Launch) (e : Env) (R : Room) (s : State) (m : MethodId) (args : Array Value) (below : List Frame) (meth : Method) (c : Code) (G : GT) (τ : Mem) (res : Int) : Prop := ∀ (σ : Mem) (H : Heap) (locs : List Loc) (ls : Array Slot) (l1 : Int), PW G σ H → va_S (AA G) s.heap H locs → fn σ l1 = some (res, τ) → lv_has ls 3 [(0, .ref (gh G + 111)), (1, .int (i32 l1))] → W p l e R s m args below meth c H locs 0 0 (MQ below (QM G (some (.int (i32 res))) τ) args s 0 0 (AA G)) (F0 m 0 ls [])
set_option maxHeartbeats 4000000 in
theorem a_X11_countsTurns_46 {p : Program} {l : Launch} {e : Env} {R : Room} {s : State} {m : MethodId} {args : Array Value} {below : List Frame} {meth : Method} {c : Code} {G : GT} {τ : Mem} {res : Int} {rec12 : Mem → Int → Option (Int × Mem)} (X : CX p R s m args meth c cX11_countsTurns 3 RX11 (some FieldType.boolean) 10 270 G) (h12 : S_X11_countsTurns_12 rec12 p l e R s m args below meth c G τ res) : S_X11_countsTurns_46 (X11_countsTurns_B46 rec12) p l e R s m args below meth c G τ res := by
  intro σ H locs ls l2 k0 k1 k2 k3 hk_k0 hn_k0 hP hS hf hl
  unfold X11_countsTurns_B46 at hf
  refine r_iadd X dX11_countsTurns_46 ?_
  obtain ⟨j1, hij1, hjj1, hlj1, hf⟩ := ag_inv hf
  refine r_iast X hP hS hk_k0 hn_k0 hij1 hjj1 dX11_countsTurns_47 (fun H locs hP hS => ?_)
  obtain ⟨s2, es2, hf⟩ := lt_inv hf
  rw [es2] at hP
  obtain ⟨l2_3, el2_3, hf⟩ := lt_inv hf
  refine lv_iinc (v := i32 l2_3) (lv' := [(2, .int (i32 l2_3)), (0, .ref (gh G + 111))]) X.1 X.2.1 dX11_countsTurns_48 hl (k := 1) rfl (by rw [← el2_3]; exact i32_add _ _) (by decide) rfl (fun ls hl => ?_)
  refine lv_goto (tgt := 12) X.1 X.2.1 dX11_countsTurns_51 (by decide) ?_
  exact h12 s2 H locs ls l2_3 hP hS hf (lv_sub hl [1, 0] rfl)
set_option maxHeartbeats 4000000 in
theorem a_X11_countsTurns_12 {p : Program} {l : Launch} {e : Env} {R : Room} {s : State} {m : MethodId} {args : Array Value} {below : List Frame} {meth : Method} {c : Code} {G : GT} {τ : Mem} {res : Int} {rec12 : Mem → Int → Option (Int × Mem)} (X : CX p R s m args meth c cX11_countsTurns 3 RX11 (some FieldType.boolean) 10 270 G) (h12 : S_X11_countsTurns_12 rec12 p l e R s m args below meth c G τ res) : S_X11_countsTurns_12 (X11_countsTurns_B12 rec12) p l e R s m args below meth c G τ res := by
  intro σ H locs ls l2 hP hS hf hl
  unfold X11_countsTurns_B12 at hf
  refine lv_iload_n X.1 X.2.1 dX11_countsTurns_12 rfl (lv_at hl 1 rfl) ?_
  refine lv_aload_n X.1 X.2.1 dX11_countsTurns_13 rfl (lv_at hl 0 rfl) ?_
  refine g_11_23 X hP ks_11 (tb t_1110 rfl) dX11_countsTurns_14 ?_
  refine r_icmp_ge (tgt := 54) X dX11_countsTurns_17 (by decide) (fun q => ?_) (fun q => ?_)
  · replace hf := it_inv q hf
    refine r_iconst X 1 dX11_countsTurns_54 ?_
    obtain ⟨rfl, rfl⟩ := so2_inv hf
    exact r_zret X hP hS (Or.inr rfl) dX11_countsTurns_55
  · replace hf := ie_inv q hf
    refine lv_aload_n X.1 X.2.1 dX11_countsTurns_20 rfl (lv_at hl 0 rfl) ?_
    refine g_11_33 (r := 133) X hP ks_11 rfl (tb t_1120 rfl) dX11_countsTurns_21 ?_
    refine lv_aload_n X.1 X.2.1 dX11_countsTurns_24 rfl (lv_at hl 0 rfl) ?_
    refine g_11_27 (r := 127) X hP ks_11 rfl (tb t_1114 rfl) dX11_countsTurns_25 ?_
    refine lv_iload_n X.1 X.2.1 dX11_countsTurns_28 rfl (lv_at hl 1 rfl) ?_
    obtain ⟨j1, hij1, hjj1, hlj1, hf⟩ := ag_inv hf
    refine r_iald X hP (ch_11_27 ks_11).1 (ch_11_27 ks_11).2 hij1 hjj1 dX11_countsTurns_29 ?_
    obtain ⟨v2, ev2, hf⟩ := lt_inv hf
    refine r_eqi ev2 ?_
    refine lv_dup2_11 X.1 X.2.1 dX11_countsTurns_30 rfl rfl ?_
    obtain ⟨j3, hij3, hjj3, hlj3, hf⟩ := ag_inv hf
    refine r_iald X hP (ch_11_33 ks_11).1 (ch_11_33 ks_11).2 hij3 hjj3 dX11_countsTurns_31 ?_
    refine lv_aload_n X.1 X.2.1 dX11_countsTurns_32 rfl (lv_at hl 0 rfl) ?_
    refine g_11_31 (r := 131) X hP ks_11 rfl (tb t_1118 rfl) dX11_countsTurns_33 ?_
    refine lv_iload_n X.1 X.2.1 dX11_countsTurns_36 rfl (lv_at hl 1 rfl) ?_
    obtain ⟨j4, hij4, hjj4, hlj4, hf⟩ := ag_inv hf
    refine r_iald X hP (ch_11_31 ks_11).1 (ch_11_31 ks_11).2 hij4 hjj4 dX11_countsTurns_37 ?_
    refine r_if_le (tgt := 45) X dX11_countsTurns_38 (by decide) (fun q => ?_) (fun q => ?_)
    · replace hf := it_inv q hf
      refine r_iconst X 0 dX11_countsTurns_45 ?_
      exact a_X11_countsTurns_46 X h12 σ H locs ls l2 133 v2 (σ 133 j3) 0 (ch_11_33 ks_11).1 (ch_11_33 ks_11).2 hP hS hf hl
    · replace hf := ie_inv q hf
      refine r_iconst X 1 dX11_countsTurns_41 ?_
      refine lv_goto (tgt := 46) X.1 X.2.1 dX11_countsTurns_42 (by decide) ?_
      exact a_X11_countsTurns_46 X h12 σ H locs ls l2 133 v2 (σ 133 j3) 1 (ch_11_33 ks_11).1 (ch_11_33 ks_11).2 hP hS hf hl
theorem al_X11_countsTurns_12 {p : Program} {l : Launch} {e : Env} {R : Room} {s : State} {m : MethodId} {args : Array Value} {below : List Frame} {meth : Method} {c : Code} {G : GT} {τ : Mem} {res : Int} (X : CX p R s m args meth c cX11_countsTurns 3 RX11 (some FieldType.boolean) 10 270 G) : ∀ n, S_X11_countsTurns_12 (X11_countsTurns_L12 n) p l e R s m args below meth c G τ res := by
  intro n
  induction n with
  | zero =>
    intro σ H locs ls l2 hP hS hf hl
    cases hf
  | succ n ih => exact a_X11_countsTurns_12 X ih
set_option maxHeartbeats 4000000 in
theorem a_X11_countsTurns_0 {p : Program} {l : Launch} {e : Env} {R : Room} {s : State} {m : MethodId} {args : Array Value} {below : List Frame} {meth : Method} {c : Code} {G : GT} {τ : Mem} {res : Int} (X : CX p R s m args meth c cX11_countsTurns 3 RX11 (some FieldType.boolean) 10 270 G) : S_X11_countsTurns_0 (X11_countsTurns) p l e R s m args below meth c G τ res := by
  intro σ H locs ls l1 hP hS hf hl
  unfold X11_countsTurns at hf
  refine lv_aload_n X.1 X.2.1 dX11_countsTurns_0 rfl (lv_at hl 0 rfl) ?_
  refine lv_iload_n X.1 X.2.1 dX11_countsTurns_1 rfl (lv_at hl 1 rfl) ?_
  obtain ⟨r1, s2, hr1, hf⟩ := bd2_inv hf
  refine k_X11_laysOut X hP hS hl.1  hr1 (tb t_1393 rfl) (by decide) (Nat.le_of_ble_eq_true rfl) dX11_countsTurns_2 (fun H locs hP hS => ?_)
  refine r_if_ne (tgt := 10) X dX11_countsTurns_5 (by decide) (fun q => ?_) (fun q => ?_)
  · replace hf := it_inv q hf
    refine r_iconst X 0 dX11_countsTurns_10 ?_
    refine lv_istore_n (lv' := [(2, .int (i32 0)), (0, .ref (gh G + 111)), (1, .int (i32 l1))]) X.1 X.2.1 dX11_countsTurns_11 rfl hl (by decide) rfl (fun ls hl => ?_)
    exact al_X11_countsTurns_12 X 5000 s2 H locs ls 0 hP hS hf (lv_sub hl [1, 0] rfl)
  · replace hf := ie_inv q hf
    refine r_iconst X 0 dX11_countsTurns_8 ?_
    obtain ⟨rfl, rfl⟩ := so2_inv hf
    exact r_zret X hP hS (Or.inl rfl) dX11_countsTurns_9
set_option maxHeartbeats 4000000 in
theorem c_X11_countsTurns {l : Launch} {G : GT} {σ τ : Mem} {res : Int} {l1 : Int} (hf : X11_countsTurns σ l1 = some (res, τ)) : CT l yX11_countsTurns cX11_countsTurns 3 (some FieldType.boolean) 10 270 G [.ref (gh G + 111), .int (i32 l1)] σ τ (some (.int (i32 res))) := by
  refine CT.mk (own := RX11) (by decide) rfl (Nat.le_of_ble_eq_true rfl) ?_
  intro p e s m below meth c ls X hP hS hl
  have hl : lv_has ls 3 [(0, .ref (gh G + 111)), (1, .int (i32 l1))] := hl
  exact a_X11_countsTurns_0 X σ s.heap [] ls l1 hP hS hf hl
theorem k_X11_countsTurns {p : Program} {l : Launch} {e : Env} {R : Room} {s : State} {m : MethodId} {args : Array Value} {below : List Frame} {meth : Method} {c : Code} {H : Heap} {locs : List Loc} {Q : State → Prop} {cc : ByteArray} {nL : Nat} {own : String} {ret : Option FieldType} {fF fL : Nat} {G : GT} {pc idx : Nat} {ls : Array Slot} {rest : List Value} {σ τ : Mem} {res : Int} {l1 : Int} (X : CX p R s m args meth c cc nL own ret fF fL G) (hP : PW G σ H) (hS : va_S (AA G) s.heap H locs) (hls : ls.size = nL) (hf : X11_countsTurns σ l1 = some (res, τ)) (h1 : Cond.methodLink own idx yX11_countsTurns ∈ TB) (hR : 10 + 1 ≤ fF ∧ 8 + (3 + 11) + 270 ≤ fL) (hW : (rest.map fun v => v.category).sum ≤ 8) (hd : decode cc pc = .ok (.invokevirtual idx, 3)) (kk : ∀ (H1 : Heap) (locs1 : List Loc), PW G τ H1 → va_S (AA G) s.heap H1 locs1 → W p l e R s m args below meth c H1 locs1 0 0 Q (F0 m (pc + 3) ls (.int (i32 res) :: rest))) : W p l e R s m args below meth c H locs 0 0 Q (F0 m pc ls (.int (i32 l1) :: .ref (gh G + 111) :: rest)) := r_callV (n := 1) X hP hS hls (c_X11_countsTurns hf) h1 (tb t_1467 rfl) (tb t_67 rfl) (tb t_87 rfl) (tb t_1468 rfl) (by decide +kernel) hR (r_recv X hP (kd_lt ks_11 (by decide)) (cE_11 ks_11) rfl) rfl rfl hW hd kk
/-! X11_turnsFrom -/
theorem dX11_turnsFrom_0 : decode cX11_turnsFrom 0 = .ok (.iconst 0, 1) := by decide +kernel
theorem dX11_turnsFrom_1 : decode cX11_turnsFrom 1 = .ok (.istore_n 2, 1) := by decide +kernel
theorem dX11_turnsFrom_2 : decode cX11_turnsFrom 2 = .ok (.iconst 0, 1) := by decide +kernel
theorem dX11_turnsFrom_3 : decode cX11_turnsFrom 3 = .ok (.istore_n 3, 1) := by decide +kernel
theorem dX11_turnsFrom_4 : decode cX11_turnsFrom 4 = .ok (.iload_n 3, 1) := by decide +kernel
theorem dX11_turnsFrom_5 : decode cX11_turnsFrom 5 = .ok (.bipush 40, 2) := by decide +kernel
theorem dX11_turnsFrom_7 : decode cX11_turnsFrom 7 = .ok (.if_icmp .ge 27, 3) := by decide +kernel
theorem dX11_turnsFrom_10 : decode cX11_turnsFrom 10 = .ok (.iload_n 2, 1) := by decide +kernel
theorem dX11_turnsFrom_11 : decode cX11_turnsFrom 11 = .ok (.aload_n 0, 1) := by decide +kernel
theorem dX11_turnsFrom_12 : decode cX11_turnsFrom 12 = .ok (.getfield 74, 3) := by decide +kernel
theorem dX11_turnsFrom_15 : decode cX11_turnsFrom 15 = .ok (.iload_n 3, 1) := by decide +kernel
theorem dX11_turnsFrom_16 : decode cX11_turnsFrom 16 = .ok (.iaload, 1) := by decide +kernel
theorem dX11_turnsFrom_17 : decode cX11_turnsFrom 17 = .ok (.iload_n 1, 1) := by decide +kernel
theorem dX11_turnsFrom_18 : decode cX11_turnsFrom 18 = .ok (.if_icmp .lt 7, 3) := by decide +kernel
theorem dX11_turnsFrom_21 : decode cX11_turnsFrom 21 = .ok (.iconst 1, 1) := by decide +kernel
theorem dX11_turnsFrom_22 : decode cX11_turnsFrom 22 = .ok (.goto 4, 3) := by decide +kernel
theorem dX11_turnsFrom_25 : decode cX11_turnsFrom 25 = .ok (.iconst 0, 1) := by decide +kernel
theorem dX11_turnsFrom_26 : decode cX11_turnsFrom 26 = .ok (.iadd, 1) := by decide +kernel
theorem dX11_turnsFrom_27 : decode cX11_turnsFrom 27 = .ok (.istore_n 2, 1) := by decide +kernel
theorem dX11_turnsFrom_28 : decode cX11_turnsFrom 28 = .ok (.iinc 3 1, 3) := by decide +kernel
theorem dX11_turnsFrom_31 : decode cX11_turnsFrom 31 = .ok (.goto (-27), 3) := by decide +kernel
theorem dX11_turnsFrom_34 : decode cX11_turnsFrom 34 = .ok (.iload_n 2, 1) := by decide +kernel
theorem dX11_turnsFrom_35 : decode cX11_turnsFrom 35 = .ok (.ireturn, 1) := by decide +kernel
def S_X11_turnsFrom_4 (fn : Int → Int → Int → Option (Int)) (p : Program) (l : Launch) (e : Env) (R : Room) (s : State) (m : MethodId) (args : Array Value) (below : List Frame) (meth : Method) (c : Code) (G : GT) (σ : Mem) (res : Int) : Prop := ∀ (H : Heap) (locs : List Loc) (ls : Array Slot) (l1 : Int) (l2 : Int) (l3 : Int), PW G σ H → va_S (AA G) s.heap H locs → fn l1 l2 l3 = some res → lv_has ls 4 [(0, .ref (gh G + 111)), (1, .int (i32 l1)), (2, .int (i32 l2)), (3, .int (i32 l3))] → W p l e R s m args below meth c H locs 0 0 (MQ below (QM G (some (.int (i32 res))) σ) args s 0 0 (AA G)) (F0 m 4 ls [])
def X11_turnsFrom_B26 (rec4 : Int → Int → Int → Option (Int)) (σ : Mem) (l1 : Int) (l3 : Int) (k0 : Int) (k1 : Int) : Option (Int) :=
  lt (k0 + k1) fun l2_1 =>
  lt (l3 + 1) fun l3_2 =>
  rec4 l1 l2_1 l3_2
def S_X11_turnsFrom_26 (fn : Int → Int → Int → Int → Option (Int)) (p : Program) (l : Launch) (e : Env) (R : Room) (s : State) (m : MethodId) (args : Array Value) (below : List Frame) (meth : Method) (c : Code) (G : GT) (σ : Mem) (res : Int) : Prop := ∀ (H : Heap) (locs : List Loc) (ls : Array Slot) (l1 : Int) (l3 : Int) (k0 : Int) (k1 : Int), PW G σ H → va_S (AA G) s.heap H locs → fn l1 l3 k0 k1 = some res → lv_has ls 4 [(0, .ref (gh G + 111)), (1, .int (i32 l1)), (3, .int (i32 l3))] → W p l e R s m args below meth c H locs 0 0 (MQ below (QM G (some (.int (i32 res))) σ) args s 0 0 (AA G)) (F0 m 26 ls [.int (i32 k1), .int (i32 k0)])
def X11_turnsFrom_B4 (rec4 : Int → Int → Int → Option (Int)) (σ : Mem) (l1 : Int) (l2 : Int) (l3 : Int) : Option (Int) :=
  if w32 40 ≤ w32 l3 then
    some l2
  else
  ag 40 l3 fun j1 =>
  if w32 (σ 133 j1) < w32 l1 then
    X11_turnsFrom_B26 rec4 σ l1 l3 l2 0
  else
  X11_turnsFrom_B26 rec4 σ l1 l3 l2 1
def X11_turnsFrom_L4 (σ : Mem) : Nat → Int → Int → Int → Option (Int)
  | 0 => fun _ _ _ => none
  | n + 1 => X11_turnsFrom_B4 (X11_turnsFrom_L4 σ n) σ
def X11_turnsFrom (σ : Mem) (l1 : Int) : Option (Int) :=
  X11_turnsFrom_L4 σ 5000 l1 0 0
def S_X11_turnsFrom_0 (fn : Int → Option (Int)) (p : Program) (l : Launch) (e : Env) (R : Room) (s : State) (m : MethodId) (args : Array Value) (below : List Frame) (meth : Method) (c : Code) (G : GT) (σ : Mem) (res : Int) : Prop := ∀ (H : Heap) (locs : List Loc) (ls : Array Slot) (l1 : Int), PW G σ H → va_S (AA G) s.heap H locs → fn l1 = some res → lv_has ls 4 [(0, .ref (gh G + 111)), (1, .int (i32 l1))] → W p l e R s m args below meth c H locs 0 0 (MQ below (QM G (some (.int (i32 res))) σ) args s 0 0 (AA G)) (F0 m 0 ls [])
set_option maxHeartbeats 4000000 in
theorem a_X11_turnsFrom_26 {p : Program} {l : Launch} {e : Env} {R : Room} {s : State} {m : MethodId} {args : Array Value} {below : List Frame} {meth : Method} {c : Code} {G : GT} {σ : Mem} {res : Int} {rec4 : Int → Int → Int → Option (Int)} (X : CX p R s m args meth c cX11_turnsFrom 4 RX11 (some FieldType.int) 1 60 G) (h4 : S_X11_turnsFrom_4 rec4 p l e R s m args below meth c G σ res) : S_X11_turnsFrom_26 (X11_turnsFrom_B26 rec4 σ) p l e R s m args below meth c G σ res := by
  intro H locs ls l1 l3 k0 k1 hP hS hf hl
  unfold X11_turnsFrom_B26 at hf
  refine r_iadd X dX11_turnsFrom_26 ?_
  obtain ⟨l2_1, el2_1, hf⟩ := lt_inv hf
  refine r_eqi el2_1 ?_
  refine lv_istore_n (lv' := [(2, .int (i32 l2_1)), (0, .ref (gh G + 111)), (1, .int (i32 l1)), (3, .int (i32 l3))]) X.1 X.2.1 dX11_turnsFrom_27 rfl hl (by decide) rfl (fun ls hl => ?_)
  obtain ⟨l3_2, el3_2, hf⟩ := lt_inv hf
  refine lv_iinc (v := i32 l3_2) (lv' := [(3, .int (i32 l3_2)), (2, .int (i32 l2_1)), (0, .ref (gh G + 111)), (1, .int (i32 l1))]) X.1 X.2.1 dX11_turnsFrom_28 hl (k := 3) rfl (by rw [← el3_2]; exact i32_add _ _) (by decide) rfl (fun ls hl => ?_)
  refine lv_goto (tgt := 4) X.1 X.2.1 dX11_turnsFrom_31 (by decide) ?_
  exact h4  H locs ls l1 l2_1 l3_2 hP hS hf (lv_sub hl [2, 3, 1, 0] rfl)
set_option maxHeartbeats 4000000 in
theorem a_X11_turnsFrom_4 {p : Program} {l : Launch} {e : Env} {R : Room} {s : State} {m : MethodId} {args : Array Value} {below : List Frame} {meth : Method} {c : Code} {G : GT} {σ : Mem} {res : Int} {rec4 : Int → Int → Int → Option (Int)} (X : CX p R s m args meth c cX11_turnsFrom 4 RX11 (some FieldType.int) 1 60 G) (h4 : S_X11_turnsFrom_4 rec4 p l e R s m args below meth c G σ res) : S_X11_turnsFrom_4 (X11_turnsFrom_B4 rec4 σ) p l e R s m args below meth c G σ res := by
  intro H locs ls l1 l2 l3 hP hS hf hl
  unfold X11_turnsFrom_B4 at hf
  refine lv_iload_n X.1 X.2.1 dX11_turnsFrom_4 rfl (lv_at hl 3 rfl) ?_
  refine r_bipush X 40 (by decide) dX11_turnsFrom_5 ?_
  refine r_icmp_ge (tgt := 34) X dX11_turnsFrom_7 (by decide) (fun q => ?_) (fun q => ?_)
  · replace hf := it_inv q hf
    refine lv_iload_n X.1 X.2.1 dX11_turnsFrom_34 rfl (lv_at hl 2 rfl) ?_
    cases so_inv hf
    exact r_iret X hP hS dX11_turnsFrom_35
  · replace hf := ie_inv q hf
    refine lv_iload_n X.1 X.2.1 dX11_turnsFrom_10 rfl (lv_at hl 2 rfl) ?_
    refine lv_aload_n X.1 X.2.1 dX11_turnsFrom_11 rfl (lv_at hl 0 rfl) ?_
    refine g_11_33 (r := 133) X hP ks_11 rfl (tb t_1120 rfl) dX11_turnsFrom_12 ?_
    refine lv_iload_n X.1 X.2.1 dX11_turnsFrom_15 rfl (lv_at hl 3 rfl) ?_
    obtain ⟨j1, hij1, hjj1, hlj1, hf⟩ := ag_inv hf
    refine r_iald X hP (ch_11_33 ks_11).1 (ch_11_33 ks_11).2 hij1 hjj1 dX11_turnsFrom_16 ?_
    refine lv_iload_n X.1 X.2.1 dX11_turnsFrom_17 rfl (lv_at hl 1 rfl) ?_
    refine r_icmp_lt (tgt := 25) X dX11_turnsFrom_18 (by decide) (fun q => ?_) (fun q => ?_)
    · replace hf := it_inv q hf
      refine r_iconst X 0 dX11_turnsFrom_25 ?_
      exact a_X11_turnsFrom_26 X h4  H locs ls l1 l3 l2 0 hP hS hf (lv_sub hl [0, 1, 3] rfl)
    · replace hf := ie_inv q hf
      refine r_iconst X 1 dX11_turnsFrom_21 ?_
      refine lv_goto (tgt := 26) X.1 X.2.1 dX11_turnsFrom_22 (by decide) ?_
      exact a_X11_turnsFrom_26 X h4  H locs ls l1 l3 l2 1 hP hS hf (lv_sub hl [0, 1, 3] rfl)
theorem al_X11_turnsFrom_4 {p : Program} {l : Launch} {e : Env} {R : Room} {s : State} {m : MethodId} {args : Array Value} {below : List Frame} {meth : Method} {c : Code} {G : GT} {σ : Mem} {res : Int} (X : CX p R s m args meth c cX11_turnsFrom 4 RX11 (some FieldType.int) 1 60 G) : ∀ n, S_X11_turnsFrom_4 (X11_turnsFrom_L4 σ n) p l e R s m args below meth c G σ res := by
  intro n
  induction n with
  | zero =>
    intro H locs ls l1 l2 l3 hP hS hf hl
    cases hf
  | succ n ih => exact a_X11_turnsFrom_4 X ih
set_option maxHeartbeats 4000000 in
theorem a_X11_turnsFrom_0 {p : Program} {l : Launch} {e : Env} {R : Room} {s : State} {m : MethodId} {args : Array Value} {below : List Frame} {meth : Method} {c : Code} {G : GT} {σ : Mem} {res : Int} (X : CX p R s m args meth c cX11_turnsFrom 4 RX11 (some FieldType.int) 1 60 G) : S_X11_turnsFrom_0 (X11_turnsFrom σ) p l e R s m args below meth c G σ res := by
  intro H locs ls l1 hP hS hf hl
  unfold X11_turnsFrom at hf
  refine r_iconst X 0 dX11_turnsFrom_0 ?_
  refine lv_istore_n (lv' := [(2, .int (i32 0)), (0, .ref (gh G + 111)), (1, .int (i32 l1))]) X.1 X.2.1 dX11_turnsFrom_1 rfl hl (by decide) rfl (fun ls hl => ?_)
  refine r_iconst X 0 dX11_turnsFrom_2 ?_
  refine lv_istore_n (lv' := [(3, .int (i32 0)), (2, .int (i32 0)), (0, .ref (gh G + 111)), (1, .int (i32 l1))]) X.1 X.2.1 dX11_turnsFrom_3 rfl hl (by decide) rfl (fun ls hl => ?_)
  exact al_X11_turnsFrom_4 X 5000  H locs ls l1 0 0 hP hS hf (lv_sub hl [2, 3, 1, 0] rfl)
set_option maxHeartbeats 4000000 in
theorem c_X11_turnsFrom {l : Launch} {G : GT} {σ : Mem} {res : Int} {l1 : Int} (hf : X11_turnsFrom σ l1 = some res) : CT l yX11_turnsFrom cX11_turnsFrom 4 (some FieldType.int) 1 60 G [.ref (gh G + 111), .int (i32 l1)] σ σ (some (.int (i32 res))) := by
  refine CT.mk (own := RX11) (by decide) rfl (Nat.le_of_ble_eq_true rfl) ?_
  intro p e s m below meth c ls X hP hS hl
  have hl : lv_has ls 4 [(0, .ref (gh G + 111)), (1, .int (i32 l1))] := hl
  exact a_X11_turnsFrom_0 X  s.heap [] ls l1 hP hS hf hl
theorem k_X11_turnsFrom {p : Program} {l : Launch} {e : Env} {R : Room} {s : State} {m : MethodId} {args : Array Value} {below : List Frame} {meth : Method} {c : Code} {H : Heap} {locs : List Loc} {Q : State → Prop} {cc : ByteArray} {nL : Nat} {own : String} {ret : Option FieldType} {fF fL : Nat} {G : GT} {pc idx : Nat} {ls : Array Slot} {rest : List Value} {σ : Mem} {res : Int} {l1 : Int} (X : CX p R s m args meth c cc nL own ret fF fL G) (hP : PW G σ H) (hS : va_S (AA G) s.heap H locs) (hls : ls.size = nL) (hf : X11_turnsFrom σ l1 = some res) (h1 : Cond.methodLink own idx yX11_turnsFrom ∈ TB) (hR : 1 + 1 ≤ fF ∧ 8 + (4 + 11) + 60 ≤ fL) (hW : (rest.map fun v => v.category).sum ≤ 8) (hd : decode cc pc = .ok (.invokevirtual idx, 3)) (kk : ∀ (H1 : Heap) (locs1 : List Loc), PW G σ H1 → va_S (AA G) s.heap H1 locs1 → W p l e R s m args below meth c H1 locs1 0 0 Q (F0 m (pc + 3) ls (.int (i32 res) :: rest))) : W p l e R s m args below meth c H locs 0 0 Q (F0 m pc ls (.int (i32 l1) :: .ref (gh G + 111) :: rest)) := r_callV (n := 1) X hP hS hls (c_X11_turnsFrom hf) h1 (tb t_1471 rfl) (tb t_68 rfl) (tb t_87 rfl) (tb t_1472 rfl) (by decide +kernel) hR (r_recv X hP (kd_lt ks_11 (by decide)) (cE_11 ks_11) rfl) rfl rfl hW hd kk
/-! X11_all -/
theorem dX11_all_0 : decode cX11_all 0 = .ok (.iload_n 1, 1) := by decide +kernel
theorem dX11_all_1 : decode cX11_all 1 = .ok (.i2l, 1) := by decide +kernel
theorem dX11_all_2 : decode cX11_all 2 = .ok (.lconst 0, 1) := by decide +kernel
theorem dX11_all_3 : decode cX11_all 3 = .ok (.ldc2_w 91, 3) := by decide +kernel
theorem dX11_all_6 : decode cX11_all 6 = .ok (.invokestatic 93, 3) := by decide +kernel
theorem dX11_all_9 : decode cX11_all 9 = .ok (.ifCond .ne 9, 3) := by decide +kernel
theorem dX11_all_12 : decode cX11_all 12 = .ok (.aload_n 0, 1) := by decide +kernel
theorem dX11_all_13 : decode cX11_all 13 = .ok (.iconst 0, 1) := by decide +kernel
theorem dX11_all_14 : decode cX11_all 14 = .ok (.invokevirtual 122, 3) := by decide +kernel
theorem dX11_all_17 : decode cX11_all 17 = .ok (.ireturn, 1) := by decide +kernel
theorem dX11_all_18 : decode cX11_all 18 = .ok (.aload_n 0, 1) := by decide +kernel
theorem dX11_all_19 : decode cX11_all 19 = .ok (.invokevirtual 309, 3) := by decide +kernel
theorem dX11_all_22 : decode cX11_all 22 = .ok (.iconst 0, 1) := by decide +kernel
theorem dX11_all_23 : decode cX11_all 23 = .ok (.istore_n 2, 1) := by decide +kernel
theorem dX11_all_24 : decode cX11_all 24 = .ok (.iconst 0, 1) := by decide +kernel
theorem dX11_all_25 : decode cX11_all 25 = .ok (.istore_n 3, 1) := by decide +kernel
theorem dX11_all_26 : decode cX11_all 26 = .ok (.iconst 0, 1) := by decide +kernel
theorem dX11_all_27 : decode cX11_all 27 = .ok (.istore 4, 2) := by decide +kernel
theorem dX11_all_29 : decode cX11_all 29 = .ok (.iload 4, 2) := by decide +kernel
theorem dX11_all_31 : decode cX11_all 31 = .ok (.iconst 4, 1) := by decide +kernel
theorem dX11_all_32 : decode cX11_all 32 = .ok (.if_icmp .ge 39, 3) := by decide +kernel
theorem dX11_all_35 : decode cX11_all 35 = .ok (.aload_n 0, 1) := by decide +kernel
theorem dX11_all_36 : decode cX11_all 36 = .ok (.iload 4, 2) := by decide +kernel
theorem dX11_all_38 : decode cX11_all 38 = .ok (.invokevirtual 312, 3) := by decide +kernel
theorem dX11_all_41 : decode cX11_all 41 = .ok (.ifCond .ne 6, 3) := by decide +kernel
theorem dX11_all_44 : decode cX11_all 44 = .ok (.goto 21, 3) := by decide +kernel
theorem dX11_all_47 : decode cX11_all 47 = .ok (.iload_n 2, 1) := by decide +kernel
theorem dX11_all_48 : decode cX11_all 48 = .ok (.aload_n 0, 1) := by decide +kernel
theorem dX11_all_49 : decode cX11_all 49 = .ok (.getfield 38, 3) := by decide +kernel
theorem dX11_all_52 : decode cX11_all 52 = .ok (.iconst 0, 1) := by decide +kernel
theorem dX11_all_53 : decode cX11_all 53 = .ok (.iaload, 1) := by decide +kernel
theorem dX11_all_54 : decode cX11_all 54 = .ok (.iadd, 1) := by decide +kernel
theorem dX11_all_55 : decode cX11_all 55 = .ok (.istore_n 2, 1) := by decide +kernel
theorem dX11_all_56 : decode cX11_all 56 = .ok (.iload_n 3, 1) := by decide +kernel
theorem dX11_all_57 : decode cX11_all 57 = .ok (.aload_n 0, 1) := by decide +kernel
theorem dX11_all_58 : decode cX11_all 58 = .ok (.getfield 41, 3) := by decide +kernel
theorem dX11_all_61 : decode cX11_all 61 = .ok (.iconst 0, 1) := by decide +kernel
theorem dX11_all_62 : decode cX11_all 62 = .ok (.iaload, 1) := by decide +kernel
theorem dX11_all_63 : decode cX11_all 63 = .ok (.iadd, 1) := by decide +kernel
theorem dX11_all_64 : decode cX11_all 64 = .ok (.istore_n 3, 1) := by decide +kernel
theorem dX11_all_65 : decode cX11_all 65 = .ok (.iinc 4 1, 3) := by decide +kernel
theorem dX11_all_68 : decode cX11_all 68 = .ok (.goto (-39), 3) := by decide +kernel
theorem dX11_all_71 : decode cX11_all 71 = .ok (.iconst 0, 1) := by decide +kernel
theorem dX11_all_72 : decode cX11_all 72 = .ok (.istore 4, 2) := by decide +kernel
theorem dX11_all_74 : decode cX11_all 74 = .ok (.iconst 0, 1) := by decide +kernel
theorem dX11_all_75 : decode cX11_all 75 = .ok (.istore 5, 2) := by decide +kernel
theorem dX11_all_77 : decode cX11_all 77 = .ok (.iload 5, 2) := by decide +kernel
theorem dX11_all_79 : decode cX11_all 79 = .ok (.bipush 40, 2) := by decide +kernel
theorem dX11_all_81 : decode cX11_all 81 = .ok (.if_icmp .ge 35, 3) := by decide +kernel
theorem dX11_all_84 : decode cX11_all 84 = .ok (.aload_n 0, 1) := by decide +kernel
theorem dX11_all_85 : decode cX11_all 85 = .ok (.getfield 74, 3) := by decide +kernel
theorem dX11_all_88 : decode cX11_all 88 = .ok (.iload 5, 2) := by decide +kernel
theorem dX11_all_90 : decode cX11_all 90 = .ok (.iaload, 1) := by decide +kernel
theorem dX11_all_91 : decode cX11_all 91 = .ok (.iload 4, 2) := by decide +kernel
theorem dX11_all_93 : decode cX11_all 93 = .ok (.if_icmp .le 13, 3) := by decide +kernel
theorem dX11_all_96 : decode cX11_all 96 = .ok (.aload_n 0, 1) := by decide +kernel
theorem dX11_all_97 : decode cX11_all 97 = .ok (.getfield 74, 3) := by decide +kernel
theorem dX11_all_100 : decode cX11_all 100 = .ok (.iload 5, 2) := by decide +kernel
theorem dX11_all_102 : decode cX11_all 102 = .ok (.iaload, 1) := by decide +kernel
theorem dX11_all_103 : decode cX11_all 103 = .ok (.goto 5, 3) := by decide +kernel
theorem dX11_all_106 : decode cX11_all 106 = .ok (.iload 4, 2) := by decide +kernel
theorem dX11_all_108 : decode cX11_all 108 = .ok (.istore 4, 2) := by decide +kernel
theorem dX11_all_110 : decode cX11_all 110 = .ok (.iinc 5 1, 3) := by decide +kernel
theorem dX11_all_113 : decode cX11_all 113 = .ok (.goto (-36), 3) := by decide +kernel
theorem dX11_all_116 : decode cX11_all 116 = .ok (.iload_n 1, 1) := by decide +kernel
theorem dX11_all_117 : decode cX11_all 117 = .ok (.ifCond .ne 7, 3) := by decide +kernel
theorem dX11_all_120 : decode cX11_all 120 = .ok (.iload_n 2, 1) := by decide +kernel
theorem dX11_all_121 : decode cX11_all 121 = .ok (.goto 27, 3) := by decide +kernel
theorem dX11_all_124 : decode cX11_all 124 = .ok (.iload_n 1, 1) := by decide +kernel
theorem dX11_all_125 : decode cX11_all 125 = .ok (.iconst 1, 1) := by decide +kernel
theorem dX11_all_126 : decode cX11_all 126 = .ok (.if_icmp .ne 7, 3) := by decide +kernel
theorem dX11_all_129 : decode cX11_all 129 = .ok (.iload_n 3, 1) := by decide +kernel
theorem dX11_all_130 : decode cX11_all 130 = .ok (.goto 18, 3) := by decide +kernel
theorem dX11_all_133 : decode cX11_all 133 = .ok (.iload_n 1, 1) := by decide +kernel
theorem dX11_all_134 : decode cX11_all 134 = .ok (.iconst 2, 1) := by decide +kernel
theorem dX11_all_135 : decode cX11_all 135 = .ok (.if_icmp .ne 11, 3) := by decide +kernel
theorem dX11_all_138 : decode cX11_all 138 = .ok (.aload_n 0, 1) := by decide +kernel
theorem dX11_all_139 : decode cX11_all 139 = .ok (.iconst 2, 1) := by decide +kernel
theorem dX11_all_140 : decode cX11_all 140 = .ok (.invokevirtual 315, 3) := by decide +kernel
theorem dX11_all_143 : decode cX11_all 143 = .ok (.goto 5, 3) := by decide +kernel
theorem dX11_all_146 : decode cX11_all 146 = .ok (.iload 4, 2) := by decide +kernel
theorem dX11_all_148 : decode cX11_all 148 = .ok (.ireturn, 1) := by decide +kernel
def S_X11_all_29 (fn : Mem → Int → Int → Int → Int → Option (Int × Mem)) (p : Program) (l : Launch) (e : Env) (R : Room) (s : State) (m : MethodId) (args : Array Value) (below : List Frame) (meth : Method) (c : Code) (G : GT) (τ : Mem) (res : Int) : Prop := ∀ (σ : Mem) (H : Heap) (locs : List Loc) (ls : Array Slot) (l1 : Int) (l2 : Int) (l3 : Int) (l4 : Int), PW G σ H → va_S (AA G) s.heap H locs → fn σ l1 l2 l3 l4 = some (res, τ) → lv_has ls 6 [(0, .ref (gh G + 111)), (1, .int (i32 l1)), (2, .int (i32 l2)), (3, .int (i32 l3)), (4, .int (i32 l4))] → W p l e R s m args below meth c H locs 0 0 (MQ below (QM G (some (.int (i32 res))) τ) args s 0 0 (AA G)) (F0 m 29 ls [])
def S_X11_all_77 (fn : Mem → Int → Int → Int → Int → Int → Option (Int × Mem)) (p : Program) (l : Launch) (e : Env) (R : Room) (s : State) (m : MethodId) (args : Array Value) (below : List Frame) (meth : Method) (c : Code) (G : GT) (τ : Mem) (res : Int) : Prop := ∀ (σ : Mem) (H : Heap) (locs : List Loc) (ls : Array Slot) (l1 : Int) (l2 : Int) (l3 : Int) (l4 : Int) (l5 : Int), PW G σ H → va_S (AA G) s.heap H locs → fn σ l1 l2 l3 l4 l5 = some (res, τ) → lv_has ls 6 [(0, .ref (gh G + 111)), (1, .int (i32 l1)), (2, .int (i32 l2)), (3, .int (i32 l3)), (4, .int (i32 l4)), (5, .int (i32 l5))] → W p l e R s m args below meth c H locs 0 0 (MQ below (QM G (some (.int (i32 res))) τ) args s 0 0 (AA G)) (F0 m 77 ls [])
def X11_all_B108 (rec77 : Mem → Int → Int → Int → Int → Int → Option (Int × Mem)) (σ : Mem) (l1 : Int) (l2 : Int) (l3 : Int) (l5 : Int) (k0 : Int) : Option (Int × Mem) :=
  lt (l5 + 1) fun l5_1 =>
  rec77 σ l1 l2 l3 k0 l5_1
def S_X11_all_108 (fn : Mem → Int → Int → Int → Int → Int → Option (Int × Mem)) (p : Program) (l : Launch) (e : Env) (R : Room) (s : State) (m : MethodId) (args : Array Value) (below : List Frame) (meth : Method) (c : Code) (G : GT) (τ : Mem) (res : Int) : Prop := ∀ (σ : Mem) (H : Heap) (locs : List Loc) (ls : Array Slot) (l1 : Int) (l2 : Int) (l3 : Int) (l5 : Int) (k0 : Int), PW G σ H → va_S (AA G) s.heap H locs → fn σ l1 l2 l3 l5 k0 = some (res, τ) → lv_has ls 6 [(0, .ref (gh G + 111)), (1, .int (i32 l1)), (2, .int (i32 l2)), (3, .int (i32 l3)), (5, .int (i32 l5))] → W p l e R s m args below meth c H locs 0 0 (MQ below (QM G (some (.int (i32 res))) τ) args s 0 0 (AA G)) (F0 m 108 ls [.int (i32 k0)])
def X11_all_B77 (rec77 : Mem → Int → Int → Int → Int → Int → Option (Int × Mem)) (σ : Mem) (l1 : Int) (l2 : Int) (l3 : Int) (l4 : Int) (l5 : Int) : Option (Int × Mem) :=
  if w32 40 ≤ w32 l5 then
    if w32 l1 ≠ 0 then
      if w32 l1 ≠ w32 1 then
        if w32 l1 ≠ w32 2 then
          some (l4, σ)
        else
        bd (X11_turnsFrom σ 2) fun r1 =>
        some (r1, σ)
      else
      some (l3, σ)
    else
    some (l2, σ)
  else
  ag 40 l5 fun j2 =>
  if w32 (σ 133 j2) ≤ w32 l4 then
    X11_all_B108 rec77 σ l1 l2 l3 l5 l4
  else
  ag 40 l5 fun j3 =>
  X11_all_B108 rec77 σ l1 l2 l3 l5 (σ 133 j3)
def X11_all_L77 : Nat → Mem → Int → Int → Int → Int → Int → Option (Int × Mem)
  | 0 => fun _ _ _ _ _ _ => none
  | n + 1 => X11_all_B77 (X11_all_L77 n)
def X11_all_B65 (rec29 : Mem → Int → Int → Int → Int → Option (Int × Mem)) (σ : Mem) (l1 : Int) (l2 : Int) (l3 : Int) (l4 : Int) : Option (Int × Mem) :=
  lt (l4 + 1) fun l4_1 =>
  rec29 σ l1 l2 l3 l4_1
def S_X11_all_65 (fn : Mem → Int → Int → Int → Int → Option (Int × Mem)) (p : Program) (l : Launch) (e : Env) (R : Room) (s : State) (m : MethodId) (args : Array Value) (below : List Frame) (meth : Method) (c : Code) (G : GT) (τ : Mem) (res : Int) : Prop := ∀ (σ : Mem) (H : Heap) (locs : List Loc) (ls : Array Slot) (l1 : Int) (l2 : Int) (l3 : Int) (l4 : Int), PW G σ H → va_S (AA G) s.heap H locs → fn σ l1 l2 l3 l4 = some (res, τ) → lv_has ls 6 [(0, .ref (gh G + 111)), (1, .int (i32 l1)), (2, .int (i32 l2)), (3, .int (i32 l3)), (4, .int (i32 l4))] → W p l e R s m args below meth c H locs 0 0 (MQ below (QM G (some (.int (i32 res))) τ) args s 0 0 (AA G)) (F0 m 65 ls [])
def X11_all_B29 (rec29 : Mem → Int → Int → Int → Int → Option (Int × Mem)) (σ : Mem) (l1 : Int) (l2 : Int) (l3 : Int) (l4 : Int) : Option (Int × Mem) :=
  if w32 4 ≤ w32 l4 then
    X11_all_L77 5000 σ l1 l2 l3 0 0
  else
  bd2 (X11_countsTurns σ l4) fun r1 s2 =>
  if w32 r1 ≠ 0 then
    ag 1681 0 fun j3 =>
    lt (l2 + (s2 121 j3)) fun l2_4 =>
    ag 1681 0 fun j5 =>
    lt (l3 + (s2 122 j5)) fun l3_6 =>
    X11_all_B65 rec29 s2 l1 l2_4 l3_6 l4
  else
  X11_all_B65 rec29 s2 l1 l2 l3 l4
def X11_all_L29 : Nat → Mem → Int → Int → Int → Int → Option (Int × Mem)
  | 0 => fun _ _ _ _ _ => none
  | n + 1 => X11_all_B29 (X11_all_L29 n)
def X11_all (σ : Mem) (l1 : Int) : Option (Int × Mem) :=
  bd (X11_in σ (w32 l1) 0 3) fun r1 =>
  if w32 r1 ≠ 0 then
    bd (X11_noTurns σ) fun s3 =>
    X11_all_L29 5000 s3 l1 0 0 0
  else
  bd2 (X11_finds σ 0) fun r4 s5 =>
  some (r4, s5)
def S_X11_all_0 (fn : Mem → Int → Option (Int × Mem)) (p : Program) (l : Launch) (e : Env) (R : Room) (s : State) (m : MethodId) (args : Array Value) (below : List Frame) (meth : Method) (c : Code) (G : GT) (τ : Mem) (res : Int) : Prop := ∀ (σ : Mem) (H : Heap) (locs : List Loc) (ls : Array Slot) (l1 : Int), PW G σ H → va_S (AA G) s.heap H locs → fn σ l1 = some (res, τ) → lv_has ls 6 [(0, .ref (gh G + 111)), (1, .int (i32 l1))] → W p l e R s m args below meth c H locs 0 0 (MQ below (QM G (some (.int (i32 res))) τ) args s 0 0 (AA G)) (F0 m 0 ls [])
set_option maxHeartbeats 4000000 in
theorem a_X11_all_108 {p : Program} {l : Launch} {e : Env} {R : Room} {s : State} {m : MethodId} {args : Array Value} {below : List Frame} {meth : Method} {c : Code} {G : GT} {τ : Mem} {res : Int} {rec77 : Mem → Int → Int → Int → Int → Int → Option (Int × Mem)} (X : CX p R s m args meth c cX11_all 6 RX11 (some FieldType.int) 11 292 G) (h77 : S_X11_all_77 rec77 p l e R s m args below meth c G τ res) : S_X11_all_108 (X11_all_B108 rec77) p l e R s m args below meth c G τ res := by
  intro σ H locs ls l1 l2 l3 l5 k0 hP hS hf hl
  unfold X11_all_B108 at hf
  refine lv_istore (lv' := [(4, .int (i32 k0)), (0, .ref (gh G + 111)), (1, .int (i32 l1)), (2, .int (i32 l2)), (3, .int (i32 l3)), (5, .int (i32 l5))]) X.1 X.2.1 dX11_all_108 hl (by decide) rfl (fun ls hl => ?_)
  obtain ⟨l5_1, el5_1, hf⟩ := lt_inv hf
  refine lv_iinc (v := i32 l5_1) (lv' := [(5, .int (i32 l5_1)), (4, .int (i32 k0)), (0, .ref (gh G + 111)), (1, .int (i32 l1)), (2, .int (i32 l2)), (3, .int (i32 l3))]) X.1 X.2.1 dX11_all_110 hl (k := 5) rfl (by rw [← el5_1]; exact i32_add _ _) (by decide) rfl (fun ls hl => ?_)
  refine lv_goto (tgt := 77) X.1 X.2.1 dX11_all_113 (by decide) ?_
  exact h77 σ H locs ls l1 l2 l3 k0 l5_1 hP hS hf (lv_sub hl [2, 3, 4, 5, 1, 0] rfl)
set_option maxHeartbeats 4000000 in
theorem a_X11_all_77 {p : Program} {l : Launch} {e : Env} {R : Room} {s : State} {m : MethodId} {args : Array Value} {below : List Frame} {meth : Method} {c : Code} {G : GT} {τ : Mem} {res : Int} {rec77 : Mem → Int → Int → Int → Int → Int → Option (Int × Mem)} (X : CX p R s m args meth c cX11_all 6 RX11 (some FieldType.int) 11 292 G) (h77 : S_X11_all_77 rec77 p l e R s m args below meth c G τ res) : S_X11_all_77 (X11_all_B77 rec77) p l e R s m args below meth c G τ res := by
  intro σ H locs ls l1 l2 l3 l4 l5 hP hS hf hl
  unfold X11_all_B77 at hf
  refine lv_iload X.1 X.2.1 dX11_all_77 (lv_at hl 5 rfl) ?_
  refine r_bipush X 40 (by decide) dX11_all_79 ?_
  refine r_icmp_ge (tgt := 116) X dX11_all_81 (by decide) (fun q => ?_) (fun q => ?_)
  · replace hf := it_inv q hf
    refine lv_iload_n X.1 X.2.1 dX11_all_116 rfl (lv_at hl 1 rfl) ?_
    refine r_if_ne (tgt := 124) X dX11_all_117 (by decide) (fun q => ?_) (fun q => ?_)
    · replace hf := it_inv q hf
      refine lv_iload_n X.1 X.2.1 dX11_all_124 rfl (lv_at hl 1 rfl) ?_
      refine r_iconst X 1 dX11_all_125 ?_
      refine r_icmp_ne (tgt := 133) X dX11_all_126 (by decide) (fun q => ?_) (fun q => ?_)
      · replace hf := it_inv q hf
        refine lv_iload_n X.1 X.2.1 dX11_all_133 rfl (lv_at hl 1 rfl) ?_
        refine r_iconst X 2 dX11_all_134 ?_
        refine r_icmp_ne (tgt := 146) X dX11_all_135 (by decide) (fun q => ?_) (fun q => ?_)
        · replace hf := it_inv q hf
          refine lv_iload X.1 X.2.1 dX11_all_146 (lv_at hl 4 rfl) ?_
          obtain ⟨rfl, rfl⟩ := so2_inv hf
          exact r_iret X hP hS dX11_all_148
        · replace hf := ie_inv q hf
          refine lv_aload_n X.1 X.2.1 dX11_all_138 rfl (lv_at hl 0 rfl) ?_
          refine r_iconst X 2 dX11_all_139 ?_
          obtain ⟨r1, hr1, hf⟩ := bd_inv hf
          refine k_X11_turnsFrom X hP hS hl.1  hr1 (tb t_1469 rfl) (by decide) (Nat.le_of_ble_eq_true rfl) dX11_all_140 (fun H locs hP hS => ?_)
          refine lv_goto (tgt := 148) X.1 X.2.1 dX11_all_143 (by decide) ?_
          obtain ⟨rfl, rfl⟩ := so2_inv hf
          exact r_iret X hP hS dX11_all_148
      · replace hf := ie_inv q hf
        refine lv_iload_n X.1 X.2.1 dX11_all_129 rfl (lv_at hl 3 rfl) ?_
        refine lv_goto (tgt := 148) X.1 X.2.1 dX11_all_130 (by decide) ?_
        obtain ⟨rfl, rfl⟩ := so2_inv hf
        exact r_iret X hP hS dX11_all_148
    · replace hf := ie_inv q hf
      refine lv_iload_n X.1 X.2.1 dX11_all_120 rfl (lv_at hl 2 rfl) ?_
      refine lv_goto (tgt := 148) X.1 X.2.1 dX11_all_121 (by decide) ?_
      obtain ⟨rfl, rfl⟩ := so2_inv hf
      exact r_iret X hP hS dX11_all_148
  · replace hf := ie_inv q hf
    refine lv_aload_n X.1 X.2.1 dX11_all_84 rfl (lv_at hl 0 rfl) ?_
    refine g_11_33 (r := 133) X hP ks_11 rfl (tb t_1120 rfl) dX11_all_85 ?_
    refine lv_iload X.1 X.2.1 dX11_all_88 (lv_at hl 5 rfl) ?_
    obtain ⟨j2, hij2, hjj2, hlj2, hf⟩ := ag_inv hf
    refine r_iald X hP (ch_11_33 ks_11).1 (ch_11_33 ks_11).2 hij2 hjj2 dX11_all_90 ?_
    refine lv_iload X.1 X.2.1 dX11_all_91 (lv_at hl 4 rfl) ?_
    refine r_icmp_le (tgt := 106) X dX11_all_93 (by decide) (fun q => ?_) (fun q => ?_)
    · replace hf := it_inv q hf
      refine lv_iload X.1 X.2.1 dX11_all_106 (lv_at hl 4 rfl) ?_
      exact a_X11_all_108 X h77 σ H locs ls l1 l2 l3 l5 l4 hP hS hf (lv_sub hl [0, 1, 2, 3, 5] rfl)
    · replace hf := ie_inv q hf
      refine lv_aload_n X.1 X.2.1 dX11_all_96 rfl (lv_at hl 0 rfl) ?_
      refine g_11_33 (r := 133) X hP ks_11 rfl (tb t_1120 rfl) dX11_all_97 ?_
      refine lv_iload X.1 X.2.1 dX11_all_100 (lv_at hl 5 rfl) ?_
      obtain ⟨j3, hij3, hjj3, hlj3, hf⟩ := ag_inv hf
      refine r_iald X hP (ch_11_33 ks_11).1 (ch_11_33 ks_11).2 hij3 hjj3 dX11_all_102 ?_
      refine lv_goto (tgt := 108) X.1 X.2.1 dX11_all_103 (by decide) ?_
      exact a_X11_all_108 X h77 σ H locs ls l1 l2 l3 l5 (σ 133 j3) hP hS hf (lv_sub hl [0, 1, 2, 3, 5] rfl)
theorem al_X11_all_77 {p : Program} {l : Launch} {e : Env} {R : Room} {s : State} {m : MethodId} {args : Array Value} {below : List Frame} {meth : Method} {c : Code} {G : GT} {τ : Mem} {res : Int} (X : CX p R s m args meth c cX11_all 6 RX11 (some FieldType.int) 11 292 G) : ∀ n, S_X11_all_77 (X11_all_L77 n) p l e R s m args below meth c G τ res := by
  intro n
  induction n with
  | zero =>
    intro σ H locs ls l1 l2 l3 l4 l5 hP hS hf hl
    cases hf
  | succ n ih => exact a_X11_all_77 X ih
set_option maxHeartbeats 4000000 in
theorem a_X11_all_65 {p : Program} {l : Launch} {e : Env} {R : Room} {s : State} {m : MethodId} {args : Array Value} {below : List Frame} {meth : Method} {c : Code} {G : GT} {τ : Mem} {res : Int} {rec29 : Mem → Int → Int → Int → Int → Option (Int × Mem)} (X : CX p R s m args meth c cX11_all 6 RX11 (some FieldType.int) 11 292 G) (h29 : S_X11_all_29 rec29 p l e R s m args below meth c G τ res) : S_X11_all_65 (X11_all_B65 rec29) p l e R s m args below meth c G τ res := by
  intro σ H locs ls l1 l2 l3 l4 hP hS hf hl
  unfold X11_all_B65 at hf
  obtain ⟨l4_1, el4_1, hf⟩ := lt_inv hf
  refine lv_iinc (v := i32 l4_1) (lv' := [(4, .int (i32 l4_1)), (0, .ref (gh G + 111)), (1, .int (i32 l1)), (2, .int (i32 l2)), (3, .int (i32 l3))]) X.1 X.2.1 dX11_all_65 hl (k := 4) rfl (by rw [← el4_1]; exact i32_add _ _) (by decide) rfl (fun ls hl => ?_)
  refine lv_goto (tgt := 29) X.1 X.2.1 dX11_all_68 (by decide) ?_
  exact h29 σ H locs ls l1 l2 l3 l4_1 hP hS hf (lv_sub hl [1, 2, 3, 4, 0] rfl)
set_option maxHeartbeats 4000000 in
theorem a_X11_all_29 {p : Program} {l : Launch} {e : Env} {R : Room} {s : State} {m : MethodId} {args : Array Value} {below : List Frame} {meth : Method} {c : Code} {G : GT} {τ : Mem} {res : Int} {rec29 : Mem → Int → Int → Int → Int → Option (Int × Mem)} (X : CX p R s m args meth c cX11_all 6 RX11 (some FieldType.int) 11 292 G) (h29 : S_X11_all_29 rec29 p l e R s m args below meth c G τ res) : S_X11_all_29 (X11_all_B29 rec29) p l e R s m args below meth c G τ res := by
  intro σ H locs ls l1 l2 l3 l4 hP hS hf hl
  unfold X11_all_B29 at hf
  refine lv_iload X.1 X.2.1 dX11_all_29 (lv_at hl 4 rfl) ?_
  refine r_iconst X 4 dX11_all_31 ?_
  refine r_icmp_ge (tgt := 71) X dX11_all_32 (by decide) (fun q => ?_) (fun q => ?_)
  · replace hf := it_inv q hf
    refine r_iconst X 0 dX11_all_71 ?_
    refine lv_istore (lv' := [(4, .int (i32 0)), (0, .ref (gh G + 111)), (1, .int (i32 l1)), (2, .int (i32 l2)), (3, .int (i32 l3))]) X.1 X.2.1 dX11_all_72 hl (by decide) rfl (fun ls hl => ?_)
    refine r_iconst X 0 dX11_all_74 ?_
    refine lv_istore (lv' := [(5, .int (i32 0)), (4, .int (i32 0)), (0, .ref (gh G + 111)), (1, .int (i32 l1)), (2, .int (i32 l2)), (3, .int (i32 l3))]) X.1 X.2.1 dX11_all_75 hl (by decide) rfl (fun ls hl => ?_)
    exact al_X11_all_77 X 5000 σ H locs ls l1 l2 l3 0 0 hP hS hf (lv_sub hl [2, 3, 4, 5, 1, 0] rfl)
  · replace hf := ie_inv q hf
    refine lv_aload_n X.1 X.2.1 dX11_all_35 rfl (lv_at hl 0 rfl) ?_
    refine lv_iload X.1 X.2.1 dX11_all_36 (lv_at hl 4 rfl) ?_
    obtain ⟨r1, s2, hr1, hf⟩ := bd2_inv hf
    refine k_X11_countsTurns X hP hS hl.1  hr1 (tb t_1465 rfl) (by decide) (Nat.le_of_ble_eq_true rfl) dX11_all_38 (fun H locs hP hS => ?_)
    refine r_if_ne (tgt := 47) X dX11_all_41 (by decide) (fun q => ?_) (fun q => ?_)
    · replace hf := it_inv q hf
      refine lv_iload_n X.1 X.2.1 dX11_all_47 rfl (lv_at hl 2 rfl) ?_
      refine lv_aload_n X.1 X.2.1 dX11_all_48 rfl (lv_at hl 0 rfl) ?_
      refine g_11_18 (r := 121) X hP ks_11 rfl (tb t_1105 rfl) dX11_all_49 ?_
      refine r_iconst X 0 dX11_all_52 ?_
      obtain ⟨j3, hij3, hjj3, hlj3, hf⟩ := ag_inv hf
      refine r_iald X hP (ch_11_18 ks_11).1 (ch_11_18 ks_11).2 hij3 hjj3 dX11_all_53 ?_
      refine r_iadd X dX11_all_54 ?_
      obtain ⟨l2_4, el2_4, hf⟩ := lt_inv hf
      refine r_eqi el2_4 ?_
      refine lv_istore_n (lv' := [(2, .int (i32 l2_4)), (0, .ref (gh G + 111)), (1, .int (i32 l1)), (3, .int (i32 l3)), (4, .int (i32 l4))]) X.1 X.2.1 dX11_all_55 rfl hl (by decide) rfl (fun ls hl => ?_)
      refine lv_iload_n X.1 X.2.1 dX11_all_56 rfl (lv_at hl 3 rfl) ?_
      refine lv_aload_n X.1 X.2.1 dX11_all_57 rfl (lv_at hl 1 rfl) ?_
      refine g_11_19 (r := 122) X hP ks_11 rfl (tb t_1106 rfl) dX11_all_58 ?_
      refine r_iconst X 0 dX11_all_61 ?_
      obtain ⟨j5, hij5, hjj5, hlj5, hf⟩ := ag_inv hf
      refine r_iald X hP (ch_11_19 ks_11).1 (ch_11_19 ks_11).2 hij5 hjj5 dX11_all_62 ?_
      refine r_iadd X dX11_all_63 ?_
      obtain ⟨l3_6, el3_6, hf⟩ := lt_inv hf
      refine r_eqi el3_6 ?_
      refine lv_istore_n (lv' := [(3, .int (i32 l3_6)), (2, .int (i32 l2_4)), (0, .ref (gh G + 111)), (1, .int (i32 l1)), (4, .int (i32 l4))]) X.1 X.2.1 dX11_all_64 rfl hl (by decide) rfl (fun ls hl => ?_)
      exact a_X11_all_65 X h29 s2 H locs ls l1 l2_4 l3_6 l4 hP hS hf (lv_sub hl [2, 3, 1, 0, 4] rfl)
    · replace hf := ie_inv q hf
      refine lv_goto (tgt := 65) X.1 X.2.1 dX11_all_44 (by decide) ?_
      exact a_X11_all_65 X h29 s2 H locs ls l1 l2 l3 l4 hP hS hf hl
theorem al_X11_all_29 {p : Program} {l : Launch} {e : Env} {R : Room} {s : State} {m : MethodId} {args : Array Value} {below : List Frame} {meth : Method} {c : Code} {G : GT} {τ : Mem} {res : Int} (X : CX p R s m args meth c cX11_all 6 RX11 (some FieldType.int) 11 292 G) : ∀ n, S_X11_all_29 (X11_all_L29 n) p l e R s m args below meth c G τ res := by
  intro n
  induction n with
  | zero =>
    intro σ H locs ls l1 l2 l3 l4 hP hS hf hl
    cases hf
  | succ n ih => exact a_X11_all_29 X ih
set_option maxHeartbeats 4000000 in
theorem a_X11_all_0 {p : Program} {l : Launch} {e : Env} {R : Room} {s : State} {m : MethodId} {args : Array Value} {below : List Frame} {meth : Method} {c : Code} {G : GT} {τ : Mem} {res : Int} (X : CX p R s m args meth c cX11_all 6 RX11 (some FieldType.int) 11 292 G) : S_X11_all_0 (X11_all) p l e R s m args below meth c G τ res := by
  intro σ H locs ls l1 hP hS hf hl
  unfold X11_all at hf
  refine lv_iload_n X.1 X.2.1 dX11_all_0 rfl (lv_at hl 1 rfl) ?_
  refine r_i2l X dX11_all_1 ?_
  refine r_lconst X 0 0 (by decide) dX11_all_2 ?_
  refine r_ldc2 X 3 (tb t_1207 rfl) (by decide) dX11_all_3 ?_
  obtain ⟨r1, hr1, hf⟩ := bd_inv hf
  refine k_X11_in X hP hS hl.1  hr1 (tb t_1208 rfl) (by decide) (Nat.le_of_ble_eq_true rfl) dX11_all_6 (fun H locs hP hS => ?_)
  refine r_if_ne (tgt := 18) X dX11_all_9 (by decide) (fun q => ?_) (fun q => ?_)
  · replace hf := it_inv q hf
    refine lv_aload_n X.1 X.2.1 dX11_all_18 rfl (lv_at hl 0 rfl) ?_
    obtain ⟨s3, hr2, hf⟩ := bd_inv hf
    refine k_X11_noTurns X hP hS hl.1  hr2 (tb t_1461 rfl) (by decide) (Nat.le_of_ble_eq_true rfl) dX11_all_19 (fun H locs hP hS => ?_)
    refine r_iconst X 0 dX11_all_22 ?_
    refine lv_istore_n (lv' := [(2, .int (i32 0)), (0, .ref (gh G + 111)), (1, .int (i32 l1))]) X.1 X.2.1 dX11_all_23 rfl hl (by decide) rfl (fun ls hl => ?_)
    refine r_iconst X 0 dX11_all_24 ?_
    refine lv_istore_n (lv' := [(3, .int (i32 0)), (2, .int (i32 0)), (0, .ref (gh G + 111)), (1, .int (i32 l1))]) X.1 X.2.1 dX11_all_25 rfl hl (by decide) rfl (fun ls hl => ?_)
    refine r_iconst X 0 dX11_all_26 ?_
    refine lv_istore (lv' := [(4, .int (i32 0)), (3, .int (i32 0)), (2, .int (i32 0)), (0, .ref (gh G + 111)), (1, .int (i32 l1))]) X.1 X.2.1 dX11_all_27 hl (by decide) rfl (fun ls hl => ?_)
    exact al_X11_all_29 X 5000 s3 H locs ls l1 0 0 0 hP hS hf (lv_sub hl [3, 4, 2, 1, 0] rfl)
  · replace hf := ie_inv q hf
    refine lv_aload_n X.1 X.2.1 dX11_all_12 rfl (lv_at hl 0 rfl) ?_
    refine r_iconst X 0 dX11_all_13 ?_
    obtain ⟨r4, s5, hr4, hf⟩ := bd2_inv hf
    refine k_X11_finds X hP hS hl.1  hr4 (tb t_1219 rfl) (by decide) (Nat.le_of_ble_eq_true rfl) dX11_all_14 (fun H locs hP hS => ?_)
    obtain ⟨rfl, rfl⟩ := so2_inv hf
    exact r_iret X hP hS dX11_all_17
set_option maxHeartbeats 4000000 in
theorem c_X11_all {l : Launch} {G : GT} {σ τ : Mem} {res : Int} {l1 : Int} (hf : X11_all σ l1 = some (res, τ)) : CT l yX11_all cX11_all 6 (some FieldType.int) 11 292 G [.ref (gh G + 111), .int (i32 l1)] σ τ (some (.int (i32 res))) := by
  refine CT.mk (own := RX11) (by decide) rfl (Nat.le_of_ble_eq_true rfl) ?_
  intro p e s m below meth c ls X hP hS hl
  have hl : lv_has ls 6 [(0, .ref (gh G + 111)), (1, .int (i32 l1))] := hl
  exact a_X11_all_0 X σ s.heap [] ls l1 hP hS hf hl
theorem k_X11_all {p : Program} {l : Launch} {e : Env} {R : Room} {s : State} {m : MethodId} {args : Array Value} {below : List Frame} {meth : Method} {c : Code} {H : Heap} {locs : List Loc} {Q : State → Prop} {cc : ByteArray} {nL : Nat} {own : String} {ret : Option FieldType} {fF fL : Nat} {G : GT} {pc idx : Nat} {ls : Array Slot} {rest : List Value} {σ τ : Mem} {res : Int} {l1 : Int} (X : CX p R s m args meth c cc nL own ret fF fL G) (hP : PW G σ H) (hS : va_S (AA G) s.heap H locs) (hls : ls.size = nL) (hf : X11_all σ l1 = some (res, τ)) (h1 : Cond.methodLink own idx yX11_all ∈ TB) (hR : 11 + 1 ≤ fF ∧ 8 + (6 + 11) + 292 ≤ fL) (hW : (rest.map fun v => v.category).sum ≤ 8) (hd : decode cc pc = .ok (.invokevirtual idx, 3)) (kk : ∀ (H1 : Heap) (locs1 : List Loc), PW G τ H1 → va_S (AA G) s.heap H1 locs1 → W p l e R s m args below meth c H1 locs1 0 0 Q (F0 m (pc + 3) ls (.int (i32 res) :: rest))) : W p l e R s m args below meth c H locs 0 0 Q (F0 m pc ls (.int (i32 l1) :: .ref (gh G + 111) :: rest)) := r_callV (n := 1) X hP hS hls (c_X11_all hf) h1 (tb t_1474 rfl) (tb t_1475 rfl) (tb t_87 rfl) (tb t_1476 rfl) (by decide +kernel) hR (r_recv X hP (kd_lt ks_11 (by decide)) (cE_11 ks_11) rfl) rfl rfl hW hd kk
