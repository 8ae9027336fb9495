/-! X9_takeOpening -/
theorem dX9_takeOpening_0 : decode cX9_takeOpening 0 = .ok (.aload_n 0, 1) := by decide +kernel
theorem dX9_takeOpening_1 : decode cX9_takeOpening 1 = .ok (.iconst 1, 1) := by decide +kernel
theorem dX9_takeOpening_2 : decode cX9_takeOpening 2 = .ok (.bipush 9, 2) := by decide +kernel
theorem dX9_takeOpening_4 : decode cX9_takeOpening 4 = .ok (.invokevirtual 62, 3) := by decide +kernel
theorem dX9_takeOpening_7 : decode cX9_takeOpening 7 = .ok (.ifCond .ne 5, 3) := by decide +kernel
theorem dX9_takeOpening_10 : decode cX9_takeOpening 10 = .ok (.iconst 0, 1) := by decide +kernel
theorem dX9_takeOpening_11 : decode cX9_takeOpening 11 = .ok (.ireturn, 1) := by decide +kernel
theorem dX9_takeOpening_12 : decode cX9_takeOpening 12 = .ok (.aload_n 0, 1) := by decide +kernel
theorem dX9_takeOpening_13 : decode cX9_takeOpening 13 = .ok (.getfield 12, 3) := by decide +kernel
theorem dX9_takeOpening_16 : decode cX9_takeOpening 16 = .ok (.aload_n 0, 1) := by decide +kernel
theorem dX9_takeOpening_17 : decode cX9_takeOpening 17 = .ok (.getfield 31, 3) := by decide +kernel
theorem dX9_takeOpening_20 : decode cX9_takeOpening 20 = .ok (.invokevirtual 66, 3) := by decide +kernel
theorem dX9_takeOpening_23 : decode cX9_takeOpening 23 = .ok (.istore_n 1, 1) := by decide +kernel
theorem dX9_takeOpening_24 : decode cX9_takeOpening 24 = .ok (.aload_n 0, 1) := by decide +kernel
theorem dX9_takeOpening_25 : decode cX9_takeOpening 25 = .ok (.dup, 1) := by decide +kernel
theorem dX9_takeOpening_26 : decode cX9_takeOpening 26 = .ok (.getfield 31, 3) := by decide +kernel
theorem dX9_takeOpening_29 : decode cX9_takeOpening 29 = .ok (.iconst 1, 1) := by decide +kernel
theorem dX9_takeOpening_30 : decode cX9_takeOpening 30 = .ok (.iadd, 1) := by decide +kernel
theorem dX9_takeOpening_31 : decode cX9_takeOpening 31 = .ok (.putfield 31, 3) := by decide +kernel
theorem dX9_takeOpening_34 : decode cX9_takeOpening 34 = .ok (.aload_n 0, 1) := by decide +kernel
theorem dX9_takeOpening_35 : decode cX9_takeOpening 35 = .ok (.getfield 12, 3) := by decide +kernel
theorem dX9_takeOpening_38 : decode cX9_takeOpening 38 = .ok (.aload_n 0, 1) := by decide +kernel
theorem dX9_takeOpening_39 : decode cX9_takeOpening 39 = .ok (.getfield 31, 3) := by decide +kernel
theorem dX9_takeOpening_42 : decode cX9_takeOpening 42 = .ok (.invokevirtual 45, 3) := by decide +kernel
theorem dX9_takeOpening_45 : decode cX9_takeOpening 45 = .ok (.iconst 3, 1) := by decide +kernel
theorem dX9_takeOpening_46 : decode cX9_takeOpening 46 = .ok (.if_icmp .ne 11, 3) := by decide +kernel
theorem dX9_takeOpening_49 : decode cX9_takeOpening 49 = .ok (.aload_n 0, 1) := by decide +kernel
theorem dX9_takeOpening_50 : decode cX9_takeOpening 50 = .ok (.getfield 42, 3) := by decide +kernel
theorem dX9_takeOpening_53 : decode cX9_takeOpening 53 = .ok (.iconst 4, 1) := by decide +kernel
theorem dX9_takeOpening_54 : decode cX9_takeOpening 54 = .ok (.if_icmp .lt 5, 3) := by decide +kernel
theorem dX9_takeOpening_57 : decode cX9_takeOpening 57 = .ok (.iconst 0, 1) := by decide +kernel
theorem dX9_takeOpening_58 : decode cX9_takeOpening 58 = .ok (.ireturn, 1) := by decide +kernel
theorem dX9_takeOpening_59 : decode cX9_takeOpening 59 = .ok (.aload_n 0, 1) := by decide +kernel
theorem dX9_takeOpening_60 : decode cX9_takeOpening 60 = .ok (.dup, 1) := by decide +kernel
theorem dX9_takeOpening_61 : decode cX9_takeOpening 61 = .ok (.getfield 31, 3) := by decide +kernel
theorem dX9_takeOpening_64 : decode cX9_takeOpening 64 = .ok (.iconst 1, 1) := by decide +kernel
theorem dX9_takeOpening_65 : decode cX9_takeOpening 65 = .ok (.iadd, 1) := by decide +kernel
theorem dX9_takeOpening_66 : decode cX9_takeOpening 66 = .ok (.putfield 31, 3) := by decide +kernel
theorem dX9_takeOpening_69 : decode cX9_takeOpening 69 = .ok (.aload_n 0, 1) := by decide +kernel
theorem dX9_takeOpening_70 : decode cX9_takeOpening 70 = .ok (.getfield 22, 3) := by decide +kernel
theorem dX9_takeOpening_73 : decode cX9_takeOpening 73 = .ok (.aload_n 0, 1) := by decide +kernel
theorem dX9_takeOpening_74 : decode cX9_takeOpening 74 = .ok (.getfield 42, 3) := by decide +kernel
theorem dX9_takeOpening_77 : decode cX9_takeOpening 77 = .ok (.iload_n 1, 1) := by decide +kernel
theorem dX9_takeOpening_78 : decode cX9_takeOpening 78 = .ok (.iastore, 1) := by decide +kernel
theorem dX9_takeOpening_79 : decode cX9_takeOpening 79 = .ok (.aload_n 0, 1) := by decide +kernel
theorem dX9_takeOpening_80 : decode cX9_takeOpening 80 = .ok (.getfield 25, 3) := by decide +kernel
theorem dX9_takeOpening_83 : decode cX9_takeOpening 83 = .ok (.aload_n 0, 1) := by decide +kernel
theorem dX9_takeOpening_84 : decode cX9_takeOpening 84 = .ok (.getfield 42, 3) := by decide +kernel
theorem dX9_takeOpening_87 : decode cX9_takeOpening 87 = .ok (.aload_n 0, 1) := by decide +kernel
theorem dX9_takeOpening_88 : decode cX9_takeOpening 88 = .ok (.getfield 35, 3) := by decide +kernel
theorem dX9_takeOpening_91 : decode cX9_takeOpening 91 = .ok (.iastore, 1) := by decide +kernel
theorem dX9_takeOpening_92 : decode cX9_takeOpening 92 = .ok (.aload_n 0, 1) := by decide +kernel
theorem dX9_takeOpening_93 : decode cX9_takeOpening 93 = .ok (.dup, 1) := by decide +kernel
theorem dX9_takeOpening_94 : decode cX9_takeOpening 94 = .ok (.getfield 42, 3) := by decide +kernel
theorem dX9_takeOpening_97 : decode cX9_takeOpening 97 = .ok (.iconst 1, 1) := by decide +kernel
theorem dX9_takeOpening_98 : decode cX9_takeOpening 98 = .ok (.iadd, 1) := by decide +kernel
theorem dX9_takeOpening_99 : decode cX9_takeOpening 99 = .ok (.putfield 42, 3) := by decide +kernel
theorem dX9_takeOpening_102 : decode cX9_takeOpening 102 = .ok (.iconst 1, 1) := by decide +kernel
theorem dX9_takeOpening_103 : decode cX9_takeOpening 103 = .ok (.ireturn, 1) := by decide +kernel
def X9_takeOpening (σ : Mem) : Option (Int × Mem) :=
  bd (X9_isNumber σ 1 9) fun r1 =>
  if w32 r1 ≠ 0 then
    bd (X8_valueOf σ (σ 41 1)) fun r2 =>
    lt (st σ 41 1 ((σ 41 1) + 1)) fun s3 =>
    bd (X8_kindOf s3 (s3 41 1)) fun r4 =>
    if w32 r4 ≠ w32 3 then
      some (0, s3)
    else
    if w32 (s3 41 5) < w32 4 then
      lt (st s3 41 1 ((s3 41 1) + 1)) fun s5 =>
      ag 4 (s5 41 5) fun j6 =>
      lt (st s5 48 j6 r2) fun s7 =>
      ag 4 (s7 41 5) fun j8 =>
      lt (st s7 49 j8 (s7 41 3)) fun s9 =>
      lt (st s9 41 5 ((s9 41 5) + 1)) fun s10 =>
      some (1, s10)
    else
    some (0, s3)
  else
  some (0, σ)
def S_X9_takeOpening_0 (fn : Mem → Option (Int × Mem)) (p : Program) (l : Launch) (e : Env) (R : Room) (s : State) (m : MethodId) (args : Array Value) (below : List Frame) (meth : Method) (c : Code) (G : GT) (τ : Mem) (res : Int) : Prop := ∀ (σ : Mem) (H : Heap) (locs : List Loc) (ls : Array Slot), PW G σ H → va_S (AA G) s.heap H locs → fn σ = some (res, τ) → lv_has ls 2 [(0, .ref (gh G + 41))] → W p l e R s m args below meth c H locs 0 0 (MQ below (QM G (some (.int (i32 res))) τ) args s 0 0 (AA G)) (F0 m 0 ls [])
set_option maxHeartbeats 4000000 in
theorem a_X9_takeOpening_0 {p : Program} {l : Launch} {e : Env} {R : Room} {s : State} {m : MethodId} {args : Array Value} {below : List Frame} {meth : Method} {c : Code} {G : GT} {τ : Mem} {res : Int} (X : CX p R s m args meth c cX9_takeOpening 2 RX9 (some FieldType.boolean) 4 124 G) : S_X9_takeOpening_0 (X9_takeOpening) p l e R s m args below meth c G τ res := by
  intro σ H locs ls hP hS hf hl
  unfold X9_takeOpening at hf
  refine lv_aload_n X.1 X.2.1 dX9_takeOpening_0 rfl (lv_at hl 0 rfl) ?_
  refine r_iconst X 1 dX9_takeOpening_1 ?_
  refine r_bipush X 9 (by decide) dX9_takeOpening_2 ?_
  obtain ⟨r1, hr1, hf⟩ := bd_inv hf
  refine k_X9_isNumber X hP hS hl.1  hr1 (tb t_583 rfl) (by decide) (Nat.le_of_ble_eq_true rfl) dX9_takeOpening_4 (fun H locs hP hS => ?_)
  refine r_if_ne (tgt := 12) X dX9_takeOpening_7 (by decide) (fun q => ?_) (fun q => ?_)
  · replace hf := it_inv q hf
    refine lv_aload_n X.1 X.2.1 dX9_takeOpening_12 rfl (lv_at hl 0 rfl) ?_
    refine g_9_0 (r := 42) X hP ks_9 rfl (tb t_215 rfl) dX9_takeOpening_13 ?_
    refine lv_aload_n X.1 X.2.1 dX9_takeOpening_16 rfl (lv_at hl 0 rfl) ?_
    refine g_9_1 X hP ks_9 (tb t_217 rfl) dX9_takeOpening_17 ?_
    obtain ⟨r2, hr2, hf⟩ := bd_inv hf
    refine k_X8_valueOf X hP hS hl.1  hr2 (tb t_587 rfl) (by decide) (Nat.le_of_ble_eq_true rfl) dX9_takeOpening_20 (fun H locs hP hS => ?_)
    refine lv_istore_n (lv' := [(1, .int (i32 r2)), (0, .ref (gh G + 41))]) X.1 X.2.1 dX9_takeOpening_23 rfl hl (by decide) rfl (fun ls hl => ?_)
    refine lv_aload_n X.1 X.2.1 dX9_takeOpening_24 rfl (lv_at hl 1 rfl) ?_
    refine lv_dup X.1 X.2.1 dX9_takeOpening_25 rfl ?_
    refine g_9_1 X hP ks_9 (tb t_217 rfl) dX9_takeOpening_26 ?_
    refine r_iconst X 1 dX9_takeOpening_29 ?_
    refine r_iadd X dX9_takeOpening_30 ?_
    refine p_9_1 X hP hS ks_9 (tb t_217 rfl) dX9_takeOpening_31 (fun H locs hP hS => ?_)
    obtain ⟨s3, es3, hf⟩ := lt_inv hf
    rw [es3] at hP
    refine lv_aload_n X.1 X.2.1 dX9_takeOpening_34 rfl (lv_at hl 1 rfl) ?_
    refine g_9_0 (r := 42) X hP ks_9 rfl (tb t_215 rfl) dX9_takeOpening_35 ?_
    refine lv_aload_n X.1 X.2.1 dX9_takeOpening_38 rfl (lv_at hl 1 rfl) ?_
    refine g_9_1 X hP ks_9 (tb t_217 rfl) dX9_takeOpening_39 ?_
    obtain ⟨r4, hr4, hf⟩ := bd_inv hf
    refine k_X8_kindOf X hP hS hl.1  hr4 (tb t_571 rfl) (by decide) (Nat.le_of_ble_eq_true rfl) dX9_takeOpening_42 (fun H locs hP hS => ?_)
    refine r_iconst X 3 dX9_takeOpening_45 ?_
    refine r_icmp_ne (tgt := 57) X dX9_takeOpening_46 (by decide) (fun q => ?_) (fun q => ?_)
    · replace hf := it_inv q hf
      refine r_iconst X 0 dX9_takeOpening_57 ?_
      obtain ⟨rfl, rfl⟩ := so2_inv hf
      exact r_zret X hP hS (Or.inl rfl) dX9_takeOpening_58
    · replace hf := ie_inv q hf
      refine lv_aload_n X.1 X.2.1 dX9_takeOpening_49 rfl (lv_at hl 1 rfl) ?_
      refine g_9_5 X hP ks_9 (tb t_224 rfl) dX9_takeOpening_50 ?_
      refine r_iconst X 4 dX9_takeOpening_53 ?_
      refine r_icmp_lt (tgt := 59) X dX9_takeOpening_54 (by decide) (fun q => ?_) (fun q => ?_)
      · replace hf := it_inv q hf
        refine lv_aload_n X.1 X.2.1 dX9_takeOpening_59 rfl (lv_at hl 1 rfl) ?_
        refine lv_dup X.1 X.2.1 dX9_takeOpening_60 rfl ?_
        refine g_9_1 X hP ks_9 (tb t_217 rfl) dX9_takeOpening_61 ?_
        refine r_iconst X 1 dX9_takeOpening_64 ?_
        refine r_iadd X dX9_takeOpening_65 ?_
        refine p_9_1 X hP hS ks_9 (tb t_217 rfl) dX9_takeOpening_66 (fun H locs hP hS => ?_)
        obtain ⟨s5, es5, hf⟩ := lt_inv hf
        rw [es5] at hP
        refine lv_aload_n X.1 X.2.1 dX9_takeOpening_69 rfl (lv_at hl 1 rfl) ?_
        refine g_9_6 (r := 48) X hP ks_9 rfl (tb t_225 rfl) dX9_takeOpening_70 ?_
        refine lv_aload_n X.1 X.2.1 dX9_takeOpening_73 rfl (lv_at hl 1 rfl) ?_
        refine g_9_5 X hP ks_9 (tb t_224 rfl) dX9_takeOpening_74 ?_
        refine lv_iload_n X.1 X.2.1 dX9_takeOpening_77 rfl (lv_at hl 0 rfl) ?_
        obtain ⟨j6, hij6, hjj6, hlj6, hf⟩ := ag_inv hf
        refine r_iast X hP hS (ch_9_6 ks_9).1 (ch_9_6 ks_9).2 hij6 hjj6 dX9_takeOpening_78 (fun H locs hP hS => ?_)
        obtain ⟨s7, es7, hf⟩ := lt_inv hf
        rw [es7] at hP
        refine lv_aload_n X.1 X.2.1 dX9_takeOpening_79 rfl (lv_at hl 1 rfl) ?_
        refine g_9_7 (r := 49) X hP ks_9 rfl (tb t_226 rfl) dX9_takeOpening_80 ?_
        refine lv_aload_n X.1 X.2.1 dX9_takeOpening_83 rfl (lv_at hl 1 rfl) ?_
        refine g_9_5 X hP ks_9 (tb t_224 rfl) dX9_takeOpening_84 ?_
        refine lv_aload_n X.1 X.2.1 dX9_takeOpening_87 rfl (lv_at hl 1 rfl) ?_
        refine g_9_3 X hP ks_9 (tb t_220 rfl) dX9_takeOpening_88 ?_
        obtain ⟨j8, hij8, hjj8, hlj8, hf⟩ := ag_inv hf
        refine r_iast X hP hS (ch_9_7 ks_9).1 (ch_9_7 ks_9).2 hij8 hjj8 dX9_takeOpening_91 (fun H locs hP hS => ?_)
        obtain ⟨s9, es9, hf⟩ := lt_inv hf
        rw [es9] at hP
        refine lv_aload_n X.1 X.2.1 dX9_takeOpening_92 rfl (lv_at hl 1 rfl) ?_
        refine lv_dup X.1 X.2.1 dX9_takeOpening_93 rfl ?_
        refine g_9_5 X hP ks_9 (tb t_224 rfl) dX9_takeOpening_94 ?_
        refine r_iconst X 1 dX9_takeOpening_97 ?_
        refine r_iadd X dX9_takeOpening_98 ?_
        refine p_9_5 X hP hS ks_9 (tb t_224 rfl) dX9_takeOpening_99 (fun H locs hP hS => ?_)
        obtain ⟨s10, es10, hf⟩ := lt_inv hf
        rw [es10] at hP
        refine r_iconst X 1 dX9_takeOpening_102 ?_
        obtain ⟨rfl, rfl⟩ := so2_inv hf
        exact r_zret X hP hS (Or.inr rfl) dX9_takeOpening_103
      · replace hf := ie_inv q hf
        refine r_iconst X 0 dX9_takeOpening_57 ?_
        obtain ⟨rfl, rfl⟩ := so2_inv hf
        exact r_zret X hP hS (Or.inl rfl) dX9_takeOpening_58
  · replace hf := ie_inv q hf
    refine r_iconst X 0 dX9_takeOpening_10 ?_
    obtain ⟨rfl, rfl⟩ := so2_inv hf
    exact r_zret X hP hS (Or.inl rfl) dX9_takeOpening_11
set_option maxHeartbeats 4000000 in
theorem c_X9_takeOpening {l : Launch} {G : GT} {σ τ : Mem} {res : Int} (hf : X9_takeOpening σ = some (res, τ)) : CT l yX9_takeOpening cX9_takeOpening 2 (some FieldType.boolean) 4 124 G [.ref (gh G + 41)] σ τ (some (.int (i32 res))) := by
  refine CT.mk (own := RX9) (by decide) rfl (Nat.le_of_ble_eq_true rfl) ?_
  intro p e s m below meth c ls X hP hS hl
  have hl : lv_has ls 2 [(0, .ref (gh G + 41))] := hl
  exact a_X9_takeOpening_0 X σ s.heap [] ls hP hS hf hl
theorem k_X9_takeOpening {p : Program} {l : Launch} {e : Env} {R : Room} {s : State} {m : MethodId} {args : Array Value} {below : List Frame} {meth : Method} {c : Code} {H : Heap} {locs : List Loc} {Q : State → Prop} {cc : ByteArray} {nL : Nat} {own : String} {ret : Option FieldType} {fF fL : Nat} {G : GT} {pc idx : Nat} {ls : Array Slot} {rest : List Value} {σ τ : Mem} {res : Int} (X : CX p R s m args meth c cc nL own ret fF fL G) (hP : PW G σ H) (hS : va_S (AA G) s.heap H locs) (hls : ls.size = nL) (hf : X9_takeOpening σ = some (res, τ)) (h1 : Cond.methodLink own idx yX9_takeOpening ∈ TB) (hR : 4 + 1 ≤ fF ∧ 8 + (2 + 11) + 124 ≤ fL) (hW : (rest.map fun v => v.category).sum ≤ 8) (hd : decode cc pc = .ok (.invokevirtual idx, 3)) (kk : ∀ (H1 : Heap) (locs1 : List Loc), PW G τ H1 → va_S (AA G) s.heap H1 locs1 → W p l e R s m args below meth c H1 locs1 0 0 Q (F0 m (pc + 3) ls (.int (i32 res) :: rest))) : W p l e R s m args below meth c H locs 0 0 Q (F0 m pc ls (.ref (gh G + 41) :: rest)) := r_callV (n := 0) X hP hS hls (c_X9_takeOpening hf) h1 (tb t_581 rfl) (tb t_12 rfl) (tb t_80 rfl) (tb t_582 rfl) (by decide +kernel) hR (r_recv X hP (kd_lt ks_9 (by decide)) (cE_9 ks_9) rfl) rfl rfl hW hd kk
/-! X9_isWord -/
theorem dX9_isWord_0 : decode cX9_isWord 0 = .ok (.aload_n 0, 1) := by decide +kernel
theorem dX9_isWord_1 : decode cX9_isWord 1 = .ok (.getfield 12, 3) := by decide +kernel
theorem dX9_isWord_4 : decode cX9_isWord 4 = .ok (.aload_n 0, 1) := by decide +kernel
theorem dX9_isWord_5 : decode cX9_isWord 5 = .ok (.getfield 31, 3) := by decide +kernel
theorem dX9_isWord_8 : decode cX9_isWord 8 = .ok (.invokevirtual 45, 3) := by decide +kernel
theorem dX9_isWord_11 : decode cX9_isWord 11 = .ok (.iconst 1, 1) := by decide +kernel
theorem dX9_isWord_12 : decode cX9_isWord 12 = .ok (.if_icmp .ne 22, 3) := by decide +kernel
theorem dX9_isWord_15 : decode cX9_isWord 15 = .ok (.aload_n 0, 1) := by decide +kernel
theorem dX9_isWord_16 : decode cX9_isWord 16 = .ok (.getfield 12, 3) := by decide +kernel
theorem dX9_isWord_19 : decode cX9_isWord 19 = .ok (.aload_n 0, 1) := by decide +kernel
theorem dX9_isWord_20 : decode cX9_isWord 20 = .ok (.getfield 31, 3) := by decide +kernel
theorem dX9_isWord_23 : decode cX9_isWord 23 = .ok (.invokevirtual 66, 3) := by decide +kernel
theorem dX9_isWord_26 : decode cX9_isWord 26 = .ok (.iload_n 1, 1) := by decide +kernel
theorem dX9_isWord_27 : decode cX9_isWord 27 = .ok (.if_icmp .ne 7, 3) := by decide +kernel
theorem dX9_isWord_30 : decode cX9_isWord 30 = .ok (.iconst 1, 1) := by decide +kernel
theorem dX9_isWord_31 : decode cX9_isWord 31 = .ok (.goto 4, 3) := by decide +kernel
theorem dX9_isWord_34 : decode cX9_isWord 34 = .ok (.iconst 0, 1) := by decide +kernel
theorem dX9_isWord_35 : decode cX9_isWord 35 = .ok (.ireturn, 1) := by decide +kernel
def X9_isWord (σ : Mem) (l1 : Int) : Option (Int) :=
  bd (X8_kindOf σ (σ 41 1)) fun r1 =>
  if w32 r1 ≠ w32 1 then
    some 0
  else
  bd (X8_valueOf σ (σ 41 1)) fun r2 =>
  if w32 r2 ≠ w32 l1 then
    some 0
  else
  some 1
def S_X9_isWord_0 (fn : Int → Option (Int)) (p : Program) (l : Launch) (e : Env) (R : Room) (s : State) (m : MethodId) (args : Array Value) (below : List Frame) (meth : Method) (c : Code) (G : GT) (σ : Mem) (res : Int) : Prop := ∀ (H : Heap) (locs : List Loc) (ls : Array Slot) (l1 : Int), PW G σ H → va_S (AA G) s.heap H locs → fn l1 = some res → lv_has ls 2 [(0, .ref (gh G + 41)), (1, .int (i32 l1))] → W p l e R s m args below meth c H locs 0 0 (MQ below (QM G (some (.int (i32 res))) σ) args s 0 0 (AA G)) (F0 m 0 ls [])
set_option maxHeartbeats 4000000 in
theorem a_X9_isWord_0 {p : Program} {l : Launch} {e : Env} {R : Room} {s : State} {m : MethodId} {args : Array Value} {below : List Frame} {meth : Method} {c : Code} {G : GT} {σ : Mem} {res : Int} (X : CX p R s m args meth c cX9_isWord 2 RX9 (some FieldType.boolean) 3 102 G) : S_X9_isWord_0 (X9_isWord σ) p l e R s m args below meth c G σ res := by
  intro H locs ls l1 hP hS hf hl
  unfold X9_isWord at hf
  refine lv_aload_n X.1 X.2.1 dX9_isWord_0 rfl (lv_at hl 0 rfl) ?_
  refine g_9_0 (r := 42) X hP ks_9 rfl (tb t_215 rfl) dX9_isWord_1 ?_
  refine lv_aload_n X.1 X.2.1 dX9_isWord_4 rfl (lv_at hl 0 rfl) ?_
  refine g_9_1 X hP ks_9 (tb t_217 rfl) dX9_isWord_5 ?_
  obtain ⟨r1, hr1, hf⟩ := bd_inv hf
  refine k_X8_kindOf X hP hS hl.1  hr1 (tb t_571 rfl) (by decide) (Nat.le_of_ble_eq_true rfl) dX9_isWord_8 (fun H locs hP hS => ?_)
  refine r_iconst X 1 dX9_isWord_11 ?_
  refine r_icmp_ne (tgt := 34) X dX9_isWord_12 (by decide) (fun q => ?_) (fun q => ?_)
  · replace hf := it_inv q hf
    refine r_iconst X 0 dX9_isWord_34 ?_
    cases so_inv hf
    exact r_zret X hP hS (Or.inl rfl) dX9_isWord_35
  · replace hf := ie_inv q hf
    refine lv_aload_n X.1 X.2.1 dX9_isWord_15 rfl (lv_at hl 0 rfl) ?_
    refine g_9_0 (r := 42) X hP ks_9 rfl (tb t_215 rfl) dX9_isWord_16 ?_
    refine lv_aload_n X.1 X.2.1 dX9_isWord_19 rfl (lv_at hl 0 rfl) ?_
    refine g_9_1 X hP ks_9 (tb t_217 rfl) dX9_isWord_20 ?_
    obtain ⟨r2, hr2, hf⟩ := bd_inv hf
    refine k_X8_valueOf X hP hS hl.1  hr2 (tb t_587 rfl) (by decide) (Nat.le_of_ble_eq_true rfl) dX9_isWord_23 (fun H locs hP hS => ?_)
    refine lv_iload_n X.1 X.2.1 dX9_isWord_26 rfl (lv_at hl 1 rfl) ?_
    refine r_icmp_ne (tgt := 34) X dX9_isWord_27 (by decide) (fun q => ?_) (fun q => ?_)
    · replace hf := it_inv q hf
      refine r_iconst X 0 dX9_isWord_34 ?_
      cases so_inv hf
      exact r_zret X hP hS (Or.inl rfl) dX9_isWord_35
    · replace hf := ie_inv q hf
      refine r_iconst X 1 dX9_isWord_30 ?_
      refine lv_goto (tgt := 35) X.1 X.2.1 dX9_isWord_31 (by decide) ?_
      cases so_inv hf
      exact r_zret X hP hS (Or.inr rfl) dX9_isWord_35
set_option maxHeartbeats 4000000 in
theorem c_X9_isWord {l : Launch} {G : GT} {σ : Mem} {res : Int} {l1 : Int} (hf : X9_isWord σ l1 = some res) : CT l yX9_isWord cX9_isWord 2 (some FieldType.boolean) 3 102 G [.ref (gh G + 41), .int (i32 l1)] σ σ (some (.int (i32 res))) := by
  refine CT.mk (own := RX9) (by decide) rfl (Nat.le_of_ble_eq_true rfl) ?_
  intro p e s m below meth c ls X hP hS hl
  have hl : lv_has ls 2 [(0, .ref (gh G + 41)), (1, .int (i32 l1))] := hl
  exact a_X9_isWord_0 X  s.heap [] ls l1 hP hS hf hl
theorem k_X9_isWord {p : Program} {l : Launch} {e : Env} {R : Room} {s : State} {m : MethodId} {args : Array Value} {below : List Frame} {meth : Method} {c : Code} {H : Heap} {locs : List Loc} {Q : State → Prop} {cc : ByteArray} {nL : Nat} {own : String} {ret : Option FieldType} {fF fL : Nat} {G : GT} {pc idx : Nat} {ls : Array Slot} {rest : List Value} {σ : Mem} {res : Int} {l1 : Int} (X : CX p R s m args meth c cc nL own ret fF fL G) (hP : PW G σ H) (hS : va_S (AA G) s.heap H locs) (hls : ls.size = nL) (hf : X9_isWord σ l1 = some res) (h1 : Cond.methodLink own idx yX9_isWord ∈ TB) (hR : 3 + 1 ≤ fF ∧ 8 + (2 + 11) + 102 ≤ fL) (hW : (rest.map fun v => v.category).sum ≤ 8) (hd : decode cc pc = .ok (.invokevirtual idx, 3)) (kk : ∀ (H1 : Heap) (locs1 : List Loc), PW G σ H1 → va_S (AA G) s.heap H1 locs1 → W p l e R s m args below meth c H1 locs1 0 0 Q (F0 m (pc + 3) ls (.int (i32 res) :: rest))) : W p l e R s m args below meth c H locs 0 0 Q (F0 m pc ls (.int (i32 l1) :: .ref (gh G + 41) :: rest)) := r_callV (n := 1) X hP hS hls (c_X9_isWord hf) h1 (tb t_598 rfl) (tb t_15 rfl) (tb t_80 rfl) (tb t_599 rfl) (by decide +kernel) hR (r_recv X hP (kd_lt ks_9 (by decide)) (cE_9 ks_9) rfl) rfl rfl hW hd kk
/-! X9_takeMarks -/
theorem dX9_takeMarks_0 : decode cX9_takeMarks 0 = .ok (.iconst 0, 1) := by decide +kernel
theorem dX9_takeMarks_1 : decode cX9_takeMarks 1 = .ok (.istore_n 1, 1) := by decide +kernel
theorem dX9_takeMarks_2 : decode cX9_takeMarks 2 = .ok (.iconst 0, 1) := by decide +kernel
theorem dX9_takeMarks_3 : decode cX9_takeMarks 3 = .ok (.istore_n 2, 1) := by decide +kernel
theorem dX9_takeMarks_4 : decode cX9_takeMarks 4 = .ok (.iload_n 2, 1) := by decide +kernel
theorem dX9_takeMarks_5 : decode cX9_takeMarks 5 = .ok (.bipush 120, 2) := by decide +kernel
theorem dX9_takeMarks_7 : decode cX9_takeMarks 7 = .ok (.if_icmp .ge 62, 3) := by decide +kernel
theorem dX9_takeMarks_10 : decode cX9_takeMarks 10 = .ok (.aload_n 0, 1) := by decide +kernel
theorem dX9_takeMarks_11 : decode cX9_takeMarks 11 = .ok (.iconst 4, 1) := by decide +kernel
theorem dX9_takeMarks_12 : decode cX9_takeMarks 12 = .ok (.invokevirtual 79, 3) := by decide +kernel
theorem dX9_takeMarks_15 : decode cX9_takeMarks 15 = .ok (.ifCond .eq 10, 3) := by decide +kernel
theorem dX9_takeMarks_18 : decode cX9_takeMarks 18 = .ok (.iload_n 1, 1) := by decide +kernel
theorem dX9_takeMarks_19 : decode cX9_takeMarks 19 = .ok (.iconst 1, 1) := by decide +kernel
theorem dX9_takeMarks_20 : decode cX9_takeMarks 20 = .ok (.ior, 1) := by decide +kernel
theorem dX9_takeMarks_21 : decode cX9_takeMarks 21 = .ok (.istore_n 1, 1) := by decide +kernel
theorem dX9_takeMarks_22 : decode cX9_takeMarks 22 = .ok (.goto 31, 3) := by decide +kernel
theorem dX9_takeMarks_25 : decode cX9_takeMarks 25 = .ok (.aload_n 0, 1) := by decide +kernel
theorem dX9_takeMarks_26 : decode cX9_takeMarks 26 = .ok (.iconst 5, 1) := by decide +kernel
theorem dX9_takeMarks_27 : decode cX9_takeMarks 27 = .ok (.invokevirtual 79, 3) := by decide +kernel
theorem dX9_takeMarks_30 : decode cX9_takeMarks 30 = .ok (.ifCond .eq 10, 3) := by decide +kernel
theorem dX9_takeMarks_33 : decode cX9_takeMarks 33 = .ok (.iload_n 1, 1) := by decide +kernel
theorem dX9_takeMarks_34 : decode cX9_takeMarks 34 = .ok (.iconst 2, 1) := by decide +kernel
theorem dX9_takeMarks_35 : decode cX9_takeMarks 35 = .ok (.ior, 1) := by decide +kernel
theorem dX9_takeMarks_36 : decode cX9_takeMarks 36 = .ok (.istore_n 1, 1) := by decide +kernel
theorem dX9_takeMarks_37 : decode cX9_takeMarks 37 = .ok (.goto 16, 3) := by decide +kernel
theorem dX9_takeMarks_40 : decode cX9_takeMarks 40 = .ok (.aload_n 0, 1) := by decide +kernel
theorem dX9_takeMarks_41 : decode cX9_takeMarks 41 = .ok (.bipush 6, 2) := by decide +kernel
theorem dX9_takeMarks_43 : decode cX9_takeMarks 43 = .ok (.invokevirtual 79, 3) := by decide +kernel
theorem dX9_takeMarks_46 : decode cX9_takeMarks 46 = .ok (.ifCond .eq 23, 3) := by decide +kernel
theorem dX9_takeMarks_49 : decode cX9_takeMarks 49 = .ok (.iload_n 1, 1) := by decide +kernel
theorem dX9_takeMarks_50 : decode cX9_takeMarks 50 = .ok (.iconst 4, 1) := by decide +kernel
theorem dX9_takeMarks_51 : decode cX9_takeMarks 51 = .ok (.ior, 1) := by decide +kernel
theorem dX9_takeMarks_52 : decode cX9_takeMarks 52 = .ok (.istore_n 1, 1) := by decide +kernel
theorem dX9_takeMarks_53 : decode cX9_takeMarks 53 = .ok (.aload_n 0, 1) := by decide +kernel
theorem dX9_takeMarks_54 : decode cX9_takeMarks 54 = .ok (.dup, 1) := by decide +kernel
theorem dX9_takeMarks_55 : decode cX9_takeMarks 55 = .ok (.getfield 31, 3) := by decide +kernel
theorem dX9_takeMarks_58 : decode cX9_takeMarks 58 = .ok (.iconst 1, 1) := by decide +kernel
theorem dX9_takeMarks_59 : decode cX9_takeMarks 59 = .ok (.iadd, 1) := by decide +kernel
theorem dX9_takeMarks_60 : decode cX9_takeMarks 60 = .ok (.putfield 31, 3) := by decide +kernel
theorem dX9_takeMarks_63 : decode cX9_takeMarks 63 = .ok (.iinc 2 1, 3) := by decide +kernel
theorem dX9_takeMarks_66 : decode cX9_takeMarks 66 = .ok (.goto (-62), 3) := by decide +kernel
theorem dX9_takeMarks_69 : decode cX9_takeMarks 69 = .ok (.iload_n 1, 1) := by decide +kernel
theorem dX9_takeMarks_70 : decode cX9_takeMarks 70 = .ok (.ireturn, 1) := by decide +kernel
def S_X9_takeMarks_4 (fn : Mem → Int → Int → Option (Int × Mem)) (p : Program) (l : Launch) (e : Env) (R : Room) (s : State) (m : MethodId) (args : Array Value) (below : List Frame) (meth : Method) (c : Code) (G : GT) (τ : Mem) (res : Int) : Prop := ∀ (σ : Mem) (H : Heap) (locs : List Loc) (ls : Array Slot) (l1 : Int) (l2 : Int), PW G σ H → va_S (AA G) s.heap H locs → fn σ l1 l2 = some (res, τ) → lv_has ls 3 [(0, .ref (gh G + 41)), (1, .int (i32 l1)), (2, .int (i32 l2))] → W p l e R s m args below meth c H locs 0 0 (MQ below (QM G (some (.int (i32 res))) τ) args s 0 0 (AA G)) (F0 m 4 ls [])
def X9_takeMarks_B53 (rec4 : Mem → Int → Int → Option (Int × Mem)) (σ : Mem) (l1 : Int) (l2 : Int) : Option (Int × Mem) :=
  lt (st σ 41 1 ((σ 41 1) + 1)) fun s1 =>
  lt (l2 + 1) fun l2_2 =>
  rec4 s1 l1 l2_2
def S_X9_takeMarks_53 (fn : Mem → Int → Int → Option (Int × Mem)) (p : Program) (l : Launch) (e : Env) (R : Room) (s : State) (m : MethodId) (args : Array Value) (below : List Frame) (meth : Method) (c : Code) (G : GT) (τ : Mem) (res : Int) : Prop := ∀ (σ : Mem) (H : Heap) (locs : List Loc) (ls : Array Slot) (l1 : Int) (l2 : Int), PW G σ H → va_S (AA G) s.heap H locs → fn σ l1 l2 = some (res, τ) → lv_has ls 3 [(0, .ref (gh G + 41)), (1, .int (i32 l1)), (2, .int (i32 l2))] → W p l e R s m args below meth c H locs 0 0 (MQ below (QM G (some (.int (i32 res))) τ) args s 0 0 (AA G)) (F0 m 53 ls [])
def X9_takeMarks_B4 (rec4 : Mem → Int → Int → Option (Int × Mem)) (σ : Mem) (l1 : Int) (l2 : Int) : Option (Int × Mem) :=
  if w32 120 ≤ w32 l2 then
    some (l1, σ)
  else
  bd (X9_isWord σ 4) fun r1 =>
  if w32 r1 = 0 then
    bd (X9_isWord σ 5) fun r2 =>
    if w32 r2 = 0 then
      bd (X9_isWord σ 6) fun r3 =>
      if w32 r3 = 0 then
        some (l1, σ)
      else
      lt (iro l1 4) fun l1_4 =>
      X9_takeMarks_B53 rec4 σ l1_4 l2
    else
    lt (iro l1 2) fun l1_5 =>
    X9_takeMarks_B53 rec4 σ l1_5 l2
  else
  lt (iro l1 1) fun l1_6 =>
  X9_takeMarks_B53 rec4 σ l1_6 l2
def X9_takeMarks_L4 : Nat → Mem → Int → Int → Option (Int × Mem)
  | 0 => fun _ _ _ => none
  | n + 1 => X9_takeMarks_B4 (X9_takeMarks_L4 n)
def X9_takeMarks (σ : Mem) : Option (Int × Mem) :=
  X9_takeMarks_L4 5000 σ 0 0
def S_X9_takeMarks_0 (fn : Mem → Option (Int × Mem)) (p : Program) (l : Launch) (e : Env) (R : Room) (s : State) (m : MethodId) (args : Array Value) (below : List Frame) (meth : Method) (c : Code) (G : GT) (τ : Mem) (res : Int) : Prop := ∀ (σ : Mem) (H : Heap) (locs : List Loc) (ls : Array Slot), PW G σ H → va_S (AA G) s.heap H locs → fn σ = some (res, τ) → lv_has ls 3 [(0, .ref (gh G + 41))] → W p l e R s m args below meth c H locs 0 0 (MQ below (QM G (some (.int (i32 res))) τ) args s 0 0 (AA G)) (F0 m 0 ls [])
set_option maxHeartbeats 4000000 in
theorem a_X9_takeMarks_53 {p : Program} {l : Launch} {e : Env} {R : Room} {s : State} {m : MethodId} {args : Array Value} {below : List Frame} {meth : Method} {c : Code} {G : GT} {τ : Mem} {res : Int} {rec4 : Mem → Int → Int → Option (Int × Mem)} (X : CX p R s m args meth c cX9_takeMarks 3 RX9 (some FieldType.int) 4 123 G) (h4 : S_X9_takeMarks_4 rec4 p l e R s m args below meth c G τ res) : S_X9_takeMarks_53 (X9_takeMarks_B53 rec4) p l e R s m args below meth c G τ res := by
  intro σ H locs ls l1 l2 hP hS hf hl
  unfold X9_takeMarks_B53 at hf
  refine lv_aload_n X.1 X.2.1 dX9_takeMarks_53 rfl (lv_at hl 0 rfl) ?_
  refine lv_dup X.1 X.2.1 dX9_takeMarks_54 rfl ?_
  refine g_9_1 X hP ks_9 (tb t_217 rfl) dX9_takeMarks_55 ?_
  refine r_iconst X 1 dX9_takeMarks_58 ?_
  refine r_iadd X dX9_takeMarks_59 ?_
  refine p_9_1 X hP hS ks_9 (tb t_217 rfl) dX9_takeMarks_60 (fun H locs hP hS => ?_)
  obtain ⟨s1, es1, hf⟩ := lt_inv hf
  rw [es1] at hP
  obtain ⟨l2_2, el2_2, hf⟩ := lt_inv hf
  refine lv_iinc (v := i32 l2_2) (lv' := [(2, .int (i32 l2_2)), (0, .ref (gh G + 41)), (1, .int (i32 l1))]) X.1 X.2.1 dX9_takeMarks_63 hl (k := 2) rfl (by rw [← el2_2]; exact i32_add _ _) (by decide) rfl (fun ls hl => ?_)
  refine lv_goto (tgt := 4) X.1 X.2.1 dX9_takeMarks_66 (by decide) ?_
  exact h4 s1 H locs ls l1 l2_2 hP hS hf (lv_sub hl [1, 2, 0] rfl)
set_option maxHeartbeats 4000000 in
theorem a_X9_takeMarks_4 {p : Program} {l : Launch} {e : Env} {R : Room} {s : State} {m : MethodId} {args : Array Value} {below : List Frame} {meth : Method} {c : Code} {G : GT} {τ : Mem} {res : Int} {rec4 : Mem → Int → Int → Option (Int × Mem)} (X : CX p R s m args meth c cX9_takeMarks 3 RX9 (some FieldType.int) 4 123 G) (h4 : S_X9_takeMarks_4 rec4 p l e R s m args below meth c G τ res) : S_X9_takeMarks_4 (X9_takeMarks_B4 rec4) p l e R s m args below meth c G τ res := by
  intro σ H locs ls l1 l2 hP hS hf hl
  unfold X9_takeMarks_B4 at hf
  refine lv_iload_n X.1 X.2.1 dX9_takeMarks_4 rfl (lv_at hl 2 rfl) ?_
  refine r_bipush X 120 (by decide) dX9_takeMarks_5 ?_
  refine r_icmp_ge (tgt := 69) X dX9_takeMarks_7 (by decide) (fun q => ?_) (fun q => ?_)
  · replace hf := it_inv q hf
    refine lv_iload_n X.1 X.2.1 dX9_takeMarks_69 rfl (lv_at hl 1 rfl) ?_
    obtain ⟨rfl, rfl⟩ := so2_inv hf
    exact r_iret X hP hS dX9_takeMarks_70
  · replace hf := ie_inv q hf
    refine lv_aload_n X.1 X.2.1 dX9_takeMarks_10 rfl (lv_at hl 0 rfl) ?_
    refine r_iconst X 4 dX9_takeMarks_11 ?_
    obtain ⟨r1, hr1, hf⟩ := bd_inv hf
    refine k_X9_isWord X hP hS hl.1  hr1 (tb t_596 rfl) (by decide) (Nat.le_of_ble_eq_true rfl) dX9_takeMarks_12 (fun H locs hP hS => ?_)
    refine r_if_eq (tgt := 25) X dX9_takeMarks_15 (by decide) (fun q => ?_) (fun q => ?_)
    · replace hf := it_inv q hf
      refine lv_aload_n X.1 X.2.1 dX9_takeMarks_25 rfl (lv_at hl 0 rfl) ?_
      refine r_iconst X 5 dX9_takeMarks_26 ?_
      obtain ⟨r2, hr2, hf⟩ := bd_inv hf
      refine k_X9_isWord X hP hS hl.1  hr2 (tb t_596 rfl) (by decide) (Nat.le_of_ble_eq_true rfl) dX9_takeMarks_27 (fun H locs hP hS => ?_)
      refine r_if_eq (tgt := 40) X dX9_takeMarks_30 (by decide) (fun q => ?_) (fun q => ?_)
      · replace hf := it_inv q hf
        refine lv_aload_n X.1 X.2.1 dX9_takeMarks_40 rfl (lv_at hl 0 rfl) ?_
        refine r_bipush X 6 (by decide) dX9_takeMarks_41 ?_
        obtain ⟨r3, hr3, hf⟩ := bd_inv hf
        refine k_X9_isWord X hP hS hl.1  hr3 (tb t_596 rfl) (by decide) (Nat.le_of_ble_eq_true rfl) dX9_takeMarks_43 (fun H locs hP hS => ?_)
        refine r_if_eq (tgt := 69) X dX9_takeMarks_46 (by decide) (fun q => ?_) (fun q => ?_)
        · replace hf := it_inv q hf
          refine lv_iload_n X.1 X.2.1 dX9_takeMarks_69 rfl (lv_at hl 1 rfl) ?_
          obtain ⟨rfl, rfl⟩ := so2_inv hf
          exact r_iret X hP hS dX9_takeMarks_70
        · replace hf := ie_inv q hf
          refine lv_iload_n X.1 X.2.1 dX9_takeMarks_49 rfl (lv_at hl 1 rfl) ?_
          refine r_iconst X 4 dX9_takeMarks_50 ?_
          refine r_ior X dX9_takeMarks_51 ?_
          obtain ⟨l1_4, el1_4, hf⟩ := lt_inv hf
          refine r_eqi el1_4 ?_
          refine lv_istore_n (lv' := [(1, .int (i32 l1_4)), (0, .ref (gh G + 41)), (2, .int (i32 l2))]) X.1 X.2.1 dX9_takeMarks_52 rfl hl (by decide) rfl (fun ls hl => ?_)
          exact a_X9_takeMarks_53 X h4 σ H locs ls l1_4 l2 hP hS hf (lv_sub hl [1, 0, 2] rfl)
      · replace hf := ie_inv q hf
        refine lv_iload_n X.1 X.2.1 dX9_takeMarks_33 rfl (lv_at hl 1 rfl) ?_
        refine r_iconst X 2 dX9_takeMarks_34 ?_
        refine r_ior X dX9_takeMarks_35 ?_
        obtain ⟨l1_5, el1_5, hf⟩ := lt_inv hf
        refine r_eqi el1_5 ?_
        refine lv_istore_n (lv' := [(1, .int (i32 l1_5)), (0, .ref (gh G + 41)), (2, .int (i32 l2))]) X.1 X.2.1 dX9_takeMarks_36 rfl hl (by decide) rfl (fun ls hl => ?_)
        refine lv_goto (tgt := 53) X.1 X.2.1 dX9_takeMarks_37 (by decide) ?_
        exact a_X9_takeMarks_53 X h4 σ H locs ls l1_5 l2 hP hS hf (lv_sub hl [1, 0, 2] rfl)
    · replace hf := ie_inv q hf
      refine lv_iload_n X.1 X.2.1 dX9_takeMarks_18 rfl (lv_at hl 1 rfl) ?_
      refine r_iconst X 1 dX9_takeMarks_19 ?_
      refine r_ior X dX9_takeMarks_20 ?_
      obtain ⟨l1_6, el1_6, hf⟩ := lt_inv hf
      refine r_eqi el1_6 ?_
      refine lv_istore_n (lv' := [(1, .int (i32 l1_6)), (0, .ref (gh G + 41)), (2, .int (i32 l2))]) X.1 X.2.1 dX9_takeMarks_21 rfl hl (by decide) rfl (fun ls hl => ?_)
      refine lv_goto (tgt := 53) X.1 X.2.1 dX9_takeMarks_22 (by decide) ?_
      exact a_X9_takeMarks_53 X h4 σ H locs ls l1_6 l2 hP hS hf (lv_sub hl [1, 0, 2] rfl)
theorem al_X9_takeMarks_4 {p : Program} {l : Launch} {e : Env} {R : Room} {s : State} {m : MethodId} {args : Array Value} {below : List Frame} {meth : Method} {c : Code} {G : GT} {τ : Mem} {res : Int} (X : CX p R s m args meth c cX9_takeMarks 3 RX9 (some FieldType.int) 4 123 G) : ∀ n, S_X9_takeMarks_4 (X9_takeMarks_L4 n) p l e R s m args below meth c G τ res := by
  intro n
  induction n with
  | zero =>
    intro σ H locs ls l1 l2 hP hS hf hl
    cases hf
  | succ n ih => exact a_X9_takeMarks_4 X ih
set_option maxHeartbeats 4000000 in
theorem a_X9_takeMarks_0 {p : Program} {l : Launch} {e : Env} {R : Room} {s : State} {m : MethodId} {args : Array Value} {below : List Frame} {meth : Method} {c : Code} {G : GT} {τ : Mem} {res : Int} (X : CX p R s m args meth c cX9_takeMarks 3 RX9 (some FieldType.int) 4 123 G) : S_X9_takeMarks_0 (X9_takeMarks) p l e R s m args below meth c G τ res := by
  intro σ H locs ls hP hS hf hl
  unfold X9_takeMarks at hf
  refine r_iconst X 0 dX9_takeMarks_0 ?_
  refine lv_istore_n (lv' := [(1, .int (i32 0)), (0, .ref (gh G + 41))]) X.1 X.2.1 dX9_takeMarks_1 rfl hl (by decide) rfl (fun ls hl => ?_)
  refine r_iconst X 0 dX9_takeMarks_2 ?_
  refine lv_istore_n (lv' := [(2, .int (i32 0)), (1, .int (i32 0)), (0, .ref (gh G + 41))]) X.1 X.2.1 dX9_takeMarks_3 rfl hl (by decide) rfl (fun ls hl => ?_)
  exact al_X9_takeMarks_4 X 5000 σ H locs ls 0 0 hP hS hf (lv_sub hl [2, 1, 0] rfl)
set_option maxHeartbeats 4000000 in
theorem c_X9_takeMarks {l : Launch} {G : GT} {σ τ : Mem} {res : Int} (hf : X9_takeMarks σ = some (res, τ)) : CT l yX9_takeMarks cX9_takeMarks 3 (some FieldType.int) 4 123 G [.ref (gh G + 41)] σ τ (some (.int (i32 res))) := by
  refine CT.mk (own := RX9) (by decide) rfl (Nat.le_of_ble_eq_true rfl) ?_
  intro p e s m below meth c ls X hP hS hl
  have hl : lv_has ls 3 [(0, .ref (gh G + 41))] := hl
  exact a_X9_takeMarks_0 X σ s.heap [] ls hP hS hf hl
theorem k_X9_takeMarks {p : Program} {l : Launch} {e : Env} {R : Room} {s : State} {m : MethodId} {args : Array Value} {below : List Frame} {meth : Method} {c : Code} {H : Heap} {locs : List Loc} {Q : State → Prop} {cc : ByteArray} {nL : Nat} {own : String} {ret : Option FieldType} {fF fL : Nat} {G : GT} {pc idx : Nat} {ls : Array Slot} {rest : List Value} {σ τ : Mem} {res : Int} (X : CX p R s m args meth c cc nL own ret fF fL G) (hP : PW G σ H) (hS : va_S (AA G) s.heap H locs) (hls : ls.size = nL) (hf : X9_takeMarks σ = some (res, τ)) (h1 : Cond.methodLink own idx yX9_takeMarks ∈ TB) (hR : 4 + 1 ≤ fF ∧ 8 + (3 + 11) + 123 ≤ fL) (hW : (rest.map fun v => v.category).sum ≤ 8) (hd : decode cc pc = .ok (.invokevirtual idx, 3)) (kk : ∀ (H1 : Heap) (locs1 : List Loc), PW G τ H1 → va_S (AA G) s.heap H1 locs1 → W p l e R s m args below meth c H1 locs1 0 0 Q (F0 m (pc + 3) ls (.int (i32 res) :: rest))) : W p l e R s m args below meth c H locs 0 0 Q (F0 m pc ls (.ref (gh G + 41) :: rest)) := r_callV (n := 0) X hP hS hls (c_X9_takeMarks hf) h1 (tb t_602 rfl) (tb t_16 rfl) (tb t_80 rfl) (tb t_603 rfl) (by decide +kernel) hR (r_recv X hP (kd_lt ks_9 (by decide)) (cE_9 ks_9) rfl) rfl rfl hW hd kk
/-! X9_addBar -/
theorem dX9_addBar_0 : decode cX9_addBar 0 = .ok (.aload_n 0, 1) := by decide +kernel
theorem dX9_addBar_1 : decode cX9_addBar 1 = .ok (.getfield 35, 3) := by decide +kernel
theorem dX9_addBar_4 : decode cX9_addBar 4 = .ok (.bipush 40, 2) := by decide +kernel
theorem dX9_addBar_6 : decode cX9_addBar 6 = .ok (.if_icmp .lt 9, 3) := by decide +kernel
theorem dX9_addBar_9 : decode cX9_addBar 9 = .ok (.aload_n 0, 1) := by decide +kernel
theorem dX9_addBar_10 : decode cX9_addBar 10 = .ok (.iconst 1, 1) := by decide +kernel
theorem dX9_addBar_11 : decode cX9_addBar 11 = .ok (.putfield 38, 3) := by decide +kernel
theorem dX9_addBar_14 : decode cX9_addBar 14 = .ok (.return_, 1) := by decide +kernel
theorem dX9_addBar_15 : decode cX9_addBar 15 = .ok (.aload_n 0, 1) := by decide +kernel
theorem dX9_addBar_16 : decode cX9_addBar 16 = .ok (.getfield 35, 3) := by decide +kernel
theorem dX9_addBar_19 : decode cX9_addBar 19 = .ok (.iconst 4, 1) := by decide +kernel
theorem dX9_addBar_20 : decode cX9_addBar 20 = .ok (.imul, 1) := by decide +kernel
theorem dX9_addBar_21 : decode cX9_addBar 21 = .ok (.istore 5, 2) := by decide +kernel
theorem dX9_addBar_23 : decode cX9_addBar 23 = .ok (.aload_n 0, 1) := by decide +kernel
theorem dX9_addBar_24 : decode cX9_addBar 24 = .ok (.getfield 18, 3) := by decide +kernel
theorem dX9_addBar_27 : decode cX9_addBar 27 = .ok (.iload 5, 2) := by decide +kernel
theorem dX9_addBar_29 : decode cX9_addBar 29 = .ok (.iconst 0, 1) := by decide +kernel
theorem dX9_addBar_30 : decode cX9_addBar 30 = .ok (.iadd, 1) := by decide +kernel
theorem dX9_addBar_31 : decode cX9_addBar 31 = .ok (.iload_n 1, 1) := by decide +kernel
theorem dX9_addBar_32 : decode cX9_addBar 32 = .ok (.iastore, 1) := by decide +kernel
theorem dX9_addBar_33 : decode cX9_addBar 33 = .ok (.aload_n 0, 1) := by decide +kernel
theorem dX9_addBar_34 : decode cX9_addBar 34 = .ok (.getfield 18, 3) := by decide +kernel
theorem dX9_addBar_37 : decode cX9_addBar 37 = .ok (.iload 5, 2) := by decide +kernel
theorem dX9_addBar_39 : decode cX9_addBar 39 = .ok (.iconst 1, 1) := by decide +kernel
theorem dX9_addBar_40 : decode cX9_addBar 40 = .ok (.iadd, 1) := by decide +kernel
theorem dX9_addBar_41 : decode cX9_addBar 41 = .ok (.iload_n 2, 1) := by decide +kernel
theorem dX9_addBar_42 : decode cX9_addBar 42 = .ok (.iastore, 1) := by decide +kernel
theorem dX9_addBar_43 : decode cX9_addBar 43 = .ok (.aload_n 0, 1) := by decide +kernel
theorem dX9_addBar_44 : decode cX9_addBar 44 = .ok (.getfield 18, 3) := by decide +kernel
theorem dX9_addBar_47 : decode cX9_addBar 47 = .ok (.iload 5, 2) := by decide +kernel
theorem dX9_addBar_49 : decode cX9_addBar 49 = .ok (.iconst 2, 1) := by decide +kernel
theorem dX9_addBar_50 : decode cX9_addBar 50 = .ok (.iadd, 1) := by decide +kernel
theorem dX9_addBar_51 : decode cX9_addBar 51 = .ok (.iload_n 3, 1) := by decide +kernel
theorem dX9_addBar_52 : decode cX9_addBar 52 = .ok (.iastore, 1) := by decide +kernel
theorem dX9_addBar_53 : decode cX9_addBar 53 = .ok (.aload_n 0, 1) := by decide +kernel
theorem dX9_addBar_54 : decode cX9_addBar 54 = .ok (.getfield 18, 3) := by decide +kernel
theorem dX9_addBar_57 : decode cX9_addBar 57 = .ok (.iload 5, 2) := by decide +kernel
theorem dX9_addBar_59 : decode cX9_addBar 59 = .ok (.iconst 3, 1) := by decide +kernel
theorem dX9_addBar_60 : decode cX9_addBar 60 = .ok (.iadd, 1) := by decide +kernel
theorem dX9_addBar_61 : decode cX9_addBar 61 = .ok (.iload 4, 2) := by decide +kernel
theorem dX9_addBar_63 : decode cX9_addBar 63 = .ok (.iastore, 1) := by decide +kernel
theorem dX9_addBar_64 : decode cX9_addBar 64 = .ok (.aload_n 0, 1) := by decide +kernel
theorem dX9_addBar_65 : decode cX9_addBar 65 = .ok (.dup, 1) := by decide +kernel
theorem dX9_addBar_66 : decode cX9_addBar 66 = .ok (.getfield 35, 3) := by decide +kernel
theorem dX9_addBar_69 : decode cX9_addBar 69 = .ok (.iconst 1, 1) := by decide +kernel
theorem dX9_addBar_70 : decode cX9_addBar 70 = .ok (.iadd, 1) := by decide +kernel
theorem dX9_addBar_71 : decode cX9_addBar 71 = .ok (.putfield 35, 3) := by decide +kernel
theorem dX9_addBar_74 : decode cX9_addBar 74 = .ok (.return_, 1) := by decide +kernel
def X9_addBar (σ : Mem) (l1 : Int) (l2 : Int) (l3 : Int) (l4 : Int) : Option (Mem) :=
  if w32 (σ 41 3) < w32 40 then
    lt ((σ 41 3) * 4) fun l5_1 =>
    ag 160 (l5_1 + 0) fun j2 =>
    lt (st σ 47 j2 l1) fun s3 =>
    ag 160 (l5_1 + 1) fun j4 =>
    lt (st s3 47 j4 l2) fun s5 =>
    ag 160 (l5_1 + 2) fun j6 =>
    lt (st s5 47 j6 l3) fun s7 =>
    ag 160 (l5_1 + 3) fun j8 =>
    lt (st s7 47 j8 l4) fun s9 =>
    lt (st s9 41 3 ((s9 41 3) + 1)) fun s10 =>
    some s10
  else
  lt (st σ 41 4 1) fun s11 =>
  some s11
def S_X9_addBar_0 (fn : Mem → Int → Int → Int → Int → Option (Mem)) (p : Program) (l : Launch) (e : Env) (R : Room) (s : State) (m : MethodId) (args : Array Value) (below : List Frame) (meth : Method) (c : Code) (G : GT) (τ : Mem) : Prop := ∀ (σ : Mem) (H : Heap) (locs : List Loc) (ls : Array Slot) (l1 : Int) (l2 : Int) (l3 : Int) (l4 : Int), PW G σ H → va_S (AA G) s.heap H locs → fn σ l1 l2 l3 l4 = some τ → lv_has ls 6 [(0, .ref (gh G + 41)), (1, .int (i32 l1)), (2, .int (i32 l2)), (3, .int (i32 l3)), (4, .int (i32 l4))] → W p l e R s m args below meth c H locs 0 0 (MQ below (QM G none τ) args s 0 0 (AA G)) (F0 m 0 ls [])
set_option maxHeartbeats 4000000 in
theorem a_X9_addBar_0 {p : Program} {l : Launch} {e : Env} {R : Room} {s : State} {m : MethodId} {args : Array Value} {below : List Frame} {meth : Method} {c : Code} {G : GT} {τ : Mem} (X : CX p R s m args meth c cX9_addBar 6 RX9 none 1 60 G) : S_X9_addBar_0 (X9_addBar) p l e R s m args below meth c G τ := by
  intro σ H locs ls l1 l2 l3 l4 hP hS hf hl
  unfold X9_addBar at hf
  refine lv_aload_n X.1 X.2.1 dX9_addBar_0 rfl (lv_at hl 0 rfl) ?_
  refine g_9_3 X hP ks_9 (tb t_220 rfl) dX9_addBar_1 ?_
  refine r_bipush X 40 (by decide) dX9_addBar_4 ?_
  refine r_icmp_lt (tgt := 15) X dX9_addBar_6 (by decide) (fun q => ?_) (fun q => ?_)
  · replace hf := it_inv q hf
    refine lv_aload_n X.1 X.2.1 dX9_addBar_15 rfl (lv_at hl 0 rfl) ?_
    refine g_9_3 X hP ks_9 (tb t_220 rfl) dX9_addBar_16 ?_
    refine r_iconst X 4 dX9_addBar_19 ?_
    refine r_imul X dX9_addBar_20 ?_
    obtain ⟨l5_1, el5_1, hf⟩ := lt_inv hf
    refine r_eqi el5_1 ?_
    refine lv_istore (lv' := [(5, .int (i32 l5_1)), (0, .ref (gh G + 41)), (1, .int (i32 l1)), (2, .int (i32 l2)), (3, .int (i32 l3)), (4, .int (i32 l4))]) X.1 X.2.1 dX9_addBar_21 hl (by decide) rfl (fun ls hl => ?_)
    refine lv_aload_n X.1 X.2.1 dX9_addBar_23 rfl (lv_at hl 1 rfl) ?_
    refine g_9_2 (r := 47) X hP ks_9 rfl (tb t_218 rfl) dX9_addBar_24 ?_
    refine lv_iload X.1 X.2.1 dX9_addBar_27 (lv_at hl 0 rfl) ?_
    refine r_iconst X 0 dX9_addBar_29 ?_
    refine r_iadd X dX9_addBar_30 ?_
    refine lv_iload_n X.1 X.2.1 dX9_addBar_31 rfl (lv_at hl 2 rfl) ?_
    obtain ⟨j2, hij2, hjj2, hlj2, hf⟩ := ag_inv hf
    refine r_iast X hP hS (ch_9_2 ks_9).1 (ch_9_2 ks_9).2 hij2 hjj2 dX9_addBar_32 (fun H locs hP hS => ?_)
    obtain ⟨s3, es3, hf⟩ := lt_inv hf
    rw [es3] at hP
    refine lv_aload_n X.1 X.2.1 dX9_addBar_33 rfl (lv_at hl 1 rfl) ?_
    refine g_9_2 (r := 47) X hP ks_9 rfl (tb t_218 rfl) dX9_addBar_34 ?_
    refine lv_iload X.1 X.2.1 dX9_addBar_37 (lv_at hl 0 rfl) ?_
    refine r_iconst X 1 dX9_addBar_39 ?_
    refine r_iadd X dX9_addBar_40 ?_
    refine lv_iload_n X.1 X.2.1 dX9_addBar_41 rfl (lv_at hl 3 rfl) ?_
    obtain ⟨j4, hij4, hjj4, hlj4, hf⟩ := ag_inv hf
    refine r_iast X hP hS (ch_9_2 ks_9).1 (ch_9_2 ks_9).2 hij4 hjj4 dX9_addBar_42 (fun H locs hP hS => ?_)
    obtain ⟨s5, es5, hf⟩ := lt_inv hf
    rw [es5] at hP
    refine lv_aload_n X.1 X.2.1 dX9_addBar_43 rfl (lv_at hl 1 rfl) ?_
    refine g_9_2 (r := 47) X hP ks_9 rfl (tb t_218 rfl) dX9_addBar_44 ?_
    refine lv_iload X.1 X.2.1 dX9_addBar_47 (lv_at hl 0 rfl) ?_
    refine r_iconst X 2 dX9_addBar_49 ?_
    refine r_iadd X dX9_addBar_50 ?_
    refine lv_iload_n X.1 X.2.1 dX9_addBar_51 rfl (lv_at hl 4 rfl) ?_
    obtain ⟨j6, hij6, hjj6, hlj6, hf⟩ := ag_inv hf
    refine r_iast X hP hS (ch_9_2 ks_9).1 (ch_9_2 ks_9).2 hij6 hjj6 dX9_addBar_52 (fun H locs hP hS => ?_)
    obtain ⟨s7, es7, hf⟩ := lt_inv hf
    rw [es7] at hP
    refine lv_aload_n X.1 X.2.1 dX9_addBar_53 rfl (lv_at hl 1 rfl) ?_
    refine g_9_2 (r := 47) X hP ks_9 rfl (tb t_218 rfl) dX9_addBar_54 ?_
    refine lv_iload X.1 X.2.1 dX9_addBar_57 (lv_at hl 0 rfl) ?_
    refine r_iconst X 3 dX9_addBar_59 ?_
    refine r_iadd X dX9_addBar_60 ?_
    refine lv_iload X.1 X.2.1 dX9_addBar_61 (lv_at hl 5 rfl) ?_
    obtain ⟨j8, hij8, hjj8, hlj8, hf⟩ := ag_inv hf
    refine r_iast X hP hS (ch_9_2 ks_9).1 (ch_9_2 ks_9).2 hij8 hjj8 dX9_addBar_63 (fun H locs hP hS => ?_)
    obtain ⟨s9, es9, hf⟩ := lt_inv hf
    rw [es9] at hP
    refine lv_aload_n X.1 X.2.1 dX9_addBar_64 rfl (lv_at hl 1 rfl) ?_
    refine lv_dup X.1 X.2.1 dX9_addBar_65 rfl ?_
    refine g_9_3 X hP ks_9 (tb t_220 rfl) dX9_addBar_66 ?_
    refine r_iconst X 1 dX9_addBar_69 ?_
    refine r_iadd X dX9_addBar_70 ?_
    refine p_9_3 X hP hS ks_9 (tb t_220 rfl) dX9_addBar_71 (fun H locs hP hS => ?_)
    obtain ⟨s10, es10, hf⟩ := lt_inv hf
    rw [es10] at hP
    cases so_inv hf
    exact r_vret X hP hS dX9_addBar_74
  · replace hf := ie_inv q hf
    refine lv_aload_n X.1 X.2.1 dX9_addBar_9 rfl (lv_at hl 0 rfl) ?_
    refine r_iconst X 1 dX9_addBar_10 ?_
    refine p_9_4 X hP hS (Or.inr rfl) ks_9 (tb t_222 rfl) dX9_addBar_11 (fun H locs hP hS => ?_)
    obtain ⟨s11, es11, hf⟩ := lt_inv hf
    rw [es11] at hP
    cases so_inv hf
    exact r_vret X hP hS dX9_addBar_14
set_option maxHeartbeats 4000000 in
theorem c_X9_addBar {l : Launch} {G : GT} {σ τ : Mem} {l1 : Int} {l2 : Int} {l3 : Int} {l4 : Int} (hf : X9_addBar σ l1 l2 l3 l4 = some τ) : CT l yX9_addBar cX9_addBar 6 none 1 60 G [.ref (gh G + 41), .int (i32 l1), .int (i32 l2), .int (i32 l3), .int (i32 l4)] σ τ none := by
  refine CT.mk (own := RX9) (by decide) rfl (Nat.le_of_ble_eq_true rfl) ?_
  intro p e s m below meth c ls X hP hS hl
  have hl : lv_has ls 6 [(0, .ref (gh G + 41)), (1, .int (i32 l1)), (2, .int (i32 l2)), (3, .int (i32 l3)), (4, .int (i32 l4))] := hl
  exact a_X9_addBar_0 X σ s.heap [] ls l1 l2 l3 l4 hP hS hf hl
theorem k_X9_addBar {p : Program} {l : Launch} {e : Env} {R : Room} {s : State} {m : MethodId} {args : Array Value} {below : List Frame} {meth : Method} {c : Code} {H : Heap} {locs : List Loc} {Q : State → Prop} {cc : ByteArray} {nL : Nat} {own : String} {ret : Option FieldType} {fF fL : Nat} {G : GT} {pc idx : Nat} {ls : Array Slot} {rest : List Value} {σ τ : Mem} {l1 : Int} {l2 : Int} {l3 : Int} {l4 : Int} (X : CX p R s m args meth c cc nL own ret fF fL G) (hP : PW G σ H) (hS : va_S (AA G) s.heap H locs) (hls : ls.size = nL) (hf : X9_addBar σ l1 l2 l3 l4 = some τ) (h1 : Cond.methodLink own idx yX9_addBar ∈ TB) (hR : 1 + 1 ≤ fF ∧ 8 + (6 + 11) + 60 ≤ fL) (hW : (rest.map fun v => v.category).sum ≤ 8) (hd : decode cc pc = .ok (.invokevirtual idx, 3)) (kk : ∀ (H1 : Heap) (locs1 : List Loc), PW G τ H1 → va_S (AA G) s.heap H1 locs1 → W p l e R s m args below meth c H1 locs1 0 0 Q (F0 m (pc + 3) ls (rest))) : W p l e R s m args below meth c H locs 0 0 Q (F0 m pc ls (.int (i32 l4) :: .int (i32 l3) :: .int (i32 l2) :: .int (i32 l1) :: .ref (gh G + 41) :: rest)) := r_callV (n := 4) X hP hS hls (c_X9_addBar hf) h1 (tb t_606 rfl) (tb t_17 rfl) (tb t_80 rfl) (tb t_607 rfl) (by decide +kernel) hR (r_recv X hP (kd_lt ks_9 (by decide)) (cE_9 ks_9) rfl) rfl rfl hW hd kk
/-! X9_takeBar -/
theorem dX9_takeBar_0 : decode cX9_takeBar 0 = .ok (.aload_n 0, 1) := by decide +kernel
theorem dX9_takeBar_1 : decode cX9_takeBar 1 = .ok (.getfield 12, 3) := by decide +kernel
theorem dX9_takeBar_4 : decode cX9_takeBar 4 = .ok (.aload_n 0, 1) := by decide +kernel
theorem dX9_takeBar_5 : decode cX9_takeBar 5 = .ok (.getfield 31, 3) := by decide +kernel
theorem dX9_takeBar_8 : decode cX9_takeBar 8 = .ok (.invokevirtual 66, 3) := by decide +kernel
theorem dX9_takeBar_11 : decode cX9_takeBar 11 = .ok (.istore_n 1, 1) := by decide +kernel
theorem dX9_takeBar_12 : decode cX9_takeBar 12 = .ok (.iload_n 1, 1) := by decide +kernel
theorem dX9_takeBar_13 : decode cX9_takeBar 13 = .ok (.iconst 2, 1) := by decide +kernel
theorem dX9_takeBar_14 : decode cX9_takeBar 14 = .ok (.if_icmp .le 5, 3) := by decide +kernel
theorem dX9_takeBar_17 : decode cX9_takeBar 17 = .ok (.iconst 0, 1) := by decide +kernel
theorem dX9_takeBar_18 : decode cX9_takeBar 18 = .ok (.ireturn, 1) := by decide +kernel
theorem dX9_takeBar_19 : decode cX9_takeBar 19 = .ok (.aload_n 0, 1) := by decide +kernel
theorem dX9_takeBar_20 : decode cX9_takeBar 20 = .ok (.dup, 1) := by decide +kernel
theorem dX9_takeBar_21 : decode cX9_takeBar 21 = .ok (.getfield 31, 3) := by decide +kernel
theorem dX9_takeBar_24 : decode cX9_takeBar 24 = .ok (.iconst 1, 1) := by decide +kernel
theorem dX9_takeBar_25 : decode cX9_takeBar 25 = .ok (.iadd, 1) := by decide +kernel
theorem dX9_takeBar_26 : decode cX9_takeBar 26 = .ok (.putfield 31, 3) := by decide +kernel
theorem dX9_takeBar_29 : decode cX9_takeBar 29 = .ok (.aload_n 0, 1) := by decide +kernel
theorem dX9_takeBar_30 : decode cX9_takeBar 30 = .ok (.iconst 1, 1) := by decide +kernel
theorem dX9_takeBar_31 : decode cX9_takeBar 31 = .ok (.bipush 60, 2) := by decide +kernel
theorem dX9_takeBar_33 : decode cX9_takeBar 33 = .ok (.invokevirtual 62, 3) := by decide +kernel
theorem dX9_takeBar_36 : decode cX9_takeBar 36 = .ok (.ifCond .ne 5, 3) := by decide +kernel
theorem dX9_takeBar_39 : decode cX9_takeBar 39 = .ok (.iconst 0, 1) := by decide +kernel
theorem dX9_takeBar_40 : decode cX9_takeBar 40 = .ok (.ireturn, 1) := by decide +kernel
theorem dX9_takeBar_41 : decode cX9_takeBar 41 = .ok (.aload_n 0, 1) := by decide +kernel
theorem dX9_takeBar_42 : decode cX9_takeBar 42 = .ok (.getfield 12, 3) := by decide +kernel
theorem dX9_takeBar_45 : decode cX9_takeBar 45 = .ok (.aload_n 0, 1) := by decide +kernel
theorem dX9_takeBar_46 : decode cX9_takeBar 46 = .ok (.getfield 31, 3) := by decide +kernel
theorem dX9_takeBar_49 : decode cX9_takeBar 49 = .ok (.invokevirtual 66, 3) := by decide +kernel
theorem dX9_takeBar_52 : decode cX9_takeBar 52 = .ok (.istore_n 2, 1) := by decide +kernel
theorem dX9_takeBar_53 : decode cX9_takeBar 53 = .ok (.iconst 4, 1) := by decide +kernel
theorem dX9_takeBar_54 : decode cX9_takeBar 54 = .ok (.istore_n 3, 1) := by decide +kernel
theorem dX9_takeBar_55 : decode cX9_takeBar 55 = .ok (.aload_n 0, 1) := by decide +kernel
theorem dX9_takeBar_56 : decode cX9_takeBar 56 = .ok (.dup, 1) := by decide +kernel
theorem dX9_takeBar_57 : decode cX9_takeBar 57 = .ok (.getfield 31, 3) := by decide +kernel
theorem dX9_takeBar_60 : decode cX9_takeBar 60 = .ok (.iconst 1, 1) := by decide +kernel
theorem dX9_takeBar_61 : decode cX9_takeBar 61 = .ok (.iadd, 1) := by decide +kernel
theorem dX9_takeBar_62 : decode cX9_takeBar 62 = .ok (.putfield 31, 3) := by decide +kernel
theorem dX9_takeBar_65 : decode cX9_takeBar 65 = .ok (.aload_n 0, 1) := by decide +kernel
theorem dX9_takeBar_66 : decode cX9_takeBar 66 = .ok (.iconst 3, 1) := by decide +kernel
theorem dX9_takeBar_67 : decode cX9_takeBar 67 = .ok (.invokevirtual 79, 3) := by decide +kernel
theorem dX9_takeBar_70 : decode cX9_takeBar 70 = .ok (.ifCond .eq 47, 3) := by decide +kernel
theorem dX9_takeBar_73 : decode cX9_takeBar 73 = .ok (.aload_n 0, 1) := by decide +kernel
theorem dX9_takeBar_74 : decode cX9_takeBar 74 = .ok (.dup, 1) := by decide +kernel
theorem dX9_takeBar_75 : decode cX9_takeBar 75 = .ok (.getfield 31, 3) := by decide +kernel
theorem dX9_takeBar_78 : decode cX9_takeBar 78 = .ok (.iconst 1, 1) := by decide +kernel
theorem dX9_takeBar_79 : decode cX9_takeBar 79 = .ok (.iadd, 1) := by decide +kernel
theorem dX9_takeBar_80 : decode cX9_takeBar 80 = .ok (.putfield 31, 3) := by decide +kernel
theorem dX9_takeBar_83 : decode cX9_takeBar 83 = .ok (.aload_n 0, 1) := by decide +kernel
theorem dX9_takeBar_84 : decode cX9_takeBar 84 = .ok (.iconst 1, 1) := by decide +kernel
theorem dX9_takeBar_85 : decode cX9_takeBar 85 = .ok (.bipush 12, 2) := by decide +kernel
theorem dX9_takeBar_87 : decode cX9_takeBar 87 = .ok (.invokevirtual 62, 3) := by decide +kernel
theorem dX9_takeBar_90 : decode cX9_takeBar 90 = .ok (.ifCond .ne 5, 3) := by decide +kernel
theorem dX9_takeBar_93 : decode cX9_takeBar 93 = .ok (.iconst 0, 1) := by decide +kernel
theorem dX9_takeBar_94 : decode cX9_takeBar 94 = .ok (.ireturn, 1) := by decide +kernel
theorem dX9_takeBar_95 : decode cX9_takeBar 95 = .ok (.aload_n 0, 1) := by decide +kernel
theorem dX9_takeBar_96 : decode cX9_takeBar 96 = .ok (.getfield 12, 3) := by decide +kernel
theorem dX9_takeBar_99 : decode cX9_takeBar 99 = .ok (.aload_n 0, 1) := by decide +kernel
theorem dX9_takeBar_100 : decode cX9_takeBar 100 = .ok (.getfield 31, 3) := by decide +kernel
theorem dX9_takeBar_103 : decode cX9_takeBar 103 = .ok (.invokevirtual 66, 3) := by decide +kernel
theorem dX9_takeBar_106 : decode cX9_takeBar 106 = .ok (.istore_n 3, 1) := by decide +kernel
theorem dX9_takeBar_107 : decode cX9_takeBar 107 = .ok (.aload_n 0, 1) := by decide +kernel
theorem dX9_takeBar_108 : decode cX9_takeBar 108 = .ok (.dup, 1) := by decide +kernel
theorem dX9_takeBar_109 : decode cX9_takeBar 109 = .ok (.getfield 31, 3) := by decide +kernel
theorem dX9_takeBar_112 : decode cX9_takeBar 112 = .ok (.iconst 1, 1) := by decide +kernel
theorem dX9_takeBar_113 : decode cX9_takeBar 113 = .ok (.iadd, 1) := by decide +kernel
theorem dX9_takeBar_114 : decode cX9_takeBar 114 = .ok (.putfield 31, 3) := by decide +kernel
theorem dX9_takeBar_117 : decode cX9_takeBar 117 = .ok (.aload_n 0, 1) := by decide +kernel
theorem dX9_takeBar_118 : decode cX9_takeBar 118 = .ok (.iload_n 2, 1) := by decide +kernel
theorem dX9_takeBar_119 : decode cX9_takeBar 119 = .ok (.iload_n 1, 1) := by decide +kernel
theorem dX9_takeBar_120 : decode cX9_takeBar 120 = .ok (.iload_n 3, 1) := by decide +kernel
theorem dX9_takeBar_121 : decode cX9_takeBar 121 = .ok (.aload_n 0, 1) := by decide +kernel
theorem dX9_takeBar_122 : decode cX9_takeBar 122 = .ok (.invokevirtual 83, 3) := by decide +kernel
theorem dX9_takeBar_125 : decode cX9_takeBar 125 = .ok (.invokevirtual 87, 3) := by decide +kernel
theorem dX9_takeBar_128 : decode cX9_takeBar 128 = .ok (.iconst 1, 1) := by decide +kernel
theorem dX9_takeBar_129 : decode cX9_takeBar 129 = .ok (.ireturn, 1) := by decide +kernel
def X9_takeBar_B117 (σ : Mem) (l1 : Int) (l2 : Int) (l3 : Int) : Option (Int × Mem) :=
  bd2 (X9_takeMarks σ) fun r1 s2 =>
  bd (X9_addBar s2 l2 l1 l3 r1) fun s4 =>
  some (1, s4)
def S_X9_takeBar_117 (fn : Mem → Int → Int → Int → Option (Int × Mem)) (p : Program) (l : Launch) (e : Env) (R : Room) (s : State) (m : MethodId) (args : Array Value) (below : List Frame) (meth : Method) (c : Code) (G : GT) (τ : Mem) (res : Int) : Prop := ∀ (σ : Mem) (H : Heap) (locs : List Loc) (ls : Array Slot) (l1 : Int) (l2 : Int) (l3 : Int), PW G σ H → va_S (AA G) s.heap H locs → fn σ l1 l2 l3 = some (res, τ) → lv_has ls 4 [(0, .ref (gh G + 41)), (1, .int (i32 l1)), (2, .int (i32 l2)), (3, .int (i32 l3))] → W p l e R s m args below meth c H locs 0 0 (MQ below (QM G (some (.int (i32 res))) τ) args s 0 0 (AA G)) (F0 m 117 ls [])
def X9_takeBar (σ : Mem) : Option (Int × Mem) :=
  bd (X8_valueOf σ (σ 41 1)) fun r1 =>
  if w32 r1 ≤ w32 2 then
    lt (st σ 41 1 ((σ 41 1) + 1)) fun s2 =>
    bd (X9_isNumber s2 1 60) fun r3 =>
    if w32 r3 ≠ 0 then
      bd (X8_valueOf s2 (s2 41 1)) fun r4 =>
      lt (st s2 41 1 ((s2 41 1) + 1)) fun s5 =>
      bd (X9_isWord s5 3) fun r6 =>
      if w32 r6 = 0 then
        X9_takeBar_B117 s5 r1 r4 4
      else
      lt (st s5 41 1 ((s5 41 1) + 1)) fun s7 =>
      bd (X9_isNumber s7 1 12) fun r8 =>
      if w32 r8 ≠ 0 then
        bd (X8_valueOf s7 (s7 41 1)) fun r9 =>
        lt (st s7 41 1 ((s7 41 1) + 1)) fun s10 =>
        X9_takeBar_B117 s10 r1 r4 r9
      else
      some (0, s7)
    else
    some (0, s2)
  else
  some (0, σ)
def S_X9_takeBar_0 (fn : Mem → Option (Int × Mem)) (p : Program) (l : Launch) (e : Env) (R : Room) (s : State) (m : MethodId) (args : Array Value) (below : List Frame) (meth : Method) (c : Code) (G : GT) (τ : Mem) (res : Int) : Prop := ∀ (σ : Mem) (H : Heap) (locs : List Loc) (ls : Array Slot), PW G σ H → va_S (AA G) s.heap H locs → fn σ = some (res, τ) → lv_has ls 4 [(0, .ref (gh G + 41))] → W p l e R s m args below meth c H locs 0 0 (MQ below (QM G (some (.int (i32 res))) τ) args s 0 0 (AA G)) (F0 m 0 ls [])
set_option maxHeartbeats 4000000 in
theorem a_X9_takeBar_117 {p : Program} {l : Launch} {e : Env} {R : Room} {s : State} {m : MethodId} {args : Array Value} {below : List Frame} {meth : Method} {c : Code} {G : GT} {τ : Mem} {res : Int} (X : CX p R s m args meth c cX9_takeBar 4 RX9 (some FieldType.boolean) 5 145 G) : S_X9_takeBar_117 (X9_takeBar_B117) p l e R s m args below meth c G τ res := by
  intro σ H locs ls l1 l2 l3 hP hS hf hl
  unfold X9_takeBar_B117 at hf
  refine lv_aload_n X.1 X.2.1 dX9_takeBar_117 rfl (lv_at hl 0 rfl) ?_
  refine lv_iload_n X.1 X.2.1 dX9_takeBar_118 rfl (lv_at hl 2 rfl) ?_
  refine lv_iload_n X.1 X.2.1 dX9_takeBar_119 rfl (lv_at hl 1 rfl) ?_
  refine lv_iload_n X.1 X.2.1 dX9_takeBar_120 rfl (lv_at hl 3 rfl) ?_
  refine lv_aload_n X.1 X.2.1 dX9_takeBar_121 rfl (lv_at hl 0 rfl) ?_
  obtain ⟨r1, s2, hr1, hf⟩ := bd2_inv hf
  refine k_X9_takeMarks X hP hS hl.1  hr1 (tb t_600 rfl) (by decide) (Nat.le_of_ble_eq_true rfl) dX9_takeBar_122 (fun H locs hP hS => ?_)
  obtain ⟨s4, hr3, hf⟩ := bd_inv hf
  refine k_X9_addBar X hP hS hl.1  hr3 (tb t_604 rfl) (by decide) (Nat.le_of_ble_eq_true rfl) dX9_takeBar_125 (fun H locs hP hS => ?_)
  refine r_iconst X 1 dX9_takeBar_128 ?_
  obtain ⟨rfl, rfl⟩ := so2_inv hf
  exact r_zret X hP hS (Or.inr rfl) dX9_takeBar_129
set_option maxHeartbeats 4000000 in
theorem a_X9_takeBar_0 {p : Program} {l : Launch} {e : Env} {R : Room} {s : State} {m : MethodId} {args : Array Value} {below : List Frame} {meth : Method} {c : Code} {G : GT} {τ : Mem} {res : Int} (X : CX p R s m args meth c cX9_takeBar 4 RX9 (some FieldType.boolean) 5 145 G) : S_X9_takeBar_0 (X9_takeBar) p l e R s m args below meth c G τ res := by
  intro σ H locs ls hP hS hf hl
  unfold X9_takeBar at hf
  refine lv_aload_n X.1 X.2.1 dX9_takeBar_0 rfl (lv_at hl 0 rfl) ?_
  refine g_9_0 (r := 42) X hP ks_9 rfl (tb t_215 rfl) dX9_takeBar_1 ?_
  refine lv_aload_n X.1 X.2.1 dX9_takeBar_4 rfl (lv_at hl 0 rfl) ?_
  refine g_9_1 X hP ks_9 (tb t_217 rfl) dX9_takeBar_5 ?_
  obtain ⟨r1, hr1, hf⟩ := bd_inv hf
  refine k_X8_valueOf X hP hS hl.1  hr1 (tb t_587 rfl) (by decide) (Nat.le_of_ble_eq_true rfl) dX9_takeBar_8 (fun H locs hP hS => ?_)
  refine lv_istore_n (lv' := [(1, .int (i32 r1)), (0, .ref (gh G + 41))]) X.1 X.2.1 dX9_takeBar_11 rfl hl (by decide) rfl (fun ls hl => ?_)
  refine lv_iload_n X.1 X.2.1 dX9_takeBar_12 rfl (lv_at hl 0 rfl) ?_
  refine r_iconst X 2 dX9_takeBar_13 ?_
  refine r_icmp_le (tgt := 19) X dX9_takeBar_14 (by decide) (fun q => ?_) (fun q => ?_)
  · replace hf := it_inv q hf
    refine lv_aload_n X.1 X.2.1 dX9_takeBar_19 rfl (lv_at hl 1 rfl) ?_
    refine lv_dup X.1 X.2.1 dX9_takeBar_20 rfl ?_
    refine g_9_1 X hP ks_9 (tb t_217 rfl) dX9_takeBar_21 ?_
    refine r_iconst X 1 dX9_takeBar_24 ?_
    refine r_iadd X dX9_takeBar_25 ?_
    refine p_9_1 X hP hS ks_9 (tb t_217 rfl) dX9_takeBar_26 (fun H locs hP hS => ?_)
    obtain ⟨s2, es2, hf⟩ := lt_inv hf
    rw [es2] at hP
    refine lv_aload_n X.1 X.2.1 dX9_takeBar_29 rfl (lv_at hl 1 rfl) ?_
    refine r_iconst X 1 dX9_takeBar_30 ?_
    refine r_bipush X 60 (by decide) dX9_takeBar_31 ?_
    obtain ⟨r3, hr3, hf⟩ := bd_inv hf
    refine k_X9_isNumber X hP hS hl.1  hr3 (tb t_583 rfl) (by decide) (Nat.le_of_ble_eq_true rfl) dX9_takeBar_33 (fun H locs hP hS => ?_)
    refine r_if_ne (tgt := 41) X dX9_takeBar_36 (by decide) (fun q => ?_) (fun q => ?_)
    · replace hf := it_inv q hf
      refine lv_aload_n X.1 X.2.1 dX9_takeBar_41 rfl (lv_at hl 1 rfl) ?_
      refine g_9_0 (r := 42) X hP ks_9 rfl (tb t_215 rfl) dX9_takeBar_42 ?_
      refine lv_aload_n X.1 X.2.1 dX9_takeBar_45 rfl (lv_at hl 1 rfl) ?_
      refine g_9_1 X hP ks_9 (tb t_217 rfl) dX9_takeBar_46 ?_
      obtain ⟨r4, hr4, hf⟩ := bd_inv hf
      refine k_X8_valueOf X hP hS hl.1  hr4 (tb t_587 rfl) (by decide) (Nat.le_of_ble_eq_true rfl) dX9_takeBar_49 (fun H locs hP hS => ?_)
      refine lv_istore_n (lv' := [(2, .int (i32 r4)), (1, .int (i32 r1)), (0, .ref (gh G + 41))]) X.1 X.2.1 dX9_takeBar_52 rfl hl (by decide) rfl (fun ls hl => ?_)
      refine r_iconst X 4 dX9_takeBar_53 ?_
      refine lv_istore_n (lv' := [(3, .int (i32 4)), (2, .int (i32 r4)), (1, .int (i32 r1)), (0, .ref (gh G + 41))]) X.1 X.2.1 dX9_takeBar_54 rfl hl (by decide) rfl (fun ls hl => ?_)
      refine lv_aload_n X.1 X.2.1 dX9_takeBar_55 rfl (lv_at hl 3 rfl) ?_
      refine lv_dup X.1 X.2.1 dX9_takeBar_56 rfl ?_
      refine g_9_1 X hP ks_9 (tb t_217 rfl) dX9_takeBar_57 ?_
      refine r_iconst X 1 dX9_takeBar_60 ?_
      refine r_iadd X dX9_takeBar_61 ?_
      refine p_9_1 X hP hS ks_9 (tb t_217 rfl) dX9_takeBar_62 (fun H locs hP hS => ?_)
      obtain ⟨s5, es5, hf⟩ := lt_inv hf
      rw [es5] at hP
      refine lv_aload_n X.1 X.2.1 dX9_takeBar_65 rfl (lv_at hl 3 rfl) ?_
      refine r_iconst X 3 dX9_takeBar_66 ?_
      obtain ⟨r6, hr6, hf⟩ := bd_inv hf
      refine k_X9_isWord X hP hS hl.1  hr6 (tb t_596 rfl) (by decide) (Nat.le_of_ble_eq_true rfl) dX9_takeBar_67 (fun H locs hP hS => ?_)
      refine r_if_eq (tgt := 117) X dX9_takeBar_70 (by decide) (fun q => ?_) (fun q => ?_)
      · replace hf := it_inv q hf
        exact a_X9_takeBar_117 X s5 H locs ls r1 r4 4 hP hS hf (lv_sub hl [3, 2, 1, 0] rfl)
      · replace hf := ie_inv q hf
        refine lv_aload_n X.1 X.2.1 dX9_takeBar_73 rfl (lv_at hl 3 rfl) ?_
        refine lv_dup X.1 X.2.1 dX9_takeBar_74 rfl ?_
        refine g_9_1 X hP ks_9 (tb t_217 rfl) dX9_takeBar_75 ?_
        refine r_iconst X 1 dX9_takeBar_78 ?_
        refine r_iadd X dX9_takeBar_79 ?_
        refine p_9_1 X hP hS ks_9 (tb t_217 rfl) dX9_takeBar_80 (fun H locs hP hS => ?_)
        obtain ⟨s7, es7, hf⟩ := lt_inv hf
        rw [es7] at hP
        refine lv_aload_n X.1 X.2.1 dX9_takeBar_83 rfl (lv_at hl 3 rfl) ?_
        refine r_iconst X 1 dX9_takeBar_84 ?_
        refine r_bipush X 12 (by decide) dX9_takeBar_85 ?_
        obtain ⟨r8, hr8, hf⟩ := bd_inv hf
        refine k_X9_isNumber X hP hS hl.1  hr8 (tb t_583 rfl) (by decide) (Nat.le_of_ble_eq_true rfl) dX9_takeBar_87 (fun H locs hP hS => ?_)
        refine r_if_ne (tgt := 95) X dX9_takeBar_90 (by decide) (fun q => ?_) (fun q => ?_)
        · replace hf := it_inv q hf
          refine lv_aload_n X.1 X.2.1 dX9_takeBar_95 rfl (lv_at hl 3 rfl) ?_
          refine g_9_0 (r := 42) X hP ks_9 rfl (tb t_215 rfl) dX9_takeBar_96 ?_
          refine lv_aload_n X.1 X.2.1 dX9_takeBar_99 rfl (lv_at hl 3 rfl) ?_
          refine g_9_1 X hP ks_9 (tb t_217 rfl) dX9_takeBar_100 ?_
          obtain ⟨r9, hr9, hf⟩ := bd_inv hf
          refine k_X8_valueOf X hP hS hl.1  hr9 (tb t_587 rfl) (by decide) (Nat.le_of_ble_eq_true rfl) dX9_takeBar_103 (fun H locs hP hS => ?_)
          refine lv_istore_n (lv' := [(3, .int (i32 r9)), (2, .int (i32 r4)), (1, .int (i32 r1)), (0, .ref (gh G + 41))]) X.1 X.2.1 dX9_takeBar_106 rfl hl (by decide) rfl (fun ls hl => ?_)
          refine lv_aload_n X.1 X.2.1 dX9_takeBar_107 rfl (lv_at hl 3 rfl) ?_
          refine lv_dup X.1 X.2.1 dX9_takeBar_108 rfl ?_
          refine g_9_1 X hP ks_9 (tb t_217 rfl) dX9_takeBar_109 ?_
          refine r_iconst X 1 dX9_takeBar_112 ?_
          refine r_iadd X dX9_takeBar_113 ?_
          refine p_9_1 X hP hS ks_9 (tb t_217 rfl) dX9_takeBar_114 (fun H locs hP hS => ?_)
          obtain ⟨s10, es10, hf⟩ := lt_inv hf
          rw [es10] at hP
          exact a_X9_takeBar_117 X s10 H locs ls r1 r4 r9 hP hS hf (lv_sub hl [3, 2, 1, 0] rfl)
        · replace hf := ie_inv q hf
          refine r_iconst X 0 dX9_takeBar_93 ?_
          obtain ⟨rfl, rfl⟩ := so2_inv hf
          exact r_zret X hP hS (Or.inl rfl) dX9_takeBar_94
    · replace hf := ie_inv q hf
      refine r_iconst X 0 dX9_takeBar_39 ?_
      obtain ⟨rfl, rfl⟩ := so2_inv hf
      exact r_zret X hP hS (Or.inl rfl) dX9_takeBar_40
  · replace hf := ie_inv q hf
    refine r_iconst X 0 dX9_takeBar_17 ?_
    obtain ⟨rfl, rfl⟩ := so2_inv hf
    exact r_zret X hP hS (Or.inl rfl) dX9_takeBar_18
set_option maxHeartbeats 4000000 in
theorem c_X9_takeBar {l : Launch} {G : GT} {σ τ : Mem} {res : Int} (hf : X9_takeBar σ = some (res, τ)) : CT l yX9_takeBar cX9_takeBar 4 (some FieldType.boolean) 5 145 G [.ref (gh G + 41)] σ τ (some (.int (i32 res))) := by
  refine CT.mk (own := RX9) (by decide) rfl (Nat.le_of_ble_eq_true rfl) ?_
  intro p e s m below meth c ls X hP hS hl
  have hl : lv_has ls 4 [(0, .ref (gh G + 41))] := hl
  exact a_X9_takeBar_0 X σ s.heap [] ls hP hS hf hl
theorem k_X9_takeBar {p : Program} {l : Launch} {e : Env} {R : Room} {s : State} {m : MethodId} {args : Array Value} {below : List Frame} {meth : Method} {c : Code} {H : Heap} {locs : List Loc} {Q : State → Prop} {cc : ByteArray} {nL : Nat} {own : String} {ret : Option FieldType} {fF fL : Nat} {G : GT} {pc idx : Nat} {ls : Array Slot} {rest : List Value} {σ τ : Mem} {res : Int} (X : CX p R s m args meth c cc nL own ret fF fL G) (hP : PW G σ H) (hS : va_S (AA G) s.heap H locs) (hls : ls.size = nL) (hf : X9_takeBar σ = some (res, τ)) (h1 : Cond.methodLink own idx yX9_takeBar ∈ TB) (hR : 5 + 1 ≤ fF ∧ 8 + (4 + 11) + 145 ≤ fL) (hW : (rest.map fun v => v.category).sum ≤ 8) (hd : decode cc pc = .ok (.invokevirtual idx, 3)) (kk : ∀ (H1 : Heap) (locs1 : List Loc), PW G τ H1 → va_S (AA G) s.heap H1 locs1 → W p l e R s m args below meth c H1 locs1 0 0 Q (F0 m (pc + 3) ls (.int (i32 res) :: rest))) : W p l e R s m args below meth c H locs 0 0 Q (F0 m pc ls (.ref (gh G + 41) :: rest)) := r_callV (n := 0) X hP hS hls (c_X9_takeBar hf) h1 (tb t_594 rfl) (tb t_14 rfl) (tb t_80 rfl) (tb t_595 rfl) (by decide +kernel) hR (r_recv X hP (kd_lt ks_9 (by decide)) (cE_9 ks_9) rfl) rfl rfl hW hd kk
/-! X9_repeatLast -/
theorem dX9_repeatLast_0 : decode cX9_repeatLast 0 = .ok (.aload_n 0, 1) := by decide +kernel
theorem dX9_repeatLast_1 : decode cX9_repeatLast 1 = .ok (.getfield 38, 3) := by decide +kernel
theorem dX9_repeatLast_4 : decode cX9_repeatLast 4 = .ok (.ifCond .ne 14, 3) := by decide +kernel
theorem dX9_repeatLast_7 : decode cX9_repeatLast 7 = .ok (.iload_n 1, 1) := by decide +kernel
theorem dX9_repeatLast_8 : decode cX9_repeatLast 8 = .ok (.bipush 40, 2) := by decide +kernel
theorem dX9_repeatLast_10 : decode cX9_repeatLast 10 = .ok (.aload_n 0, 1) := by decide +kernel
theorem dX9_repeatLast_11 : decode cX9_repeatLast 11 = .ok (.getfield 35, 3) := by decide +kernel
theorem dX9_repeatLast_14 : decode cX9_repeatLast 14 = .ok (.isub, 1) := by decide +kernel
theorem dX9_repeatLast_15 : decode cX9_repeatLast 15 = .ok (.if_icmp .le 9, 3) := by decide +kernel
theorem dX9_repeatLast_18 : decode cX9_repeatLast 18 = .ok (.aload_n 0, 1) := by decide +kernel
theorem dX9_repeatLast_19 : decode cX9_repeatLast 19 = .ok (.iconst 1, 1) := by decide +kernel
theorem dX9_repeatLast_20 : decode cX9_repeatLast 20 = .ok (.putfield 38, 3) := by decide +kernel
theorem dX9_repeatLast_23 : decode cX9_repeatLast 23 = .ok (.return_, 1) := by decide +kernel
theorem dX9_repeatLast_24 : decode cX9_repeatLast 24 = .ok (.aload_n 0, 1) := by decide +kernel
theorem dX9_repeatLast_25 : decode cX9_repeatLast 25 = .ok (.getfield 18, 3) := by decide +kernel
theorem dX9_repeatLast_28 : decode cX9_repeatLast 28 = .ok (.aload_n 0, 1) := by decide +kernel
theorem dX9_repeatLast_29 : decode cX9_repeatLast 29 = .ok (.getfield 35, 3) := by decide +kernel
theorem dX9_repeatLast_32 : decode cX9_repeatLast 32 = .ok (.iload_n 1, 1) := by decide +kernel
theorem dX9_repeatLast_33 : decode cX9_repeatLast 33 = .ok (.isub, 1) := by decide +kernel
theorem dX9_repeatLast_34 : decode cX9_repeatLast 34 = .ok (.iconst 4, 1) := by decide +kernel
theorem dX9_repeatLast_35 : decode cX9_repeatLast 35 = .ok (.imul, 1) := by decide +kernel
theorem dX9_repeatLast_36 : decode cX9_repeatLast 36 = .ok (.aload_n 0, 1) := by decide +kernel
theorem dX9_repeatLast_37 : decode cX9_repeatLast 37 = .ok (.getfield 18, 3) := by decide +kernel
theorem dX9_repeatLast_40 : decode cX9_repeatLast 40 = .ok (.aload_n 0, 1) := by decide +kernel
theorem dX9_repeatLast_41 : decode cX9_repeatLast 41 = .ok (.getfield 35, 3) := by decide +kernel
theorem dX9_repeatLast_44 : decode cX9_repeatLast 44 = .ok (.iconst 4, 1) := by decide +kernel
theorem dX9_repeatLast_45 : decode cX9_repeatLast 45 = .ok (.imul, 1) := by decide +kernel
theorem dX9_repeatLast_46 : decode cX9_repeatLast 46 = .ok (.iload_n 1, 1) := by decide +kernel
theorem dX9_repeatLast_47 : decode cX9_repeatLast 47 = .ok (.iconst 4, 1) := by decide +kernel
theorem dX9_repeatLast_48 : decode cX9_repeatLast 48 = .ok (.imul, 1) := by decide +kernel
theorem dX9_repeatLast_49 : decode cX9_repeatLast 49 = .ok (.invokestatic 73, 3) := by decide +kernel
theorem dX9_repeatLast_52 : decode cX9_repeatLast 52 = .ok (.aload_n 0, 1) := by decide +kernel
theorem dX9_repeatLast_53 : decode cX9_repeatLast 53 = .ok (.dup, 1) := by decide +kernel
theorem dX9_repeatLast_54 : decode cX9_repeatLast 54 = .ok (.getfield 35, 3) := by decide +kernel
theorem dX9_repeatLast_57 : decode cX9_repeatLast 57 = .ok (.iload_n 1, 1) := by decide +kernel
theorem dX9_repeatLast_58 : decode cX9_repeatLast 58 = .ok (.iadd, 1) := by decide +kernel
theorem dX9_repeatLast_59 : decode cX9_repeatLast 59 = .ok (.putfield 35, 3) := by decide +kernel
theorem dX9_repeatLast_62 : decode cX9_repeatLast 62 = .ok (.return_, 1) := by decide +kernel
def X9_repeatLast (σ : Mem) (l1 : Int) : Option (Mem) :=
  if w32 (σ 41 4) ≠ 0 then
    lt (st σ 41 4 1) fun s1 =>
    some s1
  else
  if w32 l1 ≤ w32 (40 - (σ 41 3)) then
    ac 160 160 (((σ 41 3) - l1) * 4) ((σ 41 3) * 4) (l1 * 4) <|
    lt (cpy σ 47 (w32 (((σ 41 3) - l1) * 4)).toNat 47 (w32 ((σ 41 3) * 4)).toNat (w32 (l1 * 4)).toNat) fun s3 =>
    lt (st s3 41 3 ((s3 41 3) + l1)) fun s4 =>
    some s4
  else
  lt (st σ 41 4 1) fun s5 =>
  some s5
def S_X9_repeatLast_0 (fn : Mem → Int → Option (Mem)) (p : Program) (l : Launch) (e : Env) (R : Room) (s : State) (m : MethodId) (args : Array Value) (below : List Frame) (meth : Method) (c : Code) (G : GT) (τ : Mem) : Prop := ∀ (σ : Mem) (H : Heap) (locs : List Loc) (ls : Array Slot) (l1 : Int), PW G σ H → va_S (AA G) s.heap H locs → fn σ l1 = some τ → lv_has ls 2 [(0, .ref (gh G + 41)), (1, .int (i32 l1))] → W p l e R s m args below meth c H locs 0 0 (MQ below (QM G none τ) args s 0 0 (AA G)) (F0 m 0 ls [])
set_option maxHeartbeats 4000000 in
theorem a_X9_repeatLast_0 {p : Program} {l : Launch} {e : Env} {R : Room} {s : State} {m : MethodId} {args : Array Value} {below : List Frame} {meth : Method} {c : Code} {G : GT} {τ : Mem} (X : CX p R s m args meth c cX9_repeatLast 2 RX9 none 1 60 G) : S_X9_repeatLast_0 (X9_repeatLast) p l e R s m args below meth c G τ := by
  intro σ H locs ls l1 hP hS hf hl
  unfold X9_repeatLast at hf
  refine lv_aload_n X.1 X.2.1 dX9_repeatLast_0 rfl (lv_at hl 0 rfl) ?_
  refine g_9_4 X hP ks_9 (tb t_222 rfl) dX9_repeatLast_1 ?_
  refine r_if_ne (tgt := 18) X dX9_repeatLast_4 (by decide) (fun q => ?_) (fun q => ?_)
  · replace hf := it_inv q hf
    refine lv_aload_n X.1 X.2.1 dX9_repeatLast_18 rfl (lv_at hl 0 rfl) ?_
    refine r_iconst X 1 dX9_repeatLast_19 ?_
    refine p_9_4 X hP hS (Or.inr rfl) ks_9 (tb t_222 rfl) dX9_repeatLast_20 (fun H locs hP hS => ?_)
    obtain ⟨s1, es1, hf⟩ := lt_inv hf
    rw [es1] at hP
    cases so_inv hf
    exact r_vret X hP hS dX9_repeatLast_23
  · replace hf := ie_inv q hf
    refine lv_iload_n X.1 X.2.1 dX9_repeatLast_7 rfl (lv_at hl 1 rfl) ?_
    refine r_bipush X 40 (by decide) dX9_repeatLast_8 ?_
    refine lv_aload_n X.1 X.2.1 dX9_repeatLast_10 rfl (lv_at hl 0 rfl) ?_
    refine g_9_3 X hP ks_9 (tb t_220 rfl) dX9_repeatLast_11 ?_
    refine r_isub X dX9_repeatLast_14 ?_
    refine r_icmp_le (tgt := 24) X dX9_repeatLast_15 (by decide) (fun q => ?_) (fun q => ?_)
    · replace hf := it_inv q hf
      refine lv_aload_n X.1 X.2.1 dX9_repeatLast_24 rfl (lv_at hl 0 rfl) ?_
      refine g_9_2 (r := 47) X hP ks_9 rfl (tb t_218 rfl) dX9_repeatLast_25 ?_
      refine lv_aload_n X.1 X.2.1 dX9_repeatLast_28 rfl (lv_at hl 0 rfl) ?_
      refine g_9_3 X hP ks_9 (tb t_220 rfl) dX9_repeatLast_29 ?_
      refine lv_iload_n X.1 X.2.1 dX9_repeatLast_32 rfl (lv_at hl 1 rfl) ?_
      refine r_isub X dX9_repeatLast_33 ?_
      refine r_iconst X 4 dX9_repeatLast_34 ?_
      refine r_imul X dX9_repeatLast_35 ?_
      refine lv_aload_n X.1 X.2.1 dX9_repeatLast_36 rfl (lv_at hl 0 rfl) ?_
      refine g_9_2 (r := 47) X hP ks_9 rfl (tb t_218 rfl) dX9_repeatLast_37 ?_
      refine lv_aload_n X.1 X.2.1 dX9_repeatLast_40 rfl (lv_at hl 0 rfl) ?_
      refine g_9_3 X hP ks_9 (tb t_220 rfl) dX9_repeatLast_41 ?_
      refine r_iconst X 4 dX9_repeatLast_44 ?_
      refine r_imul X dX9_repeatLast_45 ?_
      refine lv_iload_n X.1 X.2.1 dX9_repeatLast_46 rfl (lv_at hl 1 rfl) ?_
      refine r_iconst X 4 dX9_repeatLast_47 ?_
      refine r_imul X dX9_repeatLast_48 ?_
      obtain ⟨hc2, hf⟩ := ac_inv hf
      refine r_acopy X hl.1 hP hS (tb t_616 rfl) (tb t_618 rfl) (tb t_617 rfl) (tb t_93 rfl) (by decide) (Nat.le_of_ble_eq_true rfl) (ch_9_2 ks_9).1 (ch_9_2 ks_9).2 (ch_9_2 ks_9).1 (ch_9_2 ks_9).2 hc2 dX9_repeatLast_49 (fun H locs hP hS => ?_)
      obtain ⟨s3, es3, hf⟩ := lt_inv hf
      rw [es3] at hP
      refine lv_aload_n X.1 X.2.1 dX9_repeatLast_52 rfl (lv_at hl 0 rfl) ?_
      refine lv_dup X.1 X.2.1 dX9_repeatLast_53 rfl ?_
      refine g_9_3 X hP ks_9 (tb t_220 rfl) dX9_repeatLast_54 ?_
      refine lv_iload_n X.1 X.2.1 dX9_repeatLast_57 rfl (lv_at hl 1 rfl) ?_
      refine r_iadd X dX9_repeatLast_58 ?_
      refine p_9_3 X hP hS ks_9 (tb t_220 rfl) dX9_repeatLast_59 (fun H locs hP hS => ?_)
      obtain ⟨s4, es4, hf⟩ := lt_inv hf
      rw [es4] at hP
      cases so_inv hf
      exact r_vret X hP hS dX9_repeatLast_62
    · replace hf := ie_inv q hf
      refine lv_aload_n X.1 X.2.1 dX9_repeatLast_18 rfl (lv_at hl 0 rfl) ?_
      refine r_iconst X 1 dX9_repeatLast_19 ?_
      refine p_9_4 X hP hS (Or.inr rfl) ks_9 (tb t_222 rfl) dX9_repeatLast_20 (fun H locs hP hS => ?_)
      obtain ⟨s5, es5, hf⟩ := lt_inv hf
      rw [es5] at hP
      cases so_inv hf
      exact r_vret X hP hS dX9_repeatLast_23
set_option maxHeartbeats 4000000 in
theorem c_X9_repeatLast {l : Launch} {G : GT} {σ τ : Mem} {l1 : Int} (hf : X9_repeatLast σ l1 = some τ) : CT l yX9_repeatLast cX9_repeatLast 2 none 1 60 G [.ref (gh G + 41), .int (i32 l1)] σ τ none := by
  refine CT.mk (own := RX9) (by decide) rfl (Nat.le_of_ble_eq_true rfl) ?_
  intro p e s m below meth c ls X hP hS hl
  have hl : lv_has ls 2 [(0, .ref (gh G + 41)), (1, .int (i32 l1))] := hl
  exact a_X9_repeatLast_0 X σ s.heap [] ls l1 hP hS hf hl
theorem k_X9_repeatLast {p : Program} {l : Launch} {e : Env} {R : Room} {s : State} {m : MethodId} {args : Array Value} {below : List Frame} {meth : Method} {c : Code} {H : Heap} {locs : List Loc} {Q : State → Prop} {cc : ByteArray} {nL : Nat} {own : String} {ret : Option FieldType} {fF fL : Nat} {G : GT} {pc idx : Nat} {ls : Array Slot} {rest : List Value} {σ τ : Mem} {l1 : Int} (X : CX p R s m args meth c cc nL own ret fF fL G) (hP : PW G σ H) (hS : va_S (AA G) s.heap H locs) (hls : ls.size = nL) (hf : X9_repeatLast σ l1 = some τ) (h1 : Cond.methodLink own idx yX9_repeatLast ∈ TB) (hR : 1 + 1 ≤ fF ∧ 8 + (2 + 11) + 60 ≤ fL) (hW : (rest.map fun v => v.category).sum ≤ 8) (hd : decode cc pc = .ok (.invokevirtual idx, 3)) (kk : ∀ (H1 : Heap) (locs1 : List Loc), PW G τ H1 → va_S (AA G) s.heap H1 locs1 → W p l e R s m args below meth c H1 locs1 0 0 Q (F0 m (pc + 3) ls (rest))) : W p l e R s m args below meth c H locs 0 0 Q (F0 m pc ls (.int (i32 l1) :: .ref (gh G + 41) :: rest)) := r_callV (n := 1) X hP hS hls (c_X9_repeatLast hf) h1 (tb t_614 rfl) (tb t_19 rfl) (tb t_80 rfl) (tb t_615 rfl) (by decide +kernel) hR (r_recv X hP (kd_lt ks_9 (by decide)) (cE_9 ks_9) rfl) rfl rfl hW hd kk
/-! X9_takeClosing -/
theorem dX9_takeClosing_0 : decode cX9_takeClosing 0 = .ok (.aload_n 0, 1) := by decide +kernel
theorem dX9_takeClosing_1 : decode cX9_takeClosing 1 = .ok (.getfield 42, 3) := by decide +kernel
theorem dX9_takeClosing_4 : decode cX9_takeClosing 4 = .ok (.ifCond .gt 5, 3) := by decide +kernel
theorem dX9_takeClosing_7 : decode cX9_takeClosing 7 = .ok (.iconst 0, 1) := by decide +kernel
theorem dX9_takeClosing_8 : decode cX9_takeClosing 8 = .ok (.ireturn, 1) := by decide +kernel
theorem dX9_takeClosing_9 : decode cX9_takeClosing 9 = .ok (.aload_n 0, 1) := by decide +kernel
theorem dX9_takeClosing_10 : decode cX9_takeClosing 10 = .ok (.dup, 1) := by decide +kernel
theorem dX9_takeClosing_11 : decode cX9_takeClosing 11 = .ok (.getfield 31, 3) := by decide +kernel
theorem dX9_takeClosing_14 : decode cX9_takeClosing 14 = .ok (.iconst 1, 1) := by decide +kernel
theorem dX9_takeClosing_15 : decode cX9_takeClosing 15 = .ok (.iadd, 1) := by decide +kernel
theorem dX9_takeClosing_16 : decode cX9_takeClosing 16 = .ok (.putfield 31, 3) := by decide +kernel
theorem dX9_takeClosing_19 : decode cX9_takeClosing 19 = .ok (.aload_n 0, 1) := by decide +kernel
theorem dX9_takeClosing_20 : decode cX9_takeClosing 20 = .ok (.dup, 1) := by decide +kernel
theorem dX9_takeClosing_21 : decode cX9_takeClosing 21 = .ok (.getfield 42, 3) := by decide +kernel
theorem dX9_takeClosing_24 : decode cX9_takeClosing 24 = .ok (.iconst 1, 1) := by decide +kernel
theorem dX9_takeClosing_25 : decode cX9_takeClosing 25 = .ok (.isub, 1) := by decide +kernel
theorem dX9_takeClosing_26 : decode cX9_takeClosing 26 = .ok (.putfield 42, 3) := by decide +kernel
theorem dX9_takeClosing_29 : decode cX9_takeClosing 29 = .ok (.aload_n 0, 1) := by decide +kernel
theorem dX9_takeClosing_30 : decode cX9_takeClosing 30 = .ok (.getfield 35, 3) := by decide +kernel
theorem dX9_takeClosing_33 : decode cX9_takeClosing 33 = .ok (.aload_n 0, 1) := by decide +kernel
theorem dX9_takeClosing_34 : decode cX9_takeClosing 34 = .ok (.getfield 25, 3) := by decide +kernel
theorem dX9_takeClosing_37 : decode cX9_takeClosing 37 = .ok (.aload_n 0, 1) := by decide +kernel
theorem dX9_takeClosing_38 : decode cX9_takeClosing 38 = .ok (.getfield 42, 3) := by decide +kernel
theorem dX9_takeClosing_41 : decode cX9_takeClosing 41 = .ok (.iaload, 1) := by decide +kernel
theorem dX9_takeClosing_42 : decode cX9_takeClosing 42 = .ok (.isub, 1) := by decide +kernel
theorem dX9_takeClosing_43 : decode cX9_takeClosing 43 = .ok (.istore_n 1, 1) := by decide +kernel
theorem dX9_takeClosing_44 : decode cX9_takeClosing 44 = .ok (.iconst 1, 1) := by decide +kernel
theorem dX9_takeClosing_45 : decode cX9_takeClosing 45 = .ok (.istore_n 2, 1) := by decide +kernel
theorem dX9_takeClosing_46 : decode cX9_takeClosing 46 = .ok (.iload_n 2, 1) := by decide +kernel
theorem dX9_takeClosing_47 : decode cX9_takeClosing 47 = .ok (.aload_n 0, 1) := by decide +kernel
theorem dX9_takeClosing_48 : decode cX9_takeClosing 48 = .ok (.getfield 22, 3) := by decide +kernel
theorem dX9_takeClosing_51 : decode cX9_takeClosing 51 = .ok (.aload_n 0, 1) := by decide +kernel
theorem dX9_takeClosing_52 : decode cX9_takeClosing 52 = .ok (.getfield 42, 3) := by decide +kernel
theorem dX9_takeClosing_55 : decode cX9_takeClosing 55 = .ok (.iaload, 1) := by decide +kernel
theorem dX9_takeClosing_56 : decode cX9_takeClosing 56 = .ok (.if_icmp .ge 14, 3) := by decide +kernel
theorem dX9_takeClosing_59 : decode cX9_takeClosing 59 = .ok (.aload_n 0, 1) := by decide +kernel
theorem dX9_takeClosing_60 : decode cX9_takeClosing 60 = .ok (.iload_n 1, 1) := by decide +kernel
theorem dX9_takeClosing_61 : decode cX9_takeClosing 61 = .ok (.invokevirtual 69, 3) := by decide +kernel
theorem dX9_takeClosing_64 : decode cX9_takeClosing 64 = .ok (.iinc 2 1, 3) := by decide +kernel
theorem dX9_takeClosing_67 : decode cX9_takeClosing 67 = .ok (.goto (-21), 3) := by decide +kernel
theorem dX9_takeClosing_70 : decode cX9_takeClosing 70 = .ok (.iconst 1, 1) := by decide +kernel
theorem dX9_takeClosing_71 : decode cX9_takeClosing 71 = .ok (.ireturn, 1) := by decide +kernel
def S_X9_takeClosing_46 (fn : Mem → Int → Int → Option (Int × Mem)) (p : Program) (l : Launch) (e : Env) (R : Room) (s : State) (m : MethodId) (args : Array Value) (below : List Frame) (meth : Method) (c : Code) (G : GT) (τ : Mem) (res : Int) : Prop := ∀ (σ : Mem) (H : Heap) (locs : List Loc) (ls : Array Slot) (l1 : Int) (l2 : Int), PW G σ H → va_S (AA G) s.heap H locs → fn σ l1 l2 = some (res, τ) → lv_has ls 3 [(0, .ref (gh G + 41)), (1, .int (i32 l1)), (2, .int (i32 l2))] → W p l e R s m args below meth c H locs 0 0 (MQ below (QM G (some (.int (i32 res))) τ) args s 0 0 (AA G)) (F0 m 46 ls [])
def X9_takeClosing_B46 (rec46 : Mem → Int → Int → Option (Int × Mem)) (σ : Mem) (l1 : Int) (l2 : Int) : Option (Int × Mem) :=
  ag 4 (σ 41 5) fun j1 =>
  if w32 (σ 48 j1) ≤ w32 l2 then
    some (1, σ)
  else
  bd (X9_repeatLast σ l1) fun s3 =>
  lt (l2 + 1) fun l2_4 =>
  rec46 s3 l1 l2_4
def X9_takeClosing_L46 : Nat → Mem → Int → Int → Option (Int × Mem)
  | 0 => fun _ _ _ => none
  | n + 1 => X9_takeClosing_B46 (X9_takeClosing_L46 n)
def X9_takeClosing (σ : Mem) : Option (Int × Mem) :=
  if 0 < w32 (σ 41 5) then
    lt (st σ 41 1 ((σ 41 1) + 1)) fun s1 =>
    lt (st s1 41 5 ((s1 41 5) - 1)) fun s2 =>
    ag 4 (s2 41 5) fun j3 =>
    lt ((s2 41 3) - (s2 49 j3)) fun l1_4 =>
    X9_takeClosing_L46 5000 s2 l1_4 1
  else
  some (0, σ)
def S_X9_takeClosing_0 (fn : Mem → Option (Int × Mem)) (p : Program) (l : Launch) (e : Env) (R : Room) (s : State) (m : MethodId) (args : Array Value) (below : List Frame) (meth : Method) (c : Code) (G : GT) (τ : Mem) (res : Int) : Prop := ∀ (σ : Mem) (H : Heap) (locs : List Loc) (ls : Array Slot), PW G σ H → va_S (AA G) s.heap H locs → fn σ = some (res, τ) → lv_has ls 3 [(0, .ref (gh G + 41))] → W p l e R s m args below meth c H locs 0 0 (MQ below (QM G (some (.int (i32 res))) τ) args s 0 0 (AA G)) (F0 m 0 ls [])
set_option maxHeartbeats 4000000 in
theorem a_X9_takeClosing_46 {p : Program} {l : Launch} {e : Env} {R : Room} {s : State} {m : MethodId} {args : Array Value} {below : List Frame} {meth : Method} {c : Code} {G : GT} {τ : Mem} {res : Int} {rec46 : Mem → Int → Int → Option (Int × Mem)} (X : CX p R s m args meth c cX9_takeClosing 3 RX9 (some FieldType.boolean) 2 81 G) (h46 : S_X9_takeClosing_46 rec46 p l e R s m args below meth c G τ res) : S_X9_takeClosing_46 (X9_takeClosing_B46 rec46) p l e R s m args below meth c G τ res := by
  intro σ H locs ls l1 l2 hP hS hf hl
  unfold X9_takeClosing_B46 at hf
  refine lv_iload_n X.1 X.2.1 dX9_takeClosing_46 rfl (lv_at hl 2 rfl) ?_
  refine lv_aload_n X.1 X.2.1 dX9_takeClosing_47 rfl (lv_at hl 0 rfl) ?_
  refine g_9_6 (r := 48) X hP ks_9 rfl (tb t_225 rfl) dX9_takeClosing_48 ?_
  refine lv_aload_n X.1 X.2.1 dX9_takeClosing_51 rfl (lv_at hl 0 rfl) ?_
  refine g_9_5 X hP ks_9 (tb t_224 rfl) dX9_takeClosing_52 ?_
  obtain ⟨j1, hij1, hjj1, hlj1, hf⟩ := ag_inv hf
  refine r_iald X hP (ch_9_6 ks_9).1 (ch_9_6 ks_9).2 hij1 hjj1 dX9_takeClosing_55 ?_
  refine r_icmp_ge (tgt := 70) X dX9_takeClosing_56 (by decide) (fun q => ?_) (fun q => ?_)
  · replace hf := it_inv q hf
    refine r_iconst X 1 dX9_takeClosing_70 ?_
    obtain ⟨rfl, rfl⟩ := so2_inv hf
    exact r_zret X hP hS (Or.inr rfl) dX9_takeClosing_71
  · replace hf := ie_inv q hf
    refine lv_aload_n X.1 X.2.1 dX9_takeClosing_59 rfl (lv_at hl 0 rfl) ?_
    refine lv_iload_n X.1 X.2.1 dX9_takeClosing_60 rfl (lv_at hl 1 rfl) ?_
    obtain ⟨s3, hr2, hf⟩ := bd_inv hf
    refine k_X9_repeatLast X hP hS hl.1  hr2 (tb t_612 rfl) (by decide) (Nat.le_of_ble_eq_true rfl) dX9_takeClosing_61 (fun H locs hP hS => ?_)
    obtain ⟨l2_4, el2_4, hf⟩ := lt_inv hf
    refine lv_iinc (v := i32 l2_4) (lv' := [(2, .int (i32 l2_4)), (0, .ref (gh G + 41)), (1, .int (i32 l1))]) X.1 X.2.1 dX9_takeClosing_64 hl (k := 2) rfl (by rw [← el2_4]; exact i32_add _ _) (by decide) rfl (fun ls hl => ?_)
    refine lv_goto (tgt := 46) X.1 X.2.1 dX9_takeClosing_67 (by decide) ?_
    exact h46 s3 H locs ls l1 l2_4 hP hS hf (lv_sub hl [1, 2, 0] rfl)
theorem al_X9_takeClosing_46 {p : Program} {l : Launch} {e : Env} {R : Room} {s : State} {m : MethodId} {args : Array Value} {below : List Frame} {meth : Method} {c : Code} {G : GT} {τ : Mem} {res : Int} (X : CX p R s m args meth c cX9_takeClosing 3 RX9 (some FieldType.boolean) 2 81 G) : ∀ n, S_X9_takeClosing_46 (X9_takeClosing_L46 n) p l e R s m args below meth c G τ res := by
  intro n
  induction n with
  | zero =>
    intro σ H locs ls l1 l2 hP hS hf hl
    cases hf
  | succ n ih => exact a_X9_takeClosing_46 X ih
set_option maxHeartbeats 4000000 in
theorem a_X9_takeClosing_0 {p : Program} {l : Launch} {e : Env} {R : Room} {s : State} {m : MethodId} {args : Array Value} {below : List Frame} {meth : Method} {c : Code} {G : GT} {τ : Mem} {res : Int} (X : CX p R s m args meth c cX9_takeClosing 3 RX9 (some FieldType.boolean) 2 81 G) : S_X9_takeClosing_0 (X9_takeClosing) p l e R s m args below meth c G τ res := by
  intro σ H locs ls hP hS hf hl
  unfold X9_takeClosing at hf
  refine lv_aload_n X.1 X.2.1 dX9_takeClosing_0 rfl (lv_at hl 0 rfl) ?_
  refine g_9_5 X hP ks_9 (tb t_224 rfl) dX9_takeClosing_1 ?_
  refine r_if_gt (tgt := 9) X dX9_takeClosing_4 (by decide) (fun q => ?_) (fun q => ?_)
  · replace hf := it_inv q hf
    refine lv_aload_n X.1 X.2.1 dX9_takeClosing_9 rfl (lv_at hl 0 rfl) ?_
    refine lv_dup X.1 X.2.1 dX9_takeClosing_10 rfl ?_
    refine g_9_1 X hP ks_9 (tb t_217 rfl) dX9_takeClosing_11 ?_
    refine r_iconst X 1 dX9_takeClosing_14 ?_
    refine r_iadd X dX9_takeClosing_15 ?_
    refine p_9_1 X hP hS ks_9 (tb t_217 rfl) dX9_takeClosing_16 (fun H locs hP hS => ?_)
    obtain ⟨s1, es1, hf⟩ := lt_inv hf
    rw [es1] at hP
    refine lv_aload_n X.1 X.2.1 dX9_takeClosing_19 rfl (lv_at hl 0 rfl) ?_
    refine lv_dup X.1 X.2.1 dX9_takeClosing_20 rfl ?_
    refine g_9_5 X hP ks_9 (tb t_224 rfl) dX9_takeClosing_21 ?_
    refine r_iconst X 1 dX9_takeClosing_24 ?_
    refine r_isub X dX9_takeClosing_25 ?_
    refine p_9_5 X hP hS ks_9 (tb t_224 rfl) dX9_takeClosing_26 (fun H locs hP hS => ?_)
    obtain ⟨s2, es2, hf⟩ := lt_inv hf
    rw [es2] at hP
    refine lv_aload_n X.1 X.2.1 dX9_takeClosing_29 rfl (lv_at hl 0 rfl) ?_
    refine g_9_3 X hP ks_9 (tb t_220 rfl) dX9_takeClosing_30 ?_
    refine lv_aload_n X.1 X.2.1 dX9_takeClosing_33 rfl (lv_at hl 0 rfl) ?_
    refine g_9_7 (r := 49) X hP ks_9 rfl (tb t_226 rfl) dX9_takeClosing_34 ?_
    refine lv_aload_n X.1 X.2.1 dX9_takeClosing_37 rfl (lv_at hl 0 rfl) ?_
    refine g_9_5 X hP ks_9 (tb t_224 rfl) dX9_takeClosing_38 ?_
    obtain ⟨j3, hij3, hjj3, hlj3, hf⟩ := ag_inv hf
    refine r_iald X hP (ch_9_7 ks_9).1 (ch_9_7 ks_9).2 hij3 hjj3 dX9_takeClosing_41 ?_
    refine r_isub X dX9_takeClosing_42 ?_
    obtain ⟨l1_4, el1_4, hf⟩ := lt_inv hf
    refine r_eqi el1_4 ?_
    refine lv_istore_n (lv' := [(1, .int (i32 l1_4)), (0, .ref (gh G + 41))]) X.1 X.2.1 dX9_takeClosing_43 rfl hl (by decide) rfl (fun ls hl => ?_)
    refine r_iconst X 1 dX9_takeClosing_44 ?_
    refine lv_istore_n (lv' := [(2, .int (i32 1)), (1, .int (i32 l1_4)), (0, .ref (gh G + 41))]) X.1 X.2.1 dX9_takeClosing_45 rfl hl (by decide) rfl (fun ls hl => ?_)
    exact al_X9_takeClosing_46 X 5000 s2 H locs ls l1_4 1 hP hS hf (lv_sub hl [2, 1, 0] rfl)
  · replace hf := ie_inv q hf
    refine r_iconst X 0 dX9_takeClosing_7 ?_
    obtain ⟨rfl, rfl⟩ := so2_inv hf
    exact r_zret X hP hS (Or.inl rfl) dX9_takeClosing_8
set_option maxHeartbeats 4000000 in
theorem c_X9_takeClosing {l : Launch} {G : GT} {σ τ : Mem} {res : Int} (hf : X9_takeClosing σ = some (res, τ)) : CT l yX9_takeClosing cX9_takeClosing 3 (some FieldType.boolean) 2 81 G [.ref (gh G + 41)] σ τ (some (.int (i32 res))) := by
  refine CT.mk (own := RX9) (by decide) rfl (Nat.le_of_ble_eq_true rfl) ?_
  intro p e s m below meth c ls X hP hS hl
  have hl : lv_has ls 3 [(0, .ref (gh G + 41))] := hl
  exact a_X9_takeClosing_0 X σ s.heap [] ls hP hS hf hl
theorem k_X9_takeClosing {p : Program} {l : Launch} {e : Env} {R : Room} {s : State} {m : MethodId} {args : Array Value} {below : List Frame} {meth : Method} {c : Code} {H : Heap} {locs : List Loc} {Q : State → Prop} {cc : ByteArray} {nL : Nat} {own : String} {ret : Option FieldType} {fF fL : Nat} {G : GT} {pc idx : Nat} {ls : Array Slot} {rest : List Value} {σ τ : Mem} {res : Int} (X : CX p R s m args meth c cc nL own ret fF fL G) (hP : PW G σ H) (hS : va_S (AA G) s.heap H locs) (hls : ls.size = nL) (hf : X9_takeClosing σ = some (res, τ)) (h1 : Cond.methodLink own idx yX9_takeClosing ∈ TB) (hR : 2 + 1 ≤ fF ∧ 8 + (3 + 11) + 81 ≤ fL) (hW : (rest.map fun v => v.category).sum ≤ 8) (hd : decode cc pc = .ok (.invokevirtual idx, 3)) (kk : ∀ (H1 : Heap) (locs1 : List Loc), PW G τ H1 → va_S (AA G) s.heap H1 locs1 → W p l e R s m args below meth c H1 locs1 0 0 Q (F0 m (pc + 3) ls (.int (i32 res) :: rest))) : W p l e R s m args below meth c H locs 0 0 Q (F0 m pc ls (.ref (gh G + 41) :: rest)) := r_callV (n := 0) X hP hS hls (c_X9_takeClosing hf) h1 (tb t_610 rfl) (tb t_18 rfl) (tb t_80 rfl) (tb t_611 rfl) (by decide +kernel) hR (r_recv X hP (kd_lt ks_9 (by decide)) (cE_9 ks_9) rfl) rfl rfl hW hd kk
/-! X8_startOf -/
theorem dX8_startOf_0 : decode cX8_startOf 0 = .ok (.aload_n 0, 1) := by decide +kernel
theorem dX8_startOf_1 : decode cX8_startOf 1 = .ok (.getfield 19, 3) := by decide +kernel
theorem dX8_startOf_4 : decode cX8_startOf 4 = .ok (.aload_n 0, 1) := by decide +kernel
theorem dX8_startOf_5 : decode cX8_startOf 5 = .ok (.iload_n 1, 1) := by decide +kernel
theorem dX8_startOf_6 : decode cX8_startOf 6 = .ok (.invokevirtual 36, 3) := by decide +kernel
theorem dX8_startOf_9 : decode cX8_startOf 9 = .ok (.iaload, 1) := by decide +kernel
theorem dX8_startOf_10 : decode cX8_startOf 10 = .ok (.ireturn, 1) := by decide +kernel
def X8_startOf (σ : Mem) (l1 : Int) : Option (Int) :=
  bd (X8_known σ l1) fun r1 =>
  ag 121 r1 fun j2 =>
  some (σ 45 j2)
def S_X8_startOf_0 (fn : Int → Option (Int)) (p : Program) (l : Launch) (e : Env) (R : Room) (s : State) (m : MethodId) (args : Array Value) (below : List Frame) (meth : Method) (c : Code) (G : GT) (σ : Mem) (res : Int) : Prop := ∀ (H : Heap) (locs : List Loc) (ls : Array Slot) (l1 : Int), PW G σ H → va_S (AA G) s.heap H locs → fn l1 = some res → lv_has ls 2 [(0, .ref (gh G + 42)), (1, .int (i32 l1))] → W p l e R s m args below meth c H locs 0 0 (MQ below (QM G (some (.int (i32 res))) σ) args s 0 0 (AA G)) (F0 m 0 ls [])
set_option maxHeartbeats 4000000 in
theorem a_X8_startOf_0 {p : Program} {l : Launch} {e : Env} {R : Room} {s : State} {m : MethodId} {args : Array Value} {below : List Frame} {meth : Method} {c : Code} {G : GT} {σ : Mem} {res : Int} (X : CX p R s m args meth c cX8_startOf 2 RX8 (some FieldType.int) 2 81 G) : S_X8_startOf_0 (X8_startOf σ) p l e R s m args below meth c G σ res := by
  intro H locs ls l1 hP hS hf hl
  unfold X8_startOf at hf
  refine lv_aload_n X.1 X.2.1 dX8_startOf_0 rfl (lv_at hl 0 rfl) ?_
  refine g_8_3 (r := 45) X hP ks_8 rfl (tb t_198 rfl) dX8_startOf_1 ?_
  refine lv_aload_n X.1 X.2.1 dX8_startOf_4 rfl (lv_at hl 0 rfl) ?_
  refine lv_iload_n X.1 X.2.1 dX8_startOf_5 rfl (lv_at hl 1 rfl) ?_
  obtain ⟨r1, hr1, hf⟩ := bd_inv hf
  refine k_X8_known X hP hS hl.1  hr1 (tb t_575 rfl) (by decide) (Nat.le_of_ble_eq_true rfl) dX8_startOf_6 (fun H locs hP hS => ?_)
  obtain ⟨j2, hij2, hjj2, hlj2, hf⟩ := ag_inv hf
  refine r_iald X hP (ch_8_3 ks_8).1 (ch_8_3 ks_8).2 hij2 hjj2 dX8_startOf_9 ?_
  cases so_inv hf
  exact r_iret X hP hS dX8_startOf_10
set_option maxHeartbeats 4000000 in
theorem c_X8_startOf {l : Launch} {G : GT} {σ : Mem} {res : Int} {l1 : Int} (hf : X8_startOf σ l1 = some res) : CT l yX8_startOf cX8_startOf 2 (some FieldType.int) 2 81 G [.ref (gh G + 42), .int (i32 l1)] σ σ (some (.int (i32 res))) := by
  refine CT.mk (own := RX8) (by decide) rfl (Nat.le_of_ble_eq_true rfl) ?_
  intro p e s m below meth c ls X hP hS hl
  have hl : lv_has ls 2 [(0, .ref (gh G + 42)), (1, .int (i32 l1))] := hl
  exact a_X8_startOf_0 X  s.heap [] ls l1 hP hS hf hl
theorem k_X8_startOf {p : Program} {l : Launch} {e : Env} {R : Room} {s : State} {m : MethodId} {args : Array Value} {below : List Frame} {meth : Method} {c : Code} {H : Heap} {locs : List Loc} {Q : State → Prop} {cc : ByteArray} {nL : Nat} {own : String} {ret : Option FieldType} {fF fL : Nat} {G : GT} {pc idx : Nat} {ls : Array Slot} {rest : List Value} {σ : Mem} {res : Int} {l1 : Int} (X : CX p R s m args meth c cc nL own ret fF fL G) (hP : PW G σ H) (hS : va_S (AA G) s.heap H locs) (hls : ls.size = nL) (hf : X8_startOf σ l1 = some res) (h1 : Cond.methodLink own idx yX8_startOf ∈ TB) (hR : 2 + 1 ≤ fF ∧ 8 + (2 + 11) + 81 ≤ fL) (hW : (rest.map fun v => v.category).sum ≤ 8) (hd : decode cc pc = .ok (.invokevirtual idx, 3)) (kk : ∀ (H1 : Heap) (locs1 : List Loc), PW G σ H1 → va_S (AA G) s.heap H1 locs1 → W p l e R s m args below meth c H1 locs1 0 0 Q (F0 m (pc + 3) ls (.int (i32 res) :: rest))) : W p l e R s m args below meth c H locs 0 0 Q (F0 m pc ls (.int (i32 l1) :: .ref (gh G + 42) :: rest)) := r_callV (n := 1) X hP hS hls (c_X8_startOf hf) h1 (tb t_620 rfl) (tb t_621 rfl) (tb t_81 rfl) (tb t_622 rfl) (by decide +kernel) hR (r_recv X hP (kd_lt ks_8 (by decide)) (cE_8 ks_8) rfl) rfl rfl hW hd kk
/-! X9_findFault -/
theorem dX9_findFault_0 : decode cX9_findFault 0 = .ok (.aload_n 0, 1) := by decide +kernel
theorem dX9_findFault_1 : decode cX9_findFault 1 = .ok (.getfield 12, 3) := by decide +kernel
theorem dX9_findFault_4 : decode cX9_findFault 4 = .ok (.invokevirtual 28, 3) := by decide +kernel
theorem dX9_findFault_7 : decode cX9_findFault 7 = .ok (.aload_n 0, 1) := by decide +kernel
theorem dX9_findFault_8 : decode cX9_findFault 8 = .ok (.iconst 0, 1) := by decide +kernel
theorem dX9_findFault_9 : decode cX9_findFault 9 = .ok (.putfield 31, 3) := by decide +kernel
theorem dX9_findFault_12 : decode cX9_findFault 12 = .ok (.aload_n 0, 1) := by decide +kernel
theorem dX9_findFault_13 : decode cX9_findFault 13 = .ok (.iconst 0, 1) := by decide +kernel
theorem dX9_findFault_14 : decode cX9_findFault 14 = .ok (.putfield 35, 3) := by decide +kernel
theorem dX9_findFault_17 : decode cX9_findFault 17 = .ok (.aload_n 0, 1) := by decide +kernel
theorem dX9_findFault_18 : decode cX9_findFault 18 = .ok (.iconst 0, 1) := by decide +kernel
theorem dX9_findFault_19 : decode cX9_findFault 19 = .ok (.putfield 38, 3) := by decide +kernel
theorem dX9_findFault_22 : decode cX9_findFault 22 = .ok (.aload_n 0, 1) := by decide +kernel
theorem dX9_findFault_23 : decode cX9_findFault 23 = .ok (.iconst 0, 1) := by decide +kernel
theorem dX9_findFault_24 : decode cX9_findFault 24 = .ok (.putfield 42, 3) := by decide +kernel
theorem dX9_findFault_27 : decode cX9_findFault 27 = .ok (.iconst 1, 1) := by decide +kernel
theorem dX9_findFault_28 : decode cX9_findFault 28 = .ok (.istore_n 1, 1) := by decide +kernel
theorem dX9_findFault_29 : decode cX9_findFault 29 = .ok (.iconst 0, 1) := by decide +kernel
theorem dX9_findFault_30 : decode cX9_findFault 30 = .ok (.istore_n 2, 1) := by decide +kernel
theorem dX9_findFault_31 : decode cX9_findFault 31 = .ok (.iload_n 2, 1) := by decide +kernel
theorem dX9_findFault_32 : decode cX9_findFault 32 = .ok (.bipush 120, 2) := by decide +kernel
theorem dX9_findFault_34 : decode cX9_findFault 34 = .ok (.if_icmp .gt 103, 3) := by decide +kernel
theorem dX9_findFault_37 : decode cX9_findFault 37 = .ok (.aload_n 0, 1) := by decide +kernel
theorem dX9_findFault_38 : decode cX9_findFault 38 = .ok (.getfield 12, 3) := by decide +kernel
theorem dX9_findFault_41 : decode cX9_findFault 41 = .ok (.aload_n 0, 1) := by decide +kernel
theorem dX9_findFault_42 : decode cX9_findFault 42 = .ok (.getfield 31, 3) := by decide +kernel
theorem dX9_findFault_45 : decode cX9_findFault 45 = .ok (.invokevirtual 45, 3) := by decide +kernel
theorem dX9_findFault_48 : decode cX9_findFault 48 = .ok (.istore_n 3, 1) := by decide +kernel
theorem dX9_findFault_49 : decode cX9_findFault 49 = .ok (.iload_n 3, 1) := by decide +kernel
theorem dX9_findFault_50 : decode cX9_findFault 50 = .ok (.ifCond .ne 16, 3) := by decide +kernel
theorem dX9_findFault_53 : decode cX9_findFault 53 = .ok (.aload_n 0, 1) := by decide +kernel
theorem dX9_findFault_54 : decode cX9_findFault 54 = .ok (.getfield 42, 3) := by decide +kernel
theorem dX9_findFault_57 : decode cX9_findFault 57 = .ok (.ifCond .ne 9, 3) := by decide +kernel
theorem dX9_findFault_60 : decode cX9_findFault 60 = .ok (.iload_n 1, 1) := by decide +kernel
theorem dX9_findFault_61 : decode cX9_findFault 61 = .ok (.ifCond .ne 5, 3) := by decide +kernel
theorem dX9_findFault_64 : decode cX9_findFault 64 = .ok (.iconst (-1), 1) := by decide +kernel
theorem dX9_findFault_65 : decode cX9_findFault 65 = .ok (.ireturn, 1) := by decide +kernel
theorem dX9_findFault_66 : decode cX9_findFault 66 = .ok (.iconst 0, 1) := by decide +kernel
theorem dX9_findFault_67 : decode cX9_findFault 67 = .ok (.istore 4, 2) := by decide +kernel
theorem dX9_findFault_69 : decode cX9_findFault 69 = .ok (.iload_n 3, 1) := by decide +kernel
theorem dX9_findFault_70 : decode cX9_findFault 70 = .ok (.iconst 2, 1) := by decide +kernel
theorem dX9_findFault_71 : decode cX9_findFault 71 = .ok (.if_icmp .ne 12, 3) := by decide +kernel
theorem dX9_findFault_74 : decode cX9_findFault 74 = .ok (.aload_n 0, 1) := by decide +kernel
theorem dX9_findFault_75 : decode cX9_findFault 75 = .ok (.invokevirtual 49, 3) := by decide +kernel
theorem dX9_findFault_78 : decode cX9_findFault 78 = .ok (.istore 4, 2) := by decide +kernel
theorem dX9_findFault_80 : decode cX9_findFault 80 = .ok (.goto 32, 3) := by decide +kernel
theorem dX9_findFault_83 : decode cX9_findFault 83 = .ok (.iload_n 3, 1) := by decide +kernel
theorem dX9_findFault_84 : decode cX9_findFault 84 = .ok (.iconst 1, 1) := by decide +kernel
theorem dX9_findFault_85 : decode cX9_findFault 85 = .ok (.if_icmp .ne 12, 3) := by decide +kernel
theorem dX9_findFault_88 : decode cX9_findFault 88 = .ok (.aload_n 0, 1) := by decide +kernel
theorem dX9_findFault_89 : decode cX9_findFault 89 = .ok (.invokevirtual 53, 3) := by decide +kernel
theorem dX9_findFault_92 : decode cX9_findFault 92 = .ok (.istore 4, 2) := by decide +kernel
theorem dX9_findFault_94 : decode cX9_findFault 94 = .ok (.goto 18, 3) := by decide +kernel
theorem dX9_findFault_97 : decode cX9_findFault 97 = .ok (.iload_n 3, 1) := by decide +kernel
theorem dX9_findFault_98 : decode cX9_findFault 98 = .ok (.iconst 4, 1) := by decide +kernel
theorem dX9_findFault_99 : decode cX9_findFault 99 = .ok (.if_icmp .ne 13, 3) := by decide +kernel
theorem dX9_findFault_102 : decode cX9_findFault 102 = .ok (.iload_n 1, 1) := by decide +kernel
theorem dX9_findFault_103 : decode cX9_findFault 103 = .ok (.ifCond .ne 9, 3) := by decide +kernel
theorem dX9_findFault_106 : decode cX9_findFault 106 = .ok (.aload_n 0, 1) := by decide +kernel
theorem dX9_findFault_107 : decode cX9_findFault 107 = .ok (.invokevirtual 56, 3) := by decide +kernel
theorem dX9_findFault_110 : decode cX9_findFault 110 = .ok (.istore 4, 2) := by decide +kernel
theorem dX9_findFault_112 : decode cX9_findFault 112 = .ok (.iload 4, 2) := by decide +kernel
theorem dX9_findFault_114 : decode cX9_findFault 114 = .ok (.ifCond .ne 6, 3) := by decide +kernel
theorem dX9_findFault_117 : decode cX9_findFault 117 = .ok (.goto 20, 3) := by decide +kernel
theorem dX9_findFault_120 : decode cX9_findFault 120 = .ok (.iload_n 3, 1) := by decide +kernel
theorem dX9_findFault_121 : decode cX9_findFault 121 = .ok (.iconst 2, 1) := by decide +kernel
theorem dX9_findFault_122 : decode cX9_findFault 122 = .ok (.if_icmp .ne 7, 3) := by decide +kernel
theorem dX9_findFault_125 : decode cX9_findFault 125 = .ok (.iconst 1, 1) := by decide +kernel
theorem dX9_findFault_126 : decode cX9_findFault 126 = .ok (.goto 4, 3) := by decide +kernel
theorem dX9_findFault_129 : decode cX9_findFault 129 = .ok (.iconst 0, 1) := by decide +kernel
theorem dX9_findFault_130 : decode cX9_findFault 130 = .ok (.istore_n 1, 1) := by decide +kernel
theorem dX9_findFault_131 : decode cX9_findFault 131 = .ok (.iinc 2 1, 3) := by decide +kernel
theorem dX9_findFault_134 : decode cX9_findFault 134 = .ok (.goto (-103), 3) := by decide +kernel
theorem dX9_findFault_137 : decode cX9_findFault 137 = .ok (.aload_n 0, 1) := by decide +kernel
theorem dX9_findFault_138 : decode cX9_findFault 138 = .ok (.getfield 12, 3) := by decide +kernel
theorem dX9_findFault_141 : decode cX9_findFault 141 = .ok (.aload_n 0, 1) := by decide +kernel
theorem dX9_findFault_142 : decode cX9_findFault 142 = .ok (.getfield 31, 3) := by decide +kernel
theorem dX9_findFault_145 : decode cX9_findFault 145 = .ok (.invokevirtual 59, 3) := by decide +kernel
theorem dX9_findFault_148 : decode cX9_findFault 148 = .ok (.ireturn, 1) := by decide +kernel
def S_X9_findFault_31 (fn : Mem → Int → Int → Option (Int × Mem)) (p : Program) (l : Launch) (e : Env) (R : Room) (s : State) (m : MethodId) (args : Array Value) (below : List Frame) (meth : Method) (c : Code) (G : GT) (τ : Mem) (res : Int) : Prop := ∀ (σ : Mem) (H : Heap) (locs : List Loc) (ls : Array Slot) (l1 : Int) (l2 : Int), PW G σ H → va_S (AA G) s.heap H locs → fn σ l1 l2 = some (res, τ) → lv_has ls 5 [(0, .ref (gh G + 41)), (1, .int (i32 l1)), (2, .int (i32 l2))] → W p l e R s m args below meth c H locs 0 0 (MQ below (QM G (some (.int (i32 res))) τ) args s 0 0 (AA G)) (F0 m 31 ls [])
def X9_findFault_B137 (σ : Mem) : Option (Int × Mem) :=
  bd (X8_startOf σ (σ 41 1)) fun r1 =>
  some (r1, σ)
def S_X9_findFault_137 (fn : Mem → Option (Int × Mem)) (p : Program) (l : Launch) (e : Env) (R : Room) (s : State) (m : MethodId) (args : Array Value) (below : List Frame) (meth : Method) (c : Code) (G : GT) (τ : Mem) (res : Int) : Prop := ∀ (σ : Mem) (H : Heap) (locs : List Loc) (ls : Array Slot), PW G σ H → va_S (AA G) s.heap H locs → fn σ = some (res, τ) → lv_has ls 5 [(0, .ref (gh G + 41))] → W p l e R s m args below meth c H locs 0 0 (MQ below (QM G (some (.int (i32 res))) τ) args s 0 0 (AA G)) (F0 m 137 ls [])
def X9_findFault_B130 (rec31 : Mem → Int → Int → Option (Int × Mem)) (σ : Mem) (l2 : Int) (k0 : Int) : Option (Int × Mem) :=
  lt (l2 + 1) fun l2_1 =>
  rec31 σ k0 l2_1
def S_X9_findFault_130 (fn : Mem → Int → Int → Option (Int × Mem)) (p : Program) (l : Launch) (e : Env) (R : Room) (s : State) (m : MethodId) (args : Array Value) (below : List Frame) (meth : Method) (c : Code) (G : GT) (τ : Mem) (res : Int) : Prop := ∀ (σ : Mem) (H : Heap) (locs : List Loc) (ls : Array Slot) (l2 : Int) (k0 : Int), PW G σ H → va_S (AA G) s.heap H locs → fn σ l2 k0 = some (res, τ) → lv_has ls 5 [(0, .ref (gh G + 41)), (2, .int (i32 l2))] → W p l e R s m args below meth c H locs 0 0 (MQ below (QM G (some (.int (i32 res))) τ) args s 0 0 (AA G)) (F0 m 130 ls [.int (i32 k0)])
def X9_findFault_B112 (rec31 : Mem → Int → Int → Option (Int × Mem)) (σ : Mem) (l2 : Int) (l3 : Int) (l4 : Int) : Option (Int × Mem) :=
  if w32 l4 ≠ 0 then
    if w32 l3 ≠ w32 2 then
      X9_findFault_B130 rec31 σ l2 0
    else
    X9_findFault_B130 rec31 σ l2 1
  else
  X9_findFault_B137 σ
def S_X9_findFault_112 (fn : Mem → Int → Int → Int → Option (Int × Mem)) (p : Program) (l : Launch) (e : Env) (R : Room) (s : State) (m : MethodId) (args : Array Value) (below : List Frame) (meth : Method) (c : Code) (G : GT) (τ : Mem) (res : Int) : Prop := ∀ (σ : Mem) (H : Heap) (locs : List Loc) (ls : Array Slot) (l2 : Int) (l3 : Int) (l4 : Int), PW G σ H → va_S (AA G) s.heap H locs → fn σ l2 l3 l4 = some (res, τ) → lv_has ls 5 [(0, .ref (gh G + 41)), (2, .int (i32 l2)), (3, .int (i32 l3)), (4, .int (i32 l4))] → W p l e R s m args below meth c H locs 0 0 (MQ below (QM G (some (.int (i32 res))) τ) args s 0 0 (AA G)) (F0 m 112 ls [])
def X9_findFault_B66 (rec31 : Mem → Int → Int → Option (Int × Mem)) (σ : Mem) (l1 : Int) (l2 : Int) (l3 : Int) : Option (Int × Mem) :=
  if w32 l3 ≠ w32 2 then
    if w32 l3 ≠ w32 1 then
      if w32 l3 ≠ w32 4 then
        X9_findFault_B112 rec31 σ l2 l3 0
      else
      if w32 l1 ≠ 0 then
        X9_findFault_B112 rec31 σ l2 l3 0
      else
      bd2 (X9_takeClosing σ) fun r1 s2 =>
      X9_findFault_B112 rec31 s2 l2 l3 r1
    else
    bd2 (X9_takeBar σ) fun r3 s4 =>
    X9_findFault_B112 rec31 s4 l2 l3 r3
  else
  bd2 (X9_takeOpening σ) fun r5 s6 =>
  X9_findFault_B112 rec31 s6 l2 l3 r5
def S_X9_findFault_66 (fn : Mem → Int → Int → Int → Option (Int × Mem)) (p : Program) (l : Launch) (e : Env) (R : Room) (s : State) (m : MethodId) (args : Array Value) (below : List Frame) (meth : Method) (c : Code) (G : GT) (τ : Mem) (res : Int) : Prop := ∀ (σ : Mem) (H : Heap) (locs : List Loc) (ls : Array Slot) (l1 : Int) (l2 : Int) (l3 : Int), PW G σ H → va_S (AA G) s.heap H locs → fn σ l1 l2 l3 = some (res, τ) → lv_has ls 5 [(0, .ref (gh G + 41)), (1, .int (i32 l1)), (2, .int (i32 l2)), (3, .int (i32 l3))] → W p l e R s m args below meth c H locs 0 0 (MQ below (QM G (some (.int (i32 res))) τ) args s 0 0 (AA G)) (F0 m 66 ls [])
def X9_findFault_B31 (rec31 : Mem → Int → Int → Option (Int × Mem)) (σ : Mem) (l1 : Int) (l2 : Int) : Option (Int × Mem) :=
  if w32 120 < w32 l2 then
    X9_findFault_B137 σ
  else
  bd (X8_kindOf σ (σ 41 1)) fun r1 =>
  if w32 r1 ≠ 0 then
    X9_findFault_B66 rec31 σ l1 l2 r1
  else
  if w32 (σ 41 5) ≠ 0 then
    X9_findFault_B66 rec31 σ l1 l2 r1
  else
  if w32 l1 ≠ 0 then
    X9_findFault_B66 rec31 σ l1 l2 r1
  else
  some ((-1), σ)
def X9_findFault_L31 : Nat → Mem → Int → Int → Option (Int × Mem)
  | 0 => fun _ _ _ => none
  | n + 1 => X9_findFault_B31 (X9_findFault_L31 n)
def X9_findFault (σ : Mem) : Option (Int × Mem) :=
  bd (X8_split σ) fun s2 =>
  lt (st s2 41 1 0) fun s3 =>
  lt (st s3 41 3 0) fun s4 =>
  lt (st s4 41 4 0) fun s5 =>
  lt (st s5 41 5 0) fun s6 =>
  X9_findFault_L31 5000 s6 1 0
def S_X9_findFault_0 (fn : Mem → Option (Int × Mem)) (p : Program) (l : Launch) (e : Env) (R : Room) (s : State) (m : MethodId) (args : Array Value) (below : List Frame) (meth : Method) (c : Code) (G : GT) (τ : Mem) (res : Int) : Prop := ∀ (σ : Mem) (H : Heap) (locs : List Loc) (ls : Array Slot), PW G σ H → va_S (AA G) s.heap H locs → fn σ = some (res, τ) → lv_has ls 5 [(0, .ref (gh G + 41))] → W p l e R s m args below meth c H locs 0 0 (MQ below (QM G (some (.int (i32 res))) τ) args s 0 0 (AA G)) (F0 m 0 ls [])
set_option maxHeartbeats 4000000 in
theorem a_X9_findFault_137 {p : Program} {l : Launch} {e : Env} {R : Room} {s : State} {m : MethodId} {args : Array Value} {below : List Frame} {meth : Method} {c : Code} {G : GT} {τ : Mem} {res : Int} (X : CX p R s m args meth c cX9_findFault 5 RX9 (some FieldType.int) 10 390 G) : S_X9_findFault_137 (X9_findFault_B137) p l e R s m args below meth c G τ res := by
  intro σ H locs ls hP hS hf hl
  unfold X9_findFault_B137 at hf
  refine lv_aload_n X.1 X.2.1 dX9_findFault_137 rfl (lv_at hl 0 rfl) ?_
  refine g_9_0 (r := 42) X hP ks_9 rfl (tb t_215 rfl) dX9_findFault_138 ?_
  refine lv_aload_n X.1 X.2.1 dX9_findFault_141 rfl (lv_at hl 0 rfl) ?_
  refine g_9_1 X hP ks_9 (tb t_217 rfl) dX9_findFault_142 ?_
  obtain ⟨r1, hr1, hf⟩ := bd_inv hf
  refine k_X8_startOf X hP hS hl.1  hr1 (tb t_619 rfl) (by decide) (Nat.le_of_ble_eq_true rfl) dX9_findFault_145 (fun H locs hP hS => ?_)
  obtain ⟨rfl, rfl⟩ := so2_inv hf
  exact r_iret X hP hS dX9_findFault_148
set_option maxHeartbeats 4000000 in
theorem a_X9_findFault_130 {p : Program} {l : Launch} {e : Env} {R : Room} {s : State} {m : MethodId} {args : Array Value} {below : List Frame} {meth : Method} {c : Code} {G : GT} {τ : Mem} {res : Int} {rec31 : Mem → Int → Int → Option (Int × Mem)} (X : CX p R s m args meth c cX9_findFault 5 RX9 (some FieldType.int) 10 390 G) (h31 : S_X9_findFault_31 rec31 p l e R s m args below meth c G τ res) : S_X9_findFault_130 (X9_findFault_B130 rec31) p l e R s m args below meth c G τ res := by
  intro σ H locs ls l2 k0 hP hS hf hl
  unfold X9_findFault_B130 at hf
  refine lv_istore_n (lv' := [(1, .int (i32 k0)), (0, .ref (gh G + 41)), (2, .int (i32 l2))]) X.1 X.2.1 dX9_findFault_130 rfl hl (by decide) rfl (fun ls hl => ?_)
  obtain ⟨l2_1, el2_1, hf⟩ := lt_inv hf
  refine lv_iinc (v := i32 l2_1) (lv' := [(2, .int (i32 l2_1)), (1, .int (i32 k0)), (0, .ref (gh G + 41))]) X.1 X.2.1 dX9_findFault_131 hl (k := 2) rfl (by rw [← el2_1]; exact i32_add _ _) (by decide) rfl (fun ls hl => ?_)
  refine lv_goto (tgt := 31) X.1 X.2.1 dX9_findFault_134 (by decide) ?_
  exact h31 σ H locs ls k0 l2_1 hP hS hf (lv_sub hl [2, 1, 0] rfl)
set_option maxHeartbeats 4000000 in
theorem a_X9_findFault_112 {p : Program} {l : Launch} {e : Env} {R : Room} {s : State} {m : MethodId} {args : Array Value} {below : List Frame} {meth : Method} {c : Code} {G : GT} {τ : Mem} {res : Int} {rec31 : Mem → Int → Int → Option (Int × Mem)} (X : CX p R s m args meth c cX9_findFault 5 RX9 (some FieldType.int) 10 390 G) (h31 : S_X9_findFault_31 rec31 p l e R s m args below meth c G τ res) : S_X9_findFault_112 (X9_findFault_B112 rec31) p l e R s m args below meth c G τ res := by
  intro σ H locs ls l2 l3 l4 hP hS hf hl
  unfold X9_findFault_B112 at hf
  refine lv_iload X.1 X.2.1 dX9_findFault_112 (lv_at hl 3 rfl) ?_
  refine r_if_ne (tgt := 120) X dX9_findFault_114 (by decide) (fun q => ?_) (fun q => ?_)
  · replace hf := it_inv q hf
    refine lv_iload_n X.1 X.2.1 dX9_findFault_120 rfl (lv_at hl 2 rfl) ?_
    refine r_iconst X 2 dX9_findFault_121 ?_
    refine r_icmp_ne (tgt := 129) X dX9_findFault_122 (by decide) (fun q => ?_) (fun q => ?_)
    · replace hf := it_inv q hf
      refine r_iconst X 0 dX9_findFault_129 ?_
      exact a_X9_findFault_130 X h31 σ H locs ls l2 0 hP hS hf (lv_sub hl [0, 1] rfl)
    · replace hf := ie_inv q hf
      refine r_iconst X 1 dX9_findFault_125 ?_
      refine lv_goto (tgt := 130) X.1 X.2.1 dX9_findFault_126 (by decide) ?_
      exact a_X9_findFault_130 X h31 σ H locs ls l2 1 hP hS hf (lv_sub hl [0, 1] rfl)
  · replace hf := ie_inv q hf
    refine lv_goto (tgt := 137) X.1 X.2.1 dX9_findFault_117 (by decide) ?_
    exact a_X9_findFault_137 X σ H locs ls  hP hS hf (lv_sub hl [0] rfl)
set_option maxHeartbeats 4000000 in
theorem a_X9_findFault_66 {p : Program} {l : Launch} {e : Env} {R : Room} {s : State} {m : MethodId} {args : Array Value} {below : List Frame} {meth : Method} {c : Code} {G : GT} {τ : Mem} {res : Int} {rec31 : Mem → Int → Int → Option (Int × Mem)} (X : CX p R s m args meth c cX9_findFault 5 RX9 (some FieldType.int) 10 390 G) (h31 : S_X9_findFault_31 rec31 p l e R s m args below meth c G τ res) : S_X9_findFault_66 (X9_findFault_B66 rec31) p l e R s m args below meth c G τ res := by
  intro σ H locs ls l1 l2 l3 hP hS hf hl
  unfold X9_findFault_B66 at hf
  refine r_iconst X 0 dX9_findFault_66 ?_
  refine lv_istore (lv' := [(4, .int (i32 0)), (0, .ref (gh G + 41)), (1, .int (i32 l1)), (2, .int (i32 l2)), (3, .int (i32 l3))]) X.1 X.2.1 dX9_findFault_67 hl (by decide) rfl (fun ls hl => ?_)
  refine lv_iload_n X.1 X.2.1 dX9_findFault_69 rfl (lv_at hl 4 rfl) ?_
  refine r_iconst X 2 dX9_findFault_70 ?_
  refine r_icmp_ne (tgt := 83) X dX9_findFault_71 (by decide) (fun q => ?_) (fun q => ?_)
  · replace hf := it_inv q hf
    refine lv_iload_n X.1 X.2.1 dX9_findFault_83 rfl (lv_at hl 4 rfl) ?_
    refine r_iconst X 1 dX9_findFault_84 ?_
    refine r_icmp_ne (tgt := 97) X dX9_findFault_85 (by decide) (fun q => ?_) (fun q => ?_)
    · replace hf := it_inv q hf
      refine lv_iload_n X.1 X.2.1 dX9_findFault_97 rfl (lv_at hl 4 rfl) ?_
      refine r_iconst X 4 dX9_findFault_98 ?_
      refine r_icmp_ne (tgt := 112) X dX9_findFault_99 (by decide) (fun q => ?_) (fun q => ?_)
      · replace hf := it_inv q hf
        exact a_X9_findFault_112 X h31 σ H locs ls l2 l3 0 hP hS hf (lv_sub hl [1, 3, 4, 0] rfl)
      · replace hf := ie_inv q hf
        refine lv_iload_n X.1 X.2.1 dX9_findFault_102 rfl (lv_at hl 2 rfl) ?_
        refine r_if_ne (tgt := 112) X dX9_findFault_103 (by decide) (fun q => ?_) (fun q => ?_)
        · replace hf := it_inv q hf
          exact a_X9_findFault_112 X h31 σ H locs ls l2 l3 0 hP hS hf (lv_sub hl [1, 3, 4, 0] rfl)
        · replace hf := ie_inv q hf
          refine lv_aload_n X.1 X.2.1 dX9_findFault_106 rfl (lv_at hl 1 rfl) ?_
          obtain ⟨r1, s2, hr1, hf⟩ := bd2_inv hf
          refine k_X9_takeClosing X hP hS hl.1  hr1 (tb t_608 rfl) (by decide) (Nat.le_of_ble_eq_true rfl) dX9_findFault_107 (fun H locs hP hS => ?_)
          refine lv_istore (lv' := [(4, .int (i32 r1)), (0, .ref (gh G + 41)), (1, .int (i32 l1)), (2, .int (i32 l2)), (3, .int (i32 l3))]) X.1 X.2.1 dX9_findFault_110 hl (by decide) rfl (fun ls hl => ?_)
          exact a_X9_findFault_112 X h31 s2 H locs ls l2 l3 r1 hP hS hf (lv_sub hl [1, 3, 4, 0] rfl)
    · replace hf := ie_inv q hf
      refine lv_aload_n X.1 X.2.1 dX9_findFault_88 rfl (lv_at hl 1 rfl) ?_
      obtain ⟨r3, s4, hr3, hf⟩ := bd2_inv hf
      refine k_X9_takeBar X hP hS hl.1  hr3 (tb t_592 rfl) (by decide) (Nat.le_of_ble_eq_true rfl) dX9_findFault_89 (fun H locs hP hS => ?_)
      refine lv_istore (lv' := [(4, .int (i32 r3)), (0, .ref (gh G + 41)), (1, .int (i32 l1)), (2, .int (i32 l2)), (3, .int (i32 l3))]) X.1 X.2.1 dX9_findFault_92 hl (by decide) rfl (fun ls hl => ?_)
      refine lv_goto (tgt := 112) X.1 X.2.1 dX9_findFault_94 (by decide) ?_
      exact a_X9_findFault_112 X h31 s4 H locs ls l2 l3 r3 hP hS hf (lv_sub hl [1, 3, 4, 0] rfl)
  · replace hf := ie_inv q hf
    refine lv_aload_n X.1 X.2.1 dX9_findFault_74 rfl (lv_at hl 1 rfl) ?_
    obtain ⟨r5, s6, hr5, hf⟩ := bd2_inv hf
    refine k_X9_takeOpening X hP hS hl.1  hr5 (tb t_579 rfl) (by decide) (Nat.le_of_ble_eq_true rfl) dX9_findFault_75 (fun H locs hP hS => ?_)
    refine lv_istore (lv' := [(4, .int (i32 r5)), (0, .ref (gh G + 41)), (1, .int (i32 l1)), (2, .int (i32 l2)), (3, .int (i32 l3))]) X.1 X.2.1 dX9_findFault_78 hl (by decide) rfl (fun ls hl => ?_)
    refine lv_goto (tgt := 112) X.1 X.2.1 dX9_findFault_80 (by decide) ?_
    exact a_X9_findFault_112 X h31 s6 H locs ls l2 l3 r5 hP hS hf (lv_sub hl [1, 3, 4, 0] rfl)
set_option maxHeartbeats 4000000 in
theorem a_X9_findFault_31 {p : Program} {l : Launch} {e : Env} {R : Room} {s : State} {m : MethodId} {args : Array Value} {below : List Frame} {meth : Method} {c : Code} {G : GT} {τ : Mem} {res : Int} {rec31 : Mem → Int → Int → Option (Int × Mem)} (X : CX p R s m args meth c cX9_findFault 5 RX9 (some FieldType.int) 10 390 G) (h31 : S_X9_findFault_31 rec31 p l e R s m args below meth c G τ res) : S_X9_findFault_31 (X9_findFault_B31 rec31) p l e R s m args below meth c G τ res := by
  intro σ H locs ls l1 l2 hP hS hf hl
  unfold X9_findFault_B31 at hf
  refine lv_iload_n X.1 X.2.1 dX9_findFault_31 rfl (lv_at hl 2 rfl) ?_
  refine r_bipush X 120 (by decide) dX9_findFault_32 ?_
  refine r_icmp_gt (tgt := 137) X dX9_findFault_34 (by decide) (fun q => ?_) (fun q => ?_)
  · replace hf := it_inv q hf
    exact a_X9_findFault_137 X σ H locs ls  hP hS hf (lv_sub hl [0] rfl)
  · replace hf := ie_inv q hf
    refine lv_aload_n X.1 X.2.1 dX9_findFault_37 rfl (lv_at hl 0 rfl) ?_
    refine g_9_0 (r := 42) X hP ks_9 rfl (tb t_215 rfl) dX9_findFault_38 ?_
    refine lv_aload_n X.1 X.2.1 dX9_findFault_41 rfl (lv_at hl 0 rfl) ?_
    refine g_9_1 X hP ks_9 (tb t_217 rfl) dX9_findFault_42 ?_
    obtain ⟨r1, hr1, hf⟩ := bd_inv hf
    refine k_X8_kindOf X hP hS hl.1  hr1 (tb t_571 rfl) (by decide) (Nat.le_of_ble_eq_true rfl) dX9_findFault_45 (fun H locs hP hS => ?_)
    refine lv_istore_n (lv' := [(3, .int (i32 r1)), (0, .ref (gh G + 41)), (1, .int (i32 l1)), (2, .int (i32 l2))]) X.1 X.2.1 dX9_findFault_48 rfl hl (by decide) rfl (fun ls hl => ?_)
    refine lv_iload_n X.1 X.2.1 dX9_findFault_49 rfl (lv_at hl 0 rfl) ?_
    refine r_if_ne (tgt := 66) X dX9_findFault_50 (by decide) (fun q => ?_) (fun q => ?_)
    · replace hf := it_inv q hf
      exact a_X9_findFault_66 X h31 σ H locs ls l1 l2 r1 hP hS hf (lv_sub hl [1, 2, 3, 0] rfl)
    · replace hf := ie_inv q hf
      refine lv_aload_n X.1 X.2.1 dX9_findFault_53 rfl (lv_at hl 1 rfl) ?_
      refine g_9_5 X hP ks_9 (tb t_224 rfl) dX9_findFault_54 ?_
      refine r_if_ne (tgt := 66) X dX9_findFault_57 (by decide) (fun q => ?_) (fun q => ?_)
      · replace hf := it_inv q hf
        exact a_X9_findFault_66 X h31 σ H locs ls l1 l2 r1 hP hS hf (lv_sub hl [1, 2, 3, 0] rfl)
      · replace hf := ie_inv q hf
        refine lv_iload_n X.1 X.2.1 dX9_findFault_60 rfl (lv_at hl 2 rfl) ?_
        refine r_if_ne (tgt := 66) X dX9_findFault_61 (by decide) (fun q => ?_) (fun q => ?_)
        · replace hf := it_inv q hf
          exact a_X9_findFault_66 X h31 σ H locs ls l1 l2 r1 hP hS hf (lv_sub hl [1, 2, 3, 0] rfl)
        · replace hf := ie_inv q hf
          refine r_iconst X (-1) dX9_findFault_64 ?_
          obtain ⟨rfl, rfl⟩ := so2_inv hf
          exact r_iret X hP hS dX9_findFault_65
theorem al_X9_findFault_31 {p : Program} {l : Launch} {e : Env} {R : Room} {s : State} {m : MethodId} {args : Array Value} {below : List Frame} {meth : Method} {c : Code} {G : GT} {τ : Mem} {res : Int} (X : CX p R s m args meth c cX9_findFault 5 RX9 (some FieldType.int) 10 390 G) : ∀ n, S_X9_findFault_31 (X9_findFault_L31 n) p l e R s m args below meth c G τ res := by
  intro n
  induction n with
  | zero =>
    intro σ H locs ls l1 l2 hP hS hf hl
    cases hf
  | succ n ih => exact a_X9_findFault_31 X ih
set_option maxHeartbeats 4000000 in
theorem a_X9_findFault_0 {p : Program} {l : Launch} {e : Env} {R : Room} {s : State} {m : MethodId} {args : Array Value} {below : List Frame} {meth : Method} {c : Code} {G : GT} {τ : Mem} {res : Int} (X : CX p R s m args meth c cX9_findFault 5 RX9 (some FieldType.int) 10 390 G) : S_X9_findFault_0 (X9_findFault) p l e R s m args below meth c G τ res := by
  intro σ H locs ls hP hS hf hl
  unfold X9_findFault at hf
  refine lv_aload_n X.1 X.2.1 dX9_findFault_0 rfl (lv_at hl 0 rfl) ?_
  refine g_9_0 (r := 42) X hP ks_9 rfl (tb t_215 rfl) dX9_findFault_1 ?_
  obtain ⟨s2, hr1, hf⟩ := bd_inv hf
  refine k_X8_split X hP hS hl.1  hr1 (tb t_481 rfl) (by decide) (Nat.le_of_ble_eq_true rfl) dX9_findFault_4 (fun H locs hP hS => ?_)
  refine lv_aload_n X.1 X.2.1 dX9_findFault_7 rfl (lv_at hl 0 rfl) ?_
  refine r_iconst X 0 dX9_findFault_8 ?_
  refine p_9_1 X hP hS ks_9 (tb t_217 rfl) dX9_findFault_9 (fun H locs hP hS => ?_)
  obtain ⟨s3, es3, hf⟩ := lt_inv hf
  rw [es3] at hP
  refine lv_aload_n X.1 X.2.1 dX9_findFault_12 rfl (lv_at hl 0 rfl) ?_
  refine r_iconst X 0 dX9_findFault_13 ?_
  refine p_9_3 X hP hS ks_9 (tb t_220 rfl) dX9_findFault_14 (fun H locs hP hS => ?_)
  obtain ⟨s4, es4, hf⟩ := lt_inv hf
  rw [es4] at hP
  refine lv_aload_n X.1 X.2.1 dX9_findFault_17 rfl (lv_at hl 0 rfl) ?_
  refine r_iconst X 0 dX9_findFault_18 ?_
  refine p_9_4 X hP hS (Or.inl rfl) ks_9 (tb t_222 rfl) dX9_findFault_19 (fun H locs hP hS => ?_)
  obtain ⟨s5, es5, hf⟩ := lt_inv hf
  rw [es5] at hP
  refine lv_aload_n X.1 X.2.1 dX9_findFault_22 rfl (lv_at hl 0 rfl) ?_
  refine r_iconst X 0 dX9_findFault_23 ?_
  refine p_9_5 X hP hS ks_9 (tb t_224 rfl) dX9_findFault_24 (fun H locs hP hS => ?_)
  obtain ⟨s6, es6, hf⟩ := lt_inv hf
  rw [es6] at hP
  refine r_iconst X 1 dX9_findFault_27 ?_
  refine lv_istore_n (lv' := [(1, .int (i32 1)), (0, .ref (gh G + 41))]) X.1 X.2.1 dX9_findFault_28 rfl hl (by decide) rfl (fun ls hl => ?_)
  refine r_iconst X 0 dX9_findFault_29 ?_
  refine lv_istore_n (lv' := [(2, .int (i32 0)), (1, .int (i32 1)), (0, .ref (gh G + 41))]) X.1 X.2.1 dX9_findFault_30 rfl hl (by decide) rfl (fun ls hl => ?_)
  exact al_X9_findFault_31 X 5000 s6 H locs ls 1 0 hP hS hf (lv_sub hl [2, 1, 0] rfl)
set_option maxHeartbeats 4000000 in
theorem c_X9_findFault {l : Launch} {G : GT} {σ τ : Mem} {res : Int} (hf : X9_findFault σ = some (res, τ)) : CT l yX9_findFault cX9_findFault 5 (some FieldType.int) 10 390 G [.ref (gh G + 41)] σ τ (some (.int (i32 res))) := by
  refine CT.mk (own := RX9) (by decide) rfl (Nat.le_of_ble_eq_true rfl) ?_
  intro p e s m below meth c ls X hP hS hl
  have hl : lv_has ls 5 [(0, .ref (gh G + 41))] := hl
  exact a_X9_findFault_0 X σ s.heap [] ls hP hS hf hl
theorem k_X9_findFault {p : Program} {l : Launch} {e : Env} {R : Room} {s : State} {m : MethodId} {args : Array Value} {below : List Frame} {meth : Method} {c : Code} {H : Heap} {locs : List Loc} {Q : State → Prop} {cc : ByteArray} {nL : Nat} {own : String} {ret : Option FieldType} {fF fL : Nat} {G : GT} {pc idx : Nat} {ls : Array Slot} {rest : List Value} {σ τ : Mem} {res : Int} (X : CX p R s m args meth c cc nL own ret fF fL G) (hP : PW G σ H) (hS : va_S (AA G) s.heap H locs) (hls : ls.size = nL) (hf : X9_findFault σ = some (res, τ)) (h1 : Cond.methodLink own idx yX9_findFault ∈ TB) (hR : 10 + 1 ≤ fF ∧ 8 + (5 + 11) + 390 ≤ fL) (hW : (rest.map fun v => v.category).sum ≤ 8) (hd : decode cc pc = .ok (.invokevirtual idx, 3)) (kk : ∀ (H1 : Heap) (locs1 : List Loc), PW G τ H1 → va_S (AA G) s.heap H1 locs1 → W p l e R s m args below meth c H1 locs1 0 0 Q (F0 m (pc + 3) ls (.int (i32 res) :: rest))) : W p l e R s m args below meth c H locs 0 0 Q (F0 m pc ls (.ref (gh G + 41) :: rest)) := r_callV (n := 0) X hP hS hls (c_X9_findFault hf) h1 (tb t_478 rfl) (tb t_479 rfl) (tb t_80 rfl) (tb t_480 rfl) (by decide +kernel) hR (r_recv X hP (kd_lt ks_9 (by decide)) (cE_9 ks_9) rfl) rfl rfl hW hd kk
/-! X5_append -/
theorem dX5_append_0 : decode cX5_append 0 = .ok (.iload_n 2, 1) := by decide +kernel
theorem dX5_append_1 : decode cX5_append 1 = .ok (.bipush 40, 2) := by decide +kernel
theorem dX5_append_3 : decode cX5_append 3 = .ok (.aload_n 0, 1) := by decide +kernel
theorem dX5_append_4 : decode cX5_append 4 = .ok (.getfield 18, 3) := by decide +kernel
theorem dX5_append_7 : decode cX5_append 7 = .ok (.isub, 1) := by decide +kernel
theorem dX5_append_8 : decode cX5_append 8 = .ok (.if_icmp .le 5, 3) := by decide +kernel
theorem dX5_append_11 : decode cX5_append 11 = .ok (.iconst 0, 1) := by decide +kernel
theorem dX5_append_12 : decode cX5_append 12 = .ok (.ireturn, 1) := by decide +kernel
theorem dX5_append_13 : decode cX5_append 13 = .ok (.aload_n 1, 1) := by decide +kernel
theorem dX5_append_14 : decode cX5_append 14 = .ok (.iconst 0, 1) := by decide +kernel
theorem dX5_append_15 : decode cX5_append 15 = .ok (.aload_n 0, 1) := by decide +kernel
theorem dX5_append_16 : decode cX5_append 16 = .ok (.getfield 15, 3) := by decide +kernel
theorem dX5_append_19 : decode cX5_append 19 = .ok (.aload_n 0, 1) := by decide +kernel
theorem dX5_append_20 : decode cX5_append 20 = .ok (.getfield 18, 3) := by decide +kernel
theorem dX5_append_23 : decode cX5_append 23 = .ok (.iconst 4, 1) := by decide +kernel
theorem dX5_append_24 : decode cX5_append 24 = .ok (.imul, 1) := by decide +kernel
theorem dX5_append_25 : decode cX5_append 25 = .ok (.iload_n 2, 1) := by decide +kernel
theorem dX5_append_26 : decode cX5_append 26 = .ok (.iconst 4, 1) := by decide +kernel
theorem dX5_append_27 : decode cX5_append 27 = .ok (.imul, 1) := by decide +kernel
theorem dX5_append_28 : decode cX5_append 28 = .ok (.invokestatic 22, 3) := by decide +kernel
theorem dX5_append_31 : decode cX5_append 31 = .ok (.aload_n 0, 1) := by decide +kernel
theorem dX5_append_32 : decode cX5_append 32 = .ok (.dup, 1) := by decide +kernel
theorem dX5_append_33 : decode cX5_append 33 = .ok (.getfield 18, 3) := by decide +kernel
theorem dX5_append_36 : decode cX5_append 36 = .ok (.iload_n 2, 1) := by decide +kernel
theorem dX5_append_37 : decode cX5_append 37 = .ok (.iadd, 1) := by decide +kernel
theorem dX5_append_38 : decode cX5_append 38 = .ok (.putfield 18, 3) := by decide +kernel
theorem dX5_append_41 : decode cX5_append 41 = .ok (.iconst 1, 1) := by decide +kernel
theorem dX5_append_42 : decode cX5_append 42 = .ok (.ireturn, 1) := by decide +kernel
def X5_append (σ : Mem) (l0 : Nat) (l1 : Nat) (l2 : Int) : Option (Int × Mem) :=
  if w32 l2 ≤ w32 (40 - (σ l0 2)) then
    ac (ln l1) 160 0 ((σ l0 2) * 4) (l2 * 4) <|
    lt (cpy σ l1 (w32 0).toNat (l0 + 2) (w32 ((σ l0 2) * 4)).toNat (w32 (l2 * 4)).toNat) fun s2 =>
    lt (st s2 l0 2 ((s2 l0 2) + l2)) fun s3 =>
    some (1, s3)
  else
  some (0, σ)
def S_X5_append_0 (fn : Mem → Nat → Nat → Int → Option (Int × Mem)) (p : Program) (l : Launch) (e : Env) (R : Room) (s : State) (m : MethodId) (args : Array Value) (below : List Frame) (meth : Method) (c : Code) (G : GT) (τ : Mem) (res : Int) : Prop := ∀ (σ : Mem) (H : Heap) (locs : List Loc) (ls : Array Slot) (l0 : Nat) (l1 : Nat) (l2 : Int), kd l0 = 5 → kd l1 = 13 → PW G σ H → va_S (AA G) s.heap H locs → fn σ l0 l1 l2 = some (res, τ) → lv_has ls 3 [(0, .ref (gh G + l0)), (1, .ref (gh G + l1)), (2, .int (i32 l2))] → W p l e R s m args below meth c H locs 0 0 (MQ below (QM G (some (.int (i32 res))) τ) args s 0 0 (AA G)) (F0 m 0 ls [])
set_option maxHeartbeats 4000000 in
theorem a_X5_append_0 {p : Program} {l : Launch} {e : Env} {R : Room} {s : State} {m : MethodId} {args : Array Value} {below : List Frame} {meth : Method} {c : Code} {G : GT} {τ : Mem} {res : Int} (X : CX p R s m args meth c cX5_append 3 RX5 (some FieldType.boolean) 1 60 G) : S_X5_append_0 (X5_append) p l e R s m args below meth c G τ res := by
  intro σ H locs ls l0 l1 l2 hk_l0 hk_l1 hP hS hf hl
  unfold X5_append at hf
  refine lv_iload_n X.1 X.2.1 dX5_append_0 rfl (lv_at hl 2 rfl) ?_
  refine r_bipush X 40 (by decide) dX5_append_1 ?_
  refine lv_aload_n X.1 X.2.1 dX5_append_3 rfl (lv_at hl 0 rfl) ?_
  refine g_5_2 X hP hk_l0 (tb t_156 rfl) dX5_append_4 ?_
  refine r_isub X dX5_append_7 ?_
  refine r_icmp_le (tgt := 13) X dX5_append_8 (by decide) (fun q => ?_) (fun q => ?_)
  · replace hf := it_inv q hf
    refine lv_aload_n X.1 X.2.1 dX5_append_13 rfl (lv_at hl 1 rfl) ?_
    refine r_iconst X 0 dX5_append_14 ?_
    refine lv_aload_n X.1 X.2.1 dX5_append_15 rfl (lv_at hl 0 rfl) ?_
    refine g_5_1 (r := l0 + 2) X hP hk_l0 rfl (tb t_154 rfl) dX5_append_16 ?_
    refine lv_aload_n X.1 X.2.1 dX5_append_19 rfl (lv_at hl 0 rfl) ?_
    refine g_5_2 X hP hk_l0 (tb t_156 rfl) dX5_append_20 ?_
    refine r_iconst X 4 dX5_append_23 ?_
    refine r_imul X dX5_append_24 ?_
    refine lv_iload_n X.1 X.2.1 dX5_append_25 rfl (lv_at hl 2 rfl) ?_
    refine r_iconst X 4 dX5_append_26 ?_
    refine r_imul X dX5_append_27 ?_
    obtain ⟨hc1, hf⟩ := ac_inv hf
    refine r_acopy X hl.1 hP hS (tb t_627 rfl) (tb t_618 rfl) (tb t_617 rfl) (tb t_93 rfl) (by decide) (Nat.le_of_ble_eq_true rfl) hk_l1 rfl (ch_5_1 hk_l0).1 (ch_5_1 hk_l0).2 hc1 dX5_append_28 (fun H locs hP hS => ?_)
    obtain ⟨s2, es2, hf⟩ := lt_inv hf
    rw [es2] at hP
    refine lv_aload_n X.1 X.2.1 dX5_append_31 rfl (lv_at hl 0 rfl) ?_
    refine lv_dup X.1 X.2.1 dX5_append_32 rfl ?_
    refine g_5_2 X hP hk_l0 (tb t_156 rfl) dX5_append_33 ?_
    refine lv_iload_n X.1 X.2.1 dX5_append_36 rfl (lv_at hl 2 rfl) ?_
    refine r_iadd X dX5_append_37 ?_
    refine p_5_2 X hP hS hk_l0 (tb t_156 rfl) dX5_append_38 (fun H locs hP hS => ?_)
    obtain ⟨s3, es3, hf⟩ := lt_inv hf
    rw [es3] at hP
    refine r_iconst X 1 dX5_append_41 ?_
    obtain ⟨rfl, rfl⟩ := so2_inv hf
    exact r_zret X hP hS (Or.inr rfl) dX5_append_42
  · replace hf := ie_inv q hf
    refine r_iconst X 0 dX5_append_11 ?_
    obtain ⟨rfl, rfl⟩ := so2_inv hf
    exact r_zret X hP hS (Or.inl rfl) dX5_append_12
set_option maxHeartbeats 4000000 in
theorem c_X5_append {l : Launch} {G : GT} {σ τ : Mem} {res : Int} {l0 : Nat} {l1 : Nat} {l2 : Int} (hk_l0 : kd l0 = 5) (hk_l1 : kd l1 = 13) (hf : X5_append σ l0 l1 l2 = some (res, τ)) : CT l yX5_append cX5_append 3 (some FieldType.boolean) 1 60 G [.ref (gh G + l0), .ref (gh G + l1), .int (i32 l2)] σ τ (some (.int (i32 res))) := by
  refine CT.mk (own := RX5) (by decide) rfl (Nat.le_of_ble_eq_true rfl) ?_
  intro p e s m below meth c ls X hP hS hl
  have hl : lv_has ls 3 [(0, .ref (gh G + l0)), (1, .ref (gh G + l1)), (2, .int (i32 l2))] := hl
  exact a_X5_append_0 X σ s.heap [] ls l0 l1 l2 hk_l0 hk_l1 hP hS hf hl
theorem k_X5_append {p : Program} {l : Launch} {e : Env} {R : Room} {s : State} {m : MethodId} {args : Array Value} {below : List Frame} {meth : Method} {c : Code} {H : Heap} {locs : List Loc} {Q : State → Prop} {cc : ByteArray} {nL : Nat} {own : String} {ret : Option FieldType} {fF fL : Nat} {G : GT} {pc idx : Nat} {ls : Array Slot} {rest : List Value} {σ τ : Mem} {res : Int} {l0 : Nat} {l1 : Nat} {l2 : Int} (X : CX p R s m args meth c cc nL own ret fF fL G) (hP : PW G σ H) (hS : va_S (AA G) s.heap H locs) (hls : ls.size = nL) (hk_l0 : kd l0 = 5) (hk_l1 : kd l1 = 13) (hf : X5_append σ l0 l1 l2 = some (res, τ)) (h1 : Cond.methodLink own idx yX5_append ∈ TB) (hR : 1 + 1 ≤ fF ∧ 8 + (3 + 11) + 60 ≤ fL) (hW : (rest.map fun v => v.category).sum ≤ 8) (hd : decode cc pc = .ok (.invokevirtual idx, 3)) (kk : ∀ (H1 : Heap) (locs1 : List Loc), PW G τ H1 → va_S (AA G) s.heap H1 locs1 → W p l e R s m args below meth c H1 locs1 0 0 Q (F0 m (pc + 3) ls (.int (i32 res) :: rest))) : W p l e R s m args below meth c H locs 0 0 Q (F0 m pc ls (.int (i32 l2) :: .ref (gh G + l1) :: .ref (gh G + l0) :: rest)) := r_callV (n := 2) X hP hS hls (c_X5_append hk_l0 hk_l1 hf) h1 (tb t_624 rfl) (tb t_625 rfl) (tb t_79 rfl) (tb t_626 rfl) (by decide +kernel) hR (r_recv X hP (kd_lt hk_l0 (by decide)) (cE_5 hk_l0) rfl) rfl rfl hW hd kk
/-! X10_read -/
theorem dX10_read_0 : decode cX10_read 0 = .ok (.iload_n 1, 1) := by decide +kernel
theorem dX10_read_1 : decode cX10_read 1 = .ok (.invokestatic 58, 3) := by decide +kernel
theorem dX10_read_4 : decode cX10_read 4 = .ok (.ifCond .ne 10, 3) := by decide +kernel
theorem dX10_read_7 : decode cX10_read 7 = .ok (.aload_n 0, 1) := by decide +kernel
theorem dX10_read_8 : decode cX10_read 8 = .ok (.ldc 72, 2) := by decide +kernel
theorem dX10_read_10 : decode cX10_read 10 = .ok (.invokevirtual 73, 3) := by decide +kernel
theorem dX10_read_13 : decode cX10_read 13 = .ok (.ireturn, 1) := by decide +kernel
theorem dX10_read_14 : decode cX10_read 14 = .ok (.aload_n 0, 1) := by decide +kernel
theorem dX10_read_15 : decode cX10_read 15 = .ok (.getfield 22, 3) := by decide +kernel
theorem dX10_read_18 : decode cX10_read 18 = .ok (.invokevirtual 119, 3) := by decide +kernel
theorem dX10_read_21 : decode cX10_read 21 = .ok (.istore_n 2, 1) := by decide +kernel
theorem dX10_read_22 : decode cX10_read 22 = .ok (.aload_n 0, 1) := by decide +kernel
theorem dX10_read_23 : decode cX10_read 23 = .ok (.getfield 22, 3) := by decide +kernel
theorem dX10_read_26 : decode cX10_read 26 = .ok (.getfield 101, 3) := by decide +kernel
theorem dX10_read_29 : decode cX10_read 29 = .ok (.iconst 0, 1) := by decide +kernel
theorem dX10_read_30 : decode cX10_read 30 = .ok (.putfield 115, 3) := by decide +kernel
theorem dX10_read_33 : decode cX10_read 33 = .ok (.iload_n 2, 1) := by decide +kernel
theorem dX10_read_34 : decode cX10_read 34 = .ok (.ifCond .lt 7, 3) := by decide +kernel
theorem dX10_read_37 : decode cX10_read 37 = .ok (.iconst (-1), 1) := by decide +kernel
theorem dX10_read_38 : decode cX10_read 38 = .ok (.iload_n 2, 1) := by decide +kernel
theorem dX10_read_39 : decode cX10_read 39 = .ok (.isub, 1) := by decide +kernel
theorem dX10_read_40 : decode cX10_read 40 = .ok (.ireturn, 1) := by decide +kernel
theorem dX10_read_41 : decode cX10_read 41 = .ok (.aload_n 0, 1) := by decide +kernel
theorem dX10_read_42 : decode cX10_read 42 = .ok (.getfield 10, 3) := by decide +kernel
theorem dX10_read_45 : decode cX10_read 45 = .ok (.getfield 77, 3) := by decide +kernel
theorem dX10_read_48 : decode cX10_read 48 = .ok (.iload_n 1, 1) := by decide +kernel
theorem dX10_read_49 : decode cX10_read 49 = .ok (.aaload, 1) := by decide +kernel
theorem dX10_read_50 : decode cX10_read 50 = .ok (.astore_n 3, 1) := by decide +kernel
theorem dX10_read_51 : decode cX10_read 51 = .ok (.aload_n 0, 1) := by decide +kernel
theorem dX10_read_52 : decode cX10_read 52 = .ok (.getfield 22, 3) := by decide +kernel
theorem dX10_read_55 : decode cX10_read 55 = .ok (.getfield 123, 3) := by decide +kernel
theorem dX10_read_58 : decode cX10_read 58 = .ok (.ifCond .ne 24, 3) := by decide +kernel
theorem dX10_read_61 : decode cX10_read 61 = .ok (.aload_n 3, 1) := by decide +kernel
theorem dX10_read_62 : decode cX10_read 62 = .ok (.aload_n 0, 1) := by decide +kernel
theorem dX10_read_63 : decode cX10_read 63 = .ok (.getfield 22, 3) := by decide +kernel
theorem dX10_read_66 : decode cX10_read 66 = .ok (.getfield 127, 3) := by decide +kernel
theorem dX10_read_69 : decode cX10_read 69 = .ok (.aload_n 0, 1) := by decide +kernel
theorem dX10_read_70 : decode cX10_read 70 = .ok (.getfield 22, 3) := by decide +kernel
theorem dX10_read_73 : decode cX10_read 73 = .ok (.getfield 130, 3) := by decide +kernel
theorem dX10_read_76 : decode cX10_read 76 = .ok (.invokevirtual 133, 3) := by decide +kernel
theorem dX10_read_79 : decode cX10_read 79 = .ok (.ifCond .ne 10, 3) := by decide +kernel
theorem dX10_read_82 : decode cX10_read 82 = .ok (.aload_n 0, 1) := by decide +kernel
theorem dX10_read_83 : decode cX10_read 83 = .ok (.ldc 110, 2) := by decide +kernel
theorem dX10_read_85 : decode cX10_read 85 = .ok (.invokevirtual 73, 3) := by decide +kernel
theorem dX10_read_88 : decode cX10_read 88 = .ok (.ireturn, 1) := by decide +kernel
theorem dX10_read_89 : decode cX10_read 89 = .ok (.aload_n 0, 1) := by decide +kernel
theorem dX10_read_90 : decode cX10_read 90 = .ok (.iload_n 1, 1) := by decide +kernel
theorem dX10_read_91 : decode cX10_read 91 = .ok (.invokevirtual 137, 3) := by decide +kernel
theorem dX10_read_94 : decode cX10_read 94 = .ok (.aload_n 3, 1) := by decide +kernel
theorem dX10_read_95 : decode cX10_read 95 = .ok (.getfield 140, 3) := by decide +kernel
theorem dX10_read_98 : decode cX10_read 98 = .ok (.ireturn, 1) := by decide +kernel
def X10_read_B82 (σ : Mem) : Option (Int × Mem) :=
  bd2 (X10_tell σ (-1000002)) fun r1 s2 =>
  some (r1, s2)
def S_X10_read_82 (fn : Mem → Option (Int × Mem)) (p : Program) (l : Launch) (e : Env) (R : Room) (s : State) (m : MethodId) (args : Array Value) (below : List Frame) (meth : Method) (c : Code) (G : GT) (τ : Mem) (res : Int) : Prop := ∀ (σ : Mem) (H : Heap) (locs : List Loc) (ls : Array Slot), PW G σ H → va_S (AA G) s.heap H locs → fn σ = some (res, τ) → lv_has ls 4 [(0, .ref (gh G + 0))] → W p l e R s m args below meth c H locs 0 0 (MQ below (QM G (some (.int (i32 res))) τ) args s 0 0 (AA G)) (F0 m 82 ls [])
def X10_read (σ : Mem) (l1 : Int) : Option (Int × Mem) :=
  bd (X10_isPart σ l1) fun r1 =>
  if w32 r1 ≠ 0 then
    bd2 (X9_findFault σ) fun r2 s3 =>
    lt (st s3 42 1 0) fun s4 =>
    if w32 r2 < 0 then
      ag 4 l1 fun j5 =>
      if w32 (s4 41 4) ≠ 0 then
        X10_read_B82 s4
      else
      bd2 (X5_append s4 (9 + 3 * j5) 47 (s4 41 3)) fun r6 s7 =>
      if w32 r6 ≠ 0 then
        bd (X10_forgetPart s7 l1) fun s9 =>
        some (s9 (9 + 3 * j5) 2, s9)
      else
      X10_read_B82 s7
    else
    some ((-1) - r2, s4)
  else
  bd2 (X10_tell σ (-1000001)) fun r10 s11 =>
  some (r10, s11)
def S_X10_read_0 (fn : Mem → Int → Option (Int × Mem)) (p : Program) (l : Launch) (e : Env) (R : Room) (s : State) (m : MethodId) (args : Array Value) (below : List Frame) (meth : Method) (c : Code) (G : GT) (τ : Mem) (res : Int) : Prop := ∀ (σ : Mem) (H : Heap) (locs : List Loc) (ls : Array Slot) (l1 : Int), PW G σ H → va_S (AA G) s.heap H locs → fn σ l1 = some (res, τ) → lv_has ls 4 [(0, .ref (gh G + 0)), (1, .int (i32 l1))] → W p l e R s m args below meth c H locs 0 0 (MQ below (QM G (some (.int (i32 res))) τ) args s 0 0 (AA G)) (F0 m 0 ls [])
set_option maxHeartbeats 4000000 in
theorem a_X10_read_82 {p : Program} {l : Launch} {e : Env} {R : Room} {s : State} {m : MethodId} {args : Array Value} {below : List Frame} {meth : Method} {c : Code} {G : GT} {τ : Mem} {res : Int} (X : CX p R s m args meth c cX10_read 4 RX10 (some FieldType.int) 11 414 G) : S_X10_read_82 (X10_read_B82) p l e R s m args below meth c G τ res := by
  intro σ H locs ls hP hS hf hl
  unfold X10_read_B82 at hf
  refine lv_aload_n X.1 X.2.1 dX10_read_82 rfl (lv_at hl 0 rfl) ?_
  refine r_ldc X (-1000002) (tb t_463 rfl) (by decide) dX10_read_83 ?_
  obtain ⟨r1, s2, hr1, hf⟩ := bd2_inv hf
  refine k_X10_tell X hP hS hl.1  hr1 (tb t_431 rfl) (by decide) (Nat.le_of_ble_eq_true rfl) dX10_read_85 (fun H locs hP hS => ?_)
  obtain ⟨rfl, rfl⟩ := so2_inv hf
  exact r_iret X hP hS dX10_read_88
set_option maxHeartbeats 4000000 in
theorem a_X10_read_0 {p : Program} {l : Launch} {e : Env} {R : Room} {s : State} {m : MethodId} {args : Array Value} {below : List Frame} {meth : Method} {c : Code} {G : GT} {τ : Mem} {res : Int} (X : CX p R s m args meth c cX10_read 4 RX10 (some FieldType.int) 11 414 G) : S_X10_read_0 (X10_read) p l e R s m args below meth c G τ res := by
  intro σ H locs ls l1 hP hS hf hl
  unfold X10_read at hf
  refine lv_iload_n X.1 X.2.1 dX10_read_0 rfl (lv_at hl 1 rfl) ?_
  obtain ⟨r1, hr1, hf⟩ := bd_inv hf
  refine k_X10_isPart X hP hS hl.1  hr1 (tb t_420 rfl) (by decide) (Nat.le_of_ble_eq_true rfl) dX10_read_1 (fun H locs hP hS => ?_)
  refine r_if_ne (tgt := 14) X dX10_read_4 (by decide) (fun q => ?_) (fun q => ?_)
  · replace hf := it_inv q hf
    refine lv_aload_n X.1 X.2.1 dX10_read_14 rfl (lv_at hl 0 rfl) ?_
    refine g_10_3 (r := 41) X hP ks_10 rfl (tb t_391 rfl) dX10_read_15 ?_
    obtain ⟨r2, s3, hr2, hf⟩ := bd2_inv hf
    refine k_X9_findFault X hP hS hl.1  hr2 (tb t_477 rfl) (by decide) (Nat.le_of_ble_eq_true rfl) dX10_read_18 (fun H locs hP hS => ?_)
    refine lv_istore_n (lv' := [(2, .int (i32 r2)), (0, .ref (gh G + 0)), (1, .int (i32 l1))]) X.1 X.2.1 dX10_read_21 rfl hl (by decide) rfl (fun ls hl => ?_)
    refine lv_aload_n X.1 X.2.1 dX10_read_22 rfl (lv_at hl 1 rfl) ?_
    refine g_10_3 (r := 41) X hP ks_10 rfl (tb t_391 rfl) dX10_read_23 ?_
    refine g_9_0 (r := 42) X hP ks_9 rfl (tb t_216 rfl) dX10_read_26 ?_
    refine r_iconst X 0 dX10_read_29 ?_
    refine p_8_1 X hP hS ks_8 (tb t_196 rfl) dX10_read_30 (fun H locs hP hS => ?_)
    obtain ⟨s4, es4, hf⟩ := lt_inv hf
    rw [es4] at hP
    refine lv_iload_n X.1 X.2.1 dX10_read_33 rfl (lv_at hl 0 rfl) ?_
    refine r_if_lt (tgt := 41) X dX10_read_34 (by decide) (fun q => ?_) (fun q => ?_)
    · replace hf := it_inv q hf
      refine lv_aload_n X.1 X.2.1 dX10_read_41 rfl (lv_at hl 1 rfl) ?_
      refine g_10_0 (r := 1) X hP ks_10 rfl (tb t_388 rfl) dX10_read_42 ?_
      refine g_7_0 (r := 2) X hP (ch_10_0 ks_10).1 rfl (tb t_170 rfl) dX10_read_45 ?_
      refine lv_iload_n X.1 X.2.1 dX10_read_48 rfl (lv_at hl 2 rfl) ?_
      obtain ⟨j5, hij5, hjj5, hlj5, hf⟩ := ag_inv hf
      refine r_aald18 (r := 9 + 3 * j5) X hP (ch_7_0 (ch_10_0 ks_10).1).1 (ch_7_0 (ch_10_0 ks_10).1).2 hij5 hjj5 rfl dX10_read_49 ?_
      refine lv_astore_n (lv' := [(3, .ref (gh G + (9 + 3 * j5))), (2, .int (i32 r2)), (0, .ref (gh G + 0)), (1, .int (i32 l1))]) X.1 X.2.1 dX10_read_50 rfl hl (by decide) rfl (fun ls hl => ?_)
      refine lv_aload_n X.1 X.2.1 dX10_read_51 rfl (lv_at hl 2 rfl) ?_
      refine g_10_3 (r := 41) X hP ks_10 rfl (tb t_391 rfl) dX10_read_52 ?_
      refine g_9_4 X hP ks_9 (tb t_223 rfl) dX10_read_55 ?_
      refine r_if_ne (tgt := 82) X dX10_read_58 (by decide) (fun q => ?_) (fun q => ?_)
      · replace hf := it_inv q hf
        exact a_X10_read_82 X s4 H locs ls  hP hS hf (lv_sub hl [2] rfl)
      · replace hf := ie_inv q hf
        refine lv_aload_n X.1 X.2.1 dX10_read_61 rfl (lv_at hl 0 rfl) ?_
        refine lv_aload_n X.1 X.2.1 dX10_read_62 rfl (lv_at hl 2 rfl) ?_
        refine g_10_3 (r := 41) X hP ks_10 rfl (tb t_391 rfl) dX10_read_63 ?_
        refine g_9_2 (r := 47) X hP ks_9 rfl (tb t_219 rfl) dX10_read_66 ?_
        refine lv_aload_n X.1 X.2.1 dX10_read_69 rfl (lv_at hl 2 rfl) ?_
        refine g_10_3 (r := 41) X hP ks_10 rfl (tb t_391 rfl) dX10_read_70 ?_
        refine g_9_3 X hP ks_9 (tb t_221 rfl) dX10_read_73 ?_
        obtain ⟨r6, s7, hr6, hf⟩ := bd2_inv hf
        refine k_X5_append X hP hS hl.1 ((ch_18 (ch_7_0 (ch_10_0 ks_10).1).1).2 j5 hlj5) (ch_9_2 ks_9).1 hr6 (tb t_623 rfl) (by decide) (Nat.le_of_ble_eq_true rfl) dX10_read_76 (fun H locs hP hS => ?_)
        refine r_if_ne (tgt := 89) X dX10_read_79 (by decide) (fun q => ?_) (fun q => ?_)
        · replace hf := it_inv q hf
          refine lv_aload_n X.1 X.2.1 dX10_read_89 rfl (lv_at hl 2 rfl) ?_
          refine lv_iload_n X.1 X.2.1 dX10_read_90 rfl (lv_at hl 3 rfl) ?_
          obtain ⟨s9, hr8, hf⟩ := bd_inv hf
          refine k_X10_forgetPart X hP hS hl.1  hr8 (tb t_451 rfl) (by decide) (Nat.le_of_ble_eq_true rfl) dX10_read_91 (fun H locs hP hS => ?_)
          refine lv_aload_n X.1 X.2.1 dX10_read_94 rfl (lv_at hl 0 rfl) ?_
          refine g_5_2 X hP ((ch_18 (ch_7_0 (ch_10_0 ks_10).1).1).2 j5 hlj5) (tb t_160 rfl) dX10_read_95 ?_
          obtain ⟨rfl, rfl⟩ := so2_inv hf
          exact r_iret X hP hS dX10_read_98
        · replace hf := ie_inv q hf
          exact a_X10_read_82 X s7 H locs ls  hP hS hf (lv_sub hl [2] rfl)
    · replace hf := ie_inv q hf
      refine r_iconst X (-1) dX10_read_37 ?_
      refine lv_iload_n X.1 X.2.1 dX10_read_38 rfl (lv_at hl 0 rfl) ?_
      refine r_isub X dX10_read_39 ?_
      obtain ⟨rfl, rfl⟩ := so2_inv hf
      exact r_iret X hP hS dX10_read_40
  · replace hf := ie_inv q hf
    refine lv_aload_n X.1 X.2.1 dX10_read_7 rfl (lv_at hl 0 rfl) ?_
    refine r_ldc X (-1000001) (tb t_430 rfl) (by decide) dX10_read_8 ?_
    obtain ⟨r10, s11, hr10, hf⟩ := bd2_inv hf
    refine k_X10_tell X hP hS hl.1  hr10 (tb t_431 rfl) (by decide) (Nat.le_of_ble_eq_true rfl) dX10_read_10 (fun H locs hP hS => ?_)
    obtain ⟨rfl, rfl⟩ := so2_inv hf
    exact r_iret X hP hS dX10_read_13
set_option maxHeartbeats 4000000 in
theorem c_X10_read {l : Launch} {G : GT} {σ τ : Mem} {res : Int} {l1 : Int} (hf : X10_read σ l1 = some (res, τ)) : CT l yX10_read cX10_read 4 (some FieldType.int) 11 414 G [.ref (gh G + 0), .int (i32 l1)] σ τ (some (.int (i32 res))) := by
  refine CT.mk (own := RX10) (by decide) rfl (Nat.le_of_ble_eq_true rfl) ?_
  intro p e s m below meth c ls X hP hS hl
  have hl : lv_has ls 4 [(0, .ref (gh G + 0)), (1, .int (i32 l1))] := hl
  exact a_X10_read_0 X σ s.heap [] ls l1 hP hS hf hl
theorem k_X10_read {p : Program} {l : Launch} {e : Env} {R : Room} {s : State} {m : MethodId} {args : Array Value} {below : List Frame} {meth : Method} {c : Code} {H : Heap} {locs : List Loc} {Q : State → Prop} {cc : ByteArray} {nL : Nat} {own : String} {ret : Option FieldType} {fF fL : Nat} {G : GT} {pc idx : Nat} {ls : Array Slot} {rest : List Value} {σ τ : Mem} {res : Int} {l1 : Int} (X : CX p R s m args meth c cc nL own ret fF fL G) (hP : PW G σ H) (hS : va_S (AA G) s.heap H locs) (hls : ls.size = nL) (hf : X10_read σ l1 = some (res, τ)) (h1 : Cond.methodLink own idx yX10_read ∈ TB) (hR : 11 + 1 ≤ fF ∧ 8 + (4 + 11) + 414 ≤ fL) (hW : (rest.map fun v => v.category).sum ≤ 8) (hd : decode cc pc = .ok (.invokevirtual idx, 3)) (kk : ∀ (H1 : Heap) (locs1 : List Loc), PW G τ H1 → va_S (AA G) s.heap H1 locs1 → W p l e R s m args below meth c H1 locs1 0 0 Q (F0 m (pc + 3) ls (.int (i32 res) :: rest))) : W p l e R s m args below meth c H locs 0 0 Q (F0 m pc ls (.int (i32 l1) :: .ref (gh G + 0) :: rest)) := r_callV (n := 1) X hP hS hls (c_X10_read hf) h1 (tb t_474 rfl) (tb t_475 rfl) (tb t_75 rfl) (tb t_476 rfl) (by decide +kernel) hR (r_recv X hP (kd_lt ks_10 (by decide)) (cE_10 ks_10) rfl) rfl rfl hW hd kk
/-! X10_room -/
theorem dX10_room_0 : decode cX10_room 0 = .ok (.aload_n 0, 1) := by decide +kernel
theorem dX10_room_1 : decode cX10_room 1 = .ok (.iload_n 1, 1) := by decide +kernel
theorem dX10_room_2 : decode cX10_room 2 = .ok (.iload_n 2, 1) := by decide +kernel
theorem dX10_room_3 : decode cX10_room 3 = .ok (.invokevirtual 141, 3) := by decide +kernel
theorem dX10_room_6 : decode cX10_room 6 = .ok (.ifCond .eq 10, 3) := by decide +kernel
theorem dX10_room_9 : decode cX10_room 9 = .ok (.iload_n 3, 1) := by decide +kernel
theorem dX10_room_10 : decode cX10_room 10 = .ok (.invokestatic 169, 3) := by decide +kernel
theorem dX10_room_13 : decode cX10_room 13 = .ok (.ifCond .ne 10, 3) := by decide +kernel
theorem dX10_room_16 : decode cX10_room 16 = .ok (.aload_n 0, 1) := by decide +kernel
theorem dX10_room_17 : decode cX10_room 17 = .ok (.ldc 72, 2) := by decide +kernel
theorem dX10_room_19 : decode cX10_room 19 = .ok (.invokevirtual 73, 3) := by decide +kernel
theorem dX10_room_22 : decode cX10_room 22 = .ok (.ireturn, 1) := by decide +kernel
theorem dX10_room_23 : decode cX10_room 23 = .ok (.aload_n 0, 1) := by decide +kernel
theorem dX10_room_24 : decode cX10_room 24 = .ok (.getfield 10, 3) := by decide +kernel
theorem dX10_room_27 : decode cX10_room 27 = .ok (.getfield 77, 3) := by decide +kernel
theorem dX10_room_30 : decode cX10_room 30 = .ok (.iload_n 1, 1) := by decide +kernel
theorem dX10_room_31 : decode cX10_room 31 = .ok (.aaload, 1) := by decide +kernel
theorem dX10_room_32 : decode cX10_room 32 = .ok (.iload_n 2, 1) := by decide +kernel
theorem dX10_room_33 : decode cX10_room 33 = .ok (.iload_n 3, 1) := by decide +kernel
theorem dX10_room_34 : decode cX10_room 34 = .ok (.invokevirtual 172, 3) := by decide +kernel
theorem dX10_room_37 : decode cX10_room 37 = .ok (.ireturn, 1) := by decide +kernel
def X10_room_B16 (σ : Mem) : Option (Int × Mem) :=
  bd2 (X10_tell σ (-1000001)) fun r1 s2 =>
  some (r1, s2)
def S_X10_room_16 (fn : Mem → Option (Int × Mem)) (p : Program) (l : Launch) (e : Env) (R : Room) (s : State) (m : MethodId) (args : Array Value) (below : List Frame) (meth : Method) (c : Code) (G : GT) (τ : Mem) (res : Int) : Prop := ∀ (σ : Mem) (H : Heap) (locs : List Loc) (ls : Array Slot), PW G σ H → va_S (AA G) s.heap H locs → fn σ = some (res, τ) → lv_has ls 4 [(0, .ref (gh G + 0))] → W p l e R s m args below meth c H locs 0 0 (MQ below (QM G (some (.int (i32 res))) τ) args s 0 0 (AA G)) (F0 m 16 ls [])
def X10_room (σ : Mem) (l1 : Int) (l2 : Int) (l3 : Int) : Option (Int × Mem) :=
  bd (X10_isBar σ l1 l2) fun r1 =>
  if w32 r1 = 0 then
    X10_room_B16 σ
  else
  bd (X10_isSize σ l3) fun r2 =>
  if w32 r2 ≠ 0 then
    ag 4 l1 fun j3 =>
    bd (X5_roomAt σ (9 + 3 * j3) l2 l3) fun r4 =>
    some (r4, σ)
  else
  X10_room_B16 σ
def S_X10_room_0 (fn : Mem → Int → Int → Int → Option (Int × Mem)) (p : Program) (l : Launch) (e : Env) (R : Room) (s : State) (m : MethodId) (args : Array Value) (below : List Frame) (meth : Method) (c : Code) (G : GT) (τ : Mem) (res : Int) : Prop := ∀ (σ : Mem) (H : Heap) (locs : List Loc) (ls : Array Slot) (l1 : Int) (l2 : Int) (l3 : Int), PW G σ H → va_S (AA G) s.heap H locs → fn σ l1 l2 l3 = some (res, τ) → lv_has ls 4 [(0, .ref (gh G + 0)), (1, .int (i32 l1)), (2, .int (i32 l2)), (3, .int (i32 l3))] → W p l e R s m args below meth c H locs 0 0 (MQ below (QM G (some (.int (i32 res))) τ) args s 0 0 (AA G)) (F0 m 0 ls [])
set_option maxHeartbeats 4000000 in
theorem a_X10_room_16 {p : Program} {l : Launch} {e : Env} {R : Room} {s : State} {m : MethodId} {args : Array Value} {below : List Frame} {meth : Method} {c : Code} {G : GT} {τ : Mem} {res : Int} (X : CX p R s m args meth c cX10_room 4 RX10 (some FieldType.int) 4 124 G) : S_X10_room_16 (X10_room_B16) p l e R s m args below meth c G τ res := by
  intro σ H locs ls hP hS hf hl
  unfold X10_room_B16 at hf
  refine lv_aload_n X.1 X.2.1 dX10_room_16 rfl (lv_at hl 0 rfl) ?_
  refine r_ldc X (-1000001) (tb t_430 rfl) (by decide) dX10_room_17 ?_
  obtain ⟨r1, s2, hr1, hf⟩ := bd2_inv hf
  refine k_X10_tell X hP hS hl.1  hr1 (tb t_431 rfl) (by decide) (Nat.le_of_ble_eq_true rfl) dX10_room_19 (fun H locs hP hS => ?_)
  obtain ⟨rfl, rfl⟩ := so2_inv hf
  exact r_iret X hP hS dX10_room_22
set_option maxHeartbeats 4000000 in
theorem a_X10_room_0 {p : Program} {l : Launch} {e : Env} {R : Room} {s : State} {m : MethodId} {args : Array Value} {below : List Frame} {meth : Method} {c : Code} {G : GT} {τ : Mem} {res : Int} (X : CX p R s m args meth c cX10_room 4 RX10 (some FieldType.int) 4 124 G) : S_X10_room_0 (X10_room) p l e R s m args below meth c G τ res := by
  intro σ H locs ls l1 l2 l3 hP hS hf hl
  unfold X10_room at hf
  refine lv_aload_n X.1 X.2.1 dX10_room_0 rfl (lv_at hl 0 rfl) ?_
  refine lv_iload_n X.1 X.2.1 dX10_room_1 rfl (lv_at hl 1 rfl) ?_
  refine lv_iload_n X.1 X.2.1 dX10_room_2 rfl (lv_at hl 2 rfl) ?_
  obtain ⟨r1, hr1, hf⟩ := bd_inv hf
  refine k_X10_isBar X hP hS hl.1  hr1 (tb t_632 rfl) (by decide) (Nat.le_of_ble_eq_true rfl) dX10_room_3 (fun H locs hP hS => ?_)
  refine r_if_eq (tgt := 16) X dX10_room_6 (by decide) (fun q => ?_) (fun q => ?_)
  · replace hf := it_inv q hf
    exact a_X10_room_16 X σ H locs ls  hP hS hf (lv_sub hl [0] rfl)
  · replace hf := ie_inv q hf
    refine lv_iload_n X.1 X.2.1 dX10_room_9 rfl (lv_at hl 3 rfl) ?_
    obtain ⟨r2, hr2, hf⟩ := bd_inv hf
    refine k_X10_isSize X hP hS hl.1  hr2 (tb t_686 rfl) (by decide) (Nat.le_of_ble_eq_true rfl) dX10_room_10 (fun H locs hP hS => ?_)
    refine r_if_ne (tgt := 23) X dX10_room_13 (by decide) (fun q => ?_) (fun q => ?_)
    · replace hf := it_inv q hf
      refine lv_aload_n X.1 X.2.1 dX10_room_23 rfl (lv_at hl 0 rfl) ?_
      refine g_10_0 (r := 1) X hP ks_10 rfl (tb t_388 rfl) dX10_room_24 ?_
      refine g_7_0 (r := 2) X hP (ch_10_0 ks_10).1 rfl (tb t_170 rfl) dX10_room_27 ?_
      refine lv_iload_n X.1 X.2.1 dX10_room_30 rfl (lv_at hl 1 rfl) ?_
      obtain ⟨j3, hij3, hjj3, hlj3, hf⟩ := ag_inv hf
      refine r_aald18 (r := 9 + 3 * j3) X hP (ch_7_0 (ch_10_0 ks_10).1).1 (ch_7_0 (ch_10_0 ks_10).1).2 hij3 hjj3 rfl dX10_room_31 ?_
      refine lv_iload_n X.1 X.2.1 dX10_room_32 rfl (lv_at hl 2 rfl) ?_
      refine lv_iload_n X.1 X.2.1 dX10_room_33 rfl (lv_at hl 3 rfl) ?_
      obtain ⟨r4, hr4, hf⟩ := bd_inv hf
      refine k_X5_roomAt X hP hS hl.1 ((ch_18 (ch_7_0 (ch_10_0 ks_10).1).1).2 j3 hlj3) hr4 (tb t_689 rfl) (by decide) (Nat.le_of_ble_eq_true rfl) dX10_room_34 (fun H locs hP hS => ?_)
      obtain ⟨rfl, rfl⟩ := so2_inv hf
      exact r_iret X hP hS dX10_room_37
    · replace hf := ie_inv q hf
      exact a_X10_room_16 X σ H locs ls  hP hS hf (lv_sub hl [0] rfl)
set_option maxHeartbeats 4000000 in
theorem c_X10_room {l : Launch} {G : GT} {σ τ : Mem} {res : Int} {l1 : Int} {l2 : Int} {l3 : Int} (hf : X10_room σ l1 l2 l3 = some (res, τ)) : CT l yX10_room cX10_room 4 (some FieldType.int) 4 124 G [.ref (gh G + 0), .int (i32 l1), .int (i32 l2), .int (i32 l3)] σ τ (some (.int (i32 res))) := by
  refine CT.mk (own := RX10) (by decide) rfl (Nat.le_of_ble_eq_true rfl) ?_
  intro p e s m below meth c ls X hP hS hl
  have hl : lv_has ls 4 [(0, .ref (gh G + 0)), (1, .int (i32 l1)), (2, .int (i32 l2)), (3, .int (i32 l3))] := hl
  exact a_X10_room_0 X σ s.heap [] ls l1 l2 l3 hP hS hf hl
theorem k_X10_room {p : Program} {l : Launch} {e : Env} {R : Room} {s : State} {m : MethodId} {args : Array Value} {below : List Frame} {meth : Method} {c : Code} {H : Heap} {locs : List Loc} {Q : State → Prop} {cc : ByteArray} {nL : Nat} {own : String} {ret : Option FieldType} {fF fL : Nat} {G : GT} {pc idx : Nat} {ls : Array Slot} {rest : List Value} {σ τ : Mem} {res : Int} {l1 : Int} {l2 : Int} {l3 : Int} (X : CX p R s m args meth c cc nL own ret fF fL G) (hP : PW G σ H) (hS : va_S (AA G) s.heap H locs) (hls : ls.size = nL) (hf : X10_room σ l1 l2 l3 = some (res, τ)) (h1 : Cond.methodLink own idx yX10_room ∈ TB) (hR : 4 + 1 ≤ fF ∧ 8 + (4 + 11) + 124 ≤ fL) (hW : (rest.map fun v => v.category).sum ≤ 8) (hd : decode cc pc = .ok (.invokevirtual idx, 3)) (kk : ∀ (H1 : Heap) (locs1 : List Loc), PW G τ H1 → va_S (AA G) s.heap H1 locs1 → W p l e R s m args below meth c H1 locs1 0 0 Q (F0 m (pc + 3) ls (.int (i32 res) :: rest))) : W p l e R s m args below meth c H locs 0 0 Q (F0 m pc ls (.int (i32 l3) :: .int (i32 l2) :: .int (i32 l1) :: .ref (gh G + 0) :: rest)) := r_callV (n := 3) X hP hS hls (c_X10_room hf) h1 (tb t_683 rfl) (tb t_684 rfl) (tb t_75 rfl) (tb t_685 rfl) (by decide +kernel) hR (r_recv X hP (kd_lt ks_10 (by decide)) (cE_10 ks_10) rfl) rfl rfl hW hd kk
/-! X10_rooms -/
theorem dX10_rooms_0 : decode cX10_rooms 0 = .ok (.iload_n 1, 1) := by decide +kernel
theorem dX10_rooms_1 : decode cX10_rooms 1 = .ok (.invokestatic 300, 3) := by decide +kernel
theorem dX10_rooms_4 : decode cX10_rooms 4 = .ok (.ifCond .ne 10, 3) := by decide +kernel
theorem dX10_rooms_7 : decode cX10_rooms 7 = .ok (.aload_n 0, 1) := by decide +kernel
theorem dX10_rooms_8 : decode cX10_rooms 8 = .ok (.ldc 72, 2) := by decide +kernel
theorem dX10_rooms_10 : decode cX10_rooms 10 = .ok (.invokevirtual 73, 3) := by decide +kernel
theorem dX10_rooms_13 : decode cX10_rooms 13 = .ok (.ireturn, 1) := by decide +kernel
theorem dX10_rooms_14 : decode cX10_rooms 14 = .ok (.aload_n 0, 1) := by decide +kernel
theorem dX10_rooms_15 : decode cX10_rooms 15 = .ok (.getfield 28, 3) := by decide +kernel
theorem dX10_rooms_18 : decode cX10_rooms 18 = .ok (.iload_n 1, 1) := by decide +kernel
theorem dX10_rooms_19 : decode cX10_rooms 19 = .ok (.aaload, 1) := by decide +kernel
theorem dX10_rooms_20 : decode cX10_rooms 20 = .ok (.invokevirtual 307, 3) := by decide +kernel
theorem dX10_rooms_23 : decode cX10_rooms 23 = .ok (.ifCond .eq 11, 3) := by decide +kernel
theorem dX10_rooms_26 : decode cX10_rooms 26 = .ok (.aload_n 0, 1) := by decide +kernel
theorem dX10_rooms_27 : decode cX10_rooms 27 = .ok (.ldc_w 296, 3) := by decide +kernel
theorem dX10_rooms_30 : decode cX10_rooms 30 = .ok (.invokevirtual 73, 3) := by decide +kernel
theorem dX10_rooms_33 : decode cX10_rooms 33 = .ok (.ireturn, 1) := by decide +kernel
theorem dX10_rooms_34 : decode cX10_rooms 34 = .ok (.iload_n 2, 1) := by decide +kernel
theorem dX10_rooms_35 : decode cX10_rooms 35 = .ok (.invokestatic 58, 3) := by decide +kernel
theorem dX10_rooms_38 : decode cX10_rooms 38 = .ok (.ifCond .ne 10, 3) := by decide +kernel
theorem dX10_rooms_41 : decode cX10_rooms 41 = .ok (.aload_n 0, 1) := by decide +kernel
theorem dX10_rooms_42 : decode cX10_rooms 42 = .ok (.ldc 72, 2) := by decide +kernel
theorem dX10_rooms_44 : decode cX10_rooms 44 = .ok (.invokevirtual 73, 3) := by decide +kernel
theorem dX10_rooms_47 : decode cX10_rooms 47 = .ok (.ireturn, 1) := by decide +kernel
theorem dX10_rooms_48 : decode cX10_rooms 48 = .ok (.aload_n 0, 1) := by decide +kernel
theorem dX10_rooms_49 : decode cX10_rooms 49 = .ok (.getfield 10, 3) := by decide +kernel
theorem dX10_rooms_52 : decode cX10_rooms 52 = .ok (.getfield 77, 3) := by decide +kernel
theorem dX10_rooms_55 : decode cX10_rooms 55 = .ok (.iload_n 2, 1) := by decide +kernel
theorem dX10_rooms_56 : decode cX10_rooms 56 = .ok (.aaload, 1) := by decide +kernel
theorem dX10_rooms_57 : decode cX10_rooms 57 = .ok (.astore_n 3, 1) := by decide +kernel
theorem dX10_rooms_58 : decode cX10_rooms 58 = .ok (.iconst 0, 1) := by decide +kernel
theorem dX10_rooms_59 : decode cX10_rooms 59 = .ok (.istore 4, 2) := by decide +kernel
theorem dX10_rooms_61 : decode cX10_rooms 61 = .ok (.iconst 0, 1) := by decide +kernel
theorem dX10_rooms_62 : decode cX10_rooms 62 = .ok (.istore 5, 2) := by decide +kernel
theorem dX10_rooms_64 : decode cX10_rooms 64 = .ok (.iload 5, 2) := by decide +kernel
theorem dX10_rooms_66 : decode cX10_rooms 66 = .ok (.aload_n 0, 1) := by decide +kernel
theorem dX10_rooms_67 : decode cX10_rooms 67 = .ok (.getfield 28, 3) := by decide +kernel
theorem dX10_rooms_70 : decode cX10_rooms 70 = .ok (.iload_n 1, 1) := by decide +kernel
theorem dX10_rooms_71 : decode cX10_rooms 71 = .ok (.aaload, 1) := by decide +kernel
theorem dX10_rooms_72 : decode cX10_rooms 72 = .ok (.getfield 327, 3) := by decide +kernel
theorem dX10_rooms_75 : decode cX10_rooms 75 = .ok (.if_icmp .ge 55, 3) := by decide +kernel
theorem dX10_rooms_78 : decode cX10_rooms 78 = .ok (.aload_n 3, 1) := by decide +kernel
theorem dX10_rooms_79 : decode cX10_rooms 79 = .ok (.iload 5, 2) := by decide +kernel
theorem dX10_rooms_81 : decode cX10_rooms 81 = .ok (.invokevirtual 328, 3) := by decide +kernel
theorem dX10_rooms_84 : decode cX10_rooms 84 = .ok (.ifCond .eq 46, 3) := by decide +kernel
theorem dX10_rooms_87 : decode cX10_rooms 87 = .ok (.aload_n 0, 1) := by decide +kernel
theorem dX10_rooms_88 : decode cX10_rooms 88 = .ok (.getfield 28, 3) := by decide +kernel
theorem dX10_rooms_91 : decode cX10_rooms 91 = .ok (.iload_n 1, 1) := by decide +kernel
theorem dX10_rooms_92 : decode cX10_rooms 92 = .ok (.aaload, 1) := by decide +kernel
theorem dX10_rooms_93 : decode cX10_rooms 93 = .ok (.getfield 318, 3) := by decide +kernel
theorem dX10_rooms_96 : decode cX10_rooms 96 = .ok (.iload 5, 2) := by decide +kernel
theorem dX10_rooms_98 : decode cX10_rooms 98 = .ok (.iaload, 1) := by decide +kernel
theorem dX10_rooms_99 : decode cX10_rooms 99 = .ok (.istore 6, 2) := by decide +kernel
theorem dX10_rooms_101 : decode cX10_rooms 101 = .ok (.iload 6, 2) := by decide +kernel
theorem dX10_rooms_103 : decode cX10_rooms 103 = .ok (.iconst 1, 1) := by decide +kernel
theorem dX10_rooms_104 : decode cX10_rooms 104 = .ok (.bipush 60, 2) := by decide +kernel
theorem dX10_rooms_106 : decode cX10_rooms 106 = .ok (.invokestatic 62, 3) := by decide +kernel
theorem dX10_rooms_109 : decode cX10_rooms 109 = .ok (.ifCond .eq 15, 3) := by decide +kernel
theorem dX10_rooms_112 : decode cX10_rooms 112 = .ok (.aload_n 3, 1) := by decide +kernel
theorem dX10_rooms_113 : decode cX10_rooms 113 = .ok (.iload 5, 2) := by decide +kernel
theorem dX10_rooms_115 : decode cX10_rooms 115 = .ok (.iconst 0, 1) := by decide +kernel
theorem dX10_rooms_116 : decode cX10_rooms 116 = .ok (.iload 6, 2) := by decide +kernel
theorem dX10_rooms_118 : decode cX10_rooms 118 = .ok (.invokevirtual 149, 3) := by decide +kernel
theorem dX10_rooms_121 : decode cX10_rooms 121 = .ok (.iinc 4 1, 3) := by decide +kernel
theorem dX10_rooms_124 : decode cX10_rooms 124 = .ok (.iinc 5 1, 3) := by decide +kernel
theorem dX10_rooms_127 : decode cX10_rooms 127 = .ok (.goto (-63), 3) := by decide +kernel
theorem dX10_rooms_130 : decode cX10_rooms 130 = .ok (.aload_n 0, 1) := by decide +kernel
theorem dX10_rooms_131 : decode cX10_rooms 131 = .ok (.iload_n 2, 1) := by decide +kernel
theorem dX10_rooms_132 : decode cX10_rooms 132 = .ok (.invokevirtual 137, 3) := by decide +kernel
theorem dX10_rooms_135 : decode cX10_rooms 135 = .ok (.iload 4, 2) := by decide +kernel
theorem dX10_rooms_137 : decode cX10_rooms 137 = .ok (.ireturn, 1) := by decide +kernel
def S_X10_rooms_64 (fn : Mem → Int → Int → Nat → Int → Int → Option (Int × Mem)) (p : Program) (l : Launch) (e : Env) (R : Room) (s : State) (m : MethodId) (args : Array Value) (below : List Frame) (meth : Method) (c : Code) (G : GT) (τ : Mem) (res : Int) : Prop := ∀ (σ : Mem) (H : Heap) (locs : List Loc) (ls : Array Slot) (l1 : Int) (l2 : Int) (l3 : Nat) (l4 : Int) (l5 : Int), kd l3 = 5 → PW G σ H → va_S (AA G) s.heap H locs → fn σ l1 l2 l3 l4 l5 = some (res, τ) → lv_has ls 7 [(0, .ref (gh G + 0)), (1, .int (i32 l1)), (2, .int (i32 l2)), (3, .ref (gh G + l3)), (4, .int (i32 l4)), (5, .int (i32 l5))] → W p l e R s m args below meth c H locs 0 0 (MQ below (QM G (some (.int (i32 res))) τ) args s 0 0 (AA G)) (F0 m 64 ls [])
def X10_rooms_B130 (σ : Mem) (l2 : Int) (l4 : Int) : Option (Int × Mem) :=
  bd (X10_forgetPart σ l2) fun s2 =>
  some (l4, s2)
def S_X10_rooms_130 (fn : Mem → Int → Int → Option (Int × Mem)) (p : Program) (l : Launch) (e : Env) (R : Room) (s : State) (m : MethodId) (args : Array Value) (below : List Frame) (meth : Method) (c : Code) (G : GT) (τ : Mem) (res : Int) : Prop := ∀ (σ : Mem) (H : Heap) (locs : List Loc) (ls : Array Slot) (l2 : Int) (l4 : Int), PW G σ H → va_S (AA G) s.heap H locs → fn σ l2 l4 = some (res, τ) → lv_has ls 7 [(0, .ref (gh G + 0)), (2, .int (i32 l2)), (4, .int (i32 l4))] → W p l e R s m args below meth c H locs 0 0 (MQ below (QM G (some (.int (i32 res))) τ) args s 0 0 (AA G)) (F0 m 130 ls [])
def X10_rooms_B124 (rec64 : Mem → Int → Int → Nat → Int → Int → Option (Int × Mem)) (σ : Mem) (l1 : Int) (l2 : Int) (l3 : Nat) (l4 : Int) (l5 : Int) : Option (Int × Mem) :=
  lt (l5 + 1) fun l5_1 =>
  rec64 σ l1 l2 l3 l4 l5_1
def S_X10_rooms_124 (fn : Mem → Int → Int → Nat → Int → Int → Option (Int × Mem)) (p : Program) (l : Launch) (e : Env) (R : Room) (s : State) (m : MethodId) (args : Array Value) (below : List Frame) (meth : Method) (c : Code) (G : GT) (τ : Mem) (res : Int) : Prop := ∀ (σ : Mem) (H : Heap) (locs : List Loc) (ls : Array Slot) (l1 : Int) (l2 : Int) (l3 : Nat) (l4 : Int) (l5 : Int), kd l3 = 5 → PW G σ H → va_S (AA G) s.heap H locs → fn σ l1 l2 l3 l4 l5 = some (res, τ) → lv_has ls 7 [(0, .ref (gh G + 0)), (1, .int (i32 l1)), (2, .int (i32 l2)), (3, .ref (gh G + l3)), (4, .int (i32 l4)), (5, .int (i32 l5))] → W p l e R s m args below meth c H locs 0 0 (MQ below (QM G (some (.int (i32 res))) τ) args s 0 0 (AA G)) (F0 m 124 ls [])
def X10_rooms_B64 (rec64 : Mem → Int → Int → Nat → Int → Int → Option (Int × Mem)) (σ : Mem) (l1 : Int) (l2 : Int) (l3 : Nat) (l4 : Int) (l5 : Int) : Option (Int × Mem) :=
  ag 4 l1 fun j1 =>
  if w32 (σ (63 + 2 * j1) 2) ≤ w32 l5 then
    X10_rooms_B130 σ l2 l4
  else
  bd (X5_has σ l3 l5) fun r2 =>
  if w32 r2 = 0 then
    X10_rooms_B130 σ l2 l4
  else
  ag 4 l1 fun j3 =>
  ag 40 l5 fun j4 =>
  lt (σ (63 + 2 * j3 + 1) j4) fun l6_5 =>
  bd (X10_within σ l6_5 1 60) fun r6 =>
  if w32 r6 = 0 then
    X10_rooms_B124 rec64 σ l1 l2 l3 l4 l5
  else
  bd (X5_put σ l3 l5 0 l6_5) fun s8 =>
  lt (l4 + 1) fun l4_9 =>
  X10_rooms_B124 rec64 s8 l1 l2 l3 l4_9 l5
def X10_rooms_L64 : Nat → Mem → Int → Int → Nat → Int → Int → Option (Int × Mem)
  | 0 => fun _ _ _ _ _ _ => none
  | n + 1 => X10_rooms_B64 (X10_rooms_L64 n)
def X10_rooms (σ : Mem) (l1 : Int) (l2 : Int) : Option (Int × Mem) :=
  bd (X10_isSheet σ l1) fun r1 =>
  if w32 r1 ≠ 0 then
    ag 4 l1 fun j2 =>
    bd (X6_isMissing σ (63 + 2 * j2)) fun r3 =>
    if w32 r3 = 0 then
      bd (X10_isPart σ l2) fun r4 =>
      if w32 r4 ≠ 0 then
        ag 4 l2 fun j5 =>
        X10_rooms_L64 5000 σ l1 l2 (9 + 3 * j5) 0 0
      else
      bd2 (X10_tell σ (-1000001)) fun r6 s7 =>
      some (r6, s7)
    else
    bd2 (X10_tell σ (-1000006)) fun r8 s9 =>
    some (r8, s9)
  else
  bd2 (X10_tell σ (-1000001)) fun r10 s11 =>
  some (r10, s11)
def S_X10_rooms_0 (fn : Mem → Int → Int → Option (Int × Mem)) (p : Program) (l : Launch) (e : Env) (R : Room) (s : State) (m : MethodId) (args : Array Value) (below : List Frame) (meth : Method) (c : Code) (G : GT) (τ : Mem) (res : Int) : Prop := ∀ (σ : Mem) (H : Heap) (locs : List Loc) (ls : Array Slot) (l1 : Int) (l2 : Int), PW G σ H → va_S (AA G) s.heap H locs → fn σ l1 l2 = some (res, τ) → lv_has ls 7 [(0, .ref (gh G + 0)), (1, .int (i32 l1)), (2, .int (i32 l2))] → W p l e R s m args below meth c H locs 0 0 (MQ below (QM G (some (.int (i32 res))) τ) args s 0 0 (AA G)) (F0 m 0 ls [])
set_option maxHeartbeats 4000000 in
theorem a_X10_rooms_130 {p : Program} {l : Launch} {e : Env} {R : Room} {s : State} {m : MethodId} {args : Array Value} {below : List Frame} {meth : Method} {c : Code} {G : GT} {τ : Mem} {res : Int} (X : CX p R s m args meth c cX10_rooms 7 RX10 (some FieldType.int) 3 104 G) : S_X10_rooms_130 (X10_rooms_B130) p l e R s m args below meth c G τ res := by
  intro σ H locs ls l2 l4 hP hS hf hl
  unfold X10_rooms_B130 at hf
  refine lv_aload_n X.1 X.2.1 dX10_rooms_130 rfl (lv_at hl 0 rfl) ?_
  refine lv_iload_n X.1 X.2.1 dX10_rooms_131 rfl (lv_at hl 1 rfl) ?_
  obtain ⟨s2, hr1, hf⟩ := bd_inv hf
  refine k_X10_forgetPart X hP hS hl.1  hr1 (tb t_451 rfl) (by decide) (Nat.le_of_ble_eq_true rfl) dX10_rooms_132 (fun H locs hP hS => ?_)
  refine lv_iload X.1 X.2.1 dX10_rooms_135 (lv_at hl 2 rfl) ?_
  obtain ⟨rfl, rfl⟩ := so2_inv hf
  exact r_iret X hP hS dX10_rooms_137
set_option maxHeartbeats 4000000 in
theorem a_X10_rooms_124 {p : Program} {l : Launch} {e : Env} {R : Room} {s : State} {m : MethodId} {args : Array Value} {below : List Frame} {meth : Method} {c : Code} {G : GT} {τ : Mem} {res : Int} {rec64 : Mem → Int → Int → Nat → Int → Int → Option (Int × Mem)} (X : CX p R s m args meth c cX10_rooms 7 RX10 (some FieldType.int) 3 104 G) (h64 : S_X10_rooms_64 rec64 p l e R s m args below meth c G τ res) : S_X10_rooms_124 (X10_rooms_B124 rec64) p l e R s m args below meth c G τ res := by
  intro σ H locs ls l1 l2 l3 l4 l5 hk_l3 hP hS hf hl
  unfold X10_rooms_B124 at hf
  obtain ⟨l5_1, el5_1, hf⟩ := lt_inv hf
  refine lv_iinc (v := i32 l5_1) (lv' := [(5, .int (i32 l5_1)), (0, .ref (gh G + 0)), (1, .int (i32 l1)), (2, .int (i32 l2)), (3, .ref (gh G + l3)), (4, .int (i32 l4))]) X.1 X.2.1 dX10_rooms_124 hl (k := 5) rfl (by rw [← el5_1]; exact i32_add _ _) (by decide) rfl (fun ls hl => ?_)
  refine lv_goto (tgt := 64) X.1 X.2.1 dX10_rooms_127 (by decide) ?_
  exact h64 σ H locs ls l1 l2 l3 l4 l5_1 hk_l3 hP hS hf (lv_sub hl [1, 2, 3, 4, 5, 0] rfl)
set_option maxHeartbeats 4000000 in
theorem a_X10_rooms_64 {p : Program} {l : Launch} {e : Env} {R : Room} {s : State} {m : MethodId} {args : Array Value} {below : List Frame} {meth : Method} {c : Code} {G : GT} {τ : Mem} {res : Int} {rec64 : Mem → Int → Int → Nat → Int → Int → Option (Int × Mem)} (X : CX p R s m args meth c cX10_rooms 7 RX10 (some FieldType.int) 3 104 G) (h64 : S_X10_rooms_64 rec64 p l e R s m args below meth c G τ res) : S_X10_rooms_64 (X10_rooms_B64 rec64) p l e R s m args below meth c G τ res := by
  intro σ H locs ls l1 l2 l3 l4 l5 hk_l3 hP hS hf hl
  unfold X10_rooms_B64 at hf
  refine lv_iload X.1 X.2.1 dX10_rooms_64 (lv_at hl 5 rfl) ?_
  refine lv_aload_n X.1 X.2.1 dX10_rooms_66 rfl (lv_at hl 0 rfl) ?_
  refine g_10_4 (r := 50) X hP ks_10 rfl (tb t_392 rfl) dX10_rooms_67 ?_
  refine lv_iload_n X.1 X.2.1 dX10_rooms_70 rfl (lv_at hl 1 rfl) ?_
  obtain ⟨j1, hij1, hjj1, hlj1, hf⟩ := ag_inv hf
  refine r_aald19 (r := 63 + 2 * j1) X hP (ch_10_4 ks_10).1 (ch_10_4 ks_10).2 hij1 hjj1 rfl dX10_rooms_71 ?_
  refine g_6_2 X hP ((ch_19 (ch_10_4 ks_10).1).2 j1 hlj1) (tb t_309 rfl) dX10_rooms_72 ?_
  refine r_icmp_ge (tgt := 130) X dX10_rooms_75 (by decide) (fun q => ?_) (fun q => ?_)
  · replace hf := it_inv q hf
    exact a_X10_rooms_130 X σ H locs ls l2 l4 hP hS hf (lv_sub hl [0, 2, 4] rfl)
  · replace hf := ie_inv q hf
    refine lv_aload_n X.1 X.2.1 dX10_rooms_78 rfl (lv_at hl 3 rfl) ?_
    refine lv_iload X.1 X.2.1 dX10_rooms_79 (lv_at hl 5 rfl) ?_
    obtain ⟨r2, hr2, hf⟩ := bd_inv hf
    refine k_X5_has X hP hS hl.1 hk_l3 hr2 (tb t_636 rfl) (by decide) (Nat.le_of_ble_eq_true rfl) dX10_rooms_81 (fun H locs hP hS => ?_)
    refine r_if_eq (tgt := 130) X dX10_rooms_84 (by decide) (fun q => ?_) (fun q => ?_)
    · replace hf := it_inv q hf
      exact a_X10_rooms_130 X σ H locs ls l2 l4 hP hS hf (lv_sub hl [0, 2, 4] rfl)
    · replace hf := ie_inv q hf
      refine lv_aload_n X.1 X.2.1 dX10_rooms_87 rfl (lv_at hl 0 rfl) ?_
      refine g_10_4 (r := 50) X hP ks_10 rfl (tb t_392 rfl) dX10_rooms_88 ?_
      refine lv_iload_n X.1 X.2.1 dX10_rooms_91 rfl (lv_at hl 1 rfl) ?_
      obtain ⟨j3, hij3, hjj3, hlj3, hf⟩ := ag_inv hf
      refine r_aald19 (r := 63 + 2 * j3) X hP (ch_10_4 ks_10).1 (ch_10_4 ks_10).2 hij3 hjj3 rfl dX10_rooms_92 ?_
      refine g_6_0 (r := 63 + 2 * j3 + 1) X hP ((ch_19 (ch_10_4 ks_10).1).2 j3 hlj3) rfl (tb t_305 rfl) dX10_rooms_93 ?_
      refine lv_iload X.1 X.2.1 dX10_rooms_96 (lv_at hl 5 rfl) ?_
      obtain ⟨j4, hij4, hjj4, hlj4, hf⟩ := ag_inv hf
      refine r_iald X hP (ch_6_0 ((ch_19 (ch_10_4 ks_10).1).2 j3 hlj3)).1 (ch_6_0 ((ch_19 (ch_10_4 ks_10).1).2 j3 hlj3)).2 hij4 hjj4 dX10_rooms_98 ?_
      obtain ⟨l6_5, el6_5, hf⟩ := lt_inv hf
      refine r_eqi el6_5 ?_
      refine lv_istore (lv' := [(6, .int (i32 l6_5)), (0, .ref (gh G + 0)), (1, .int (i32 l1)), (2, .int (i32 l2)), (3, .ref (gh G + l3)), (4, .int (i32 l4)), (5, .int (i32 l5))]) X.1 X.2.1 dX10_rooms_99 hl (by decide) rfl (fun ls hl => ?_)
      refine lv_iload X.1 X.2.1 dX10_rooms_101 (lv_at hl 0 rfl) ?_
      refine r_iconst X 1 dX10_rooms_103 ?_
      refine r_bipush X 60 (by decide) dX10_rooms_104 ?_
      obtain ⟨r6, hr6, hf⟩ := bd_inv hf
      refine k_X10_within X hP hS hl.1  hr6 (tb t_423 rfl) (by decide) (Nat.le_of_ble_eq_true rfl) dX10_rooms_106 (fun H locs hP hS => ?_)
      refine r_if_eq (tgt := 124) X dX10_rooms_109 (by decide) (fun q => ?_) (fun q => ?_)
      · replace hf := it_inv q hf
        exact a_X10_rooms_124 X h64 σ H locs ls l1 l2 l3 l4 l5 hk_l3 hP hS hf (lv_sub hl [1, 2, 3, 4, 5, 6] rfl)
      · replace hf := ie_inv q hf
        refine lv_aload_n X.1 X.2.1 dX10_rooms_112 rfl (lv_at hl 4 rfl) ?_
        refine lv_iload X.1 X.2.1 dX10_rooms_113 (lv_at hl 6 rfl) ?_
        refine r_iconst X 0 dX10_rooms_115 ?_
        refine lv_iload X.1 X.2.1 dX10_rooms_116 (lv_at hl 0 rfl) ?_
        obtain ⟨s8, hr7, hf⟩ := bd_inv hf
        refine k_X5_put X hP hS hl.1 hk_l3 hr7 (tb t_648 rfl) (by decide) (Nat.le_of_ble_eq_true rfl) dX10_rooms_118 (fun H locs hP hS => ?_)
        obtain ⟨l4_9, el4_9, hf⟩ := lt_inv hf
        refine lv_iinc (v := i32 l4_9) (lv' := [(4, .int (i32 l4_9)), (6, .int (i32 l6_5)), (0, .ref (gh G + 0)), (1, .int (i32 l1)), (2, .int (i32 l2)), (3, .ref (gh G + l3)), (5, .int (i32 l5))]) X.1 X.2.1 dX10_rooms_121 hl (k := 5) rfl (by rw [← el4_9]; exact i32_add _ _) (by decide) rfl (fun ls hl => ?_)
        exact a_X10_rooms_124 X h64 s8 H locs ls l1 l2 l3 l4_9 l5 hk_l3 hP hS hf (lv_sub hl [2, 3, 4, 5, 0, 6] rfl)
theorem al_X10_rooms_64 {p : Program} {l : Launch} {e : Env} {R : Room} {s : State} {m : MethodId} {args : Array Value} {below : List Frame} {meth : Method} {c : Code} {G : GT} {τ : Mem} {res : Int} (X : CX p R s m args meth c cX10_rooms 7 RX10 (some FieldType.int) 3 104 G) : ∀ n, S_X10_rooms_64 (X10_rooms_L64 n) p l e R s m args below meth c G τ res := by
  intro n
  induction n with
  | zero =>
    intro σ H locs ls l1 l2 l3 l4 l5 hk_l3 hP hS hf hl
    cases hf
  | succ n ih => exact a_X10_rooms_64 X ih
set_option maxHeartbeats 4000000 in
theorem a_X10_rooms_0 {p : Program} {l : Launch} {e : Env} {R : Room} {s : State} {m : MethodId} {args : Array Value} {below : List Frame} {meth : Method} {c : Code} {G : GT} {τ : Mem} {res : Int} (X : CX p R s m args meth c cX10_rooms 7 RX10 (some FieldType.int) 3 104 G) : S_X10_rooms_0 (X10_rooms) p l e R s m args below meth c G τ res := by
  intro σ H locs ls l1 l2 hP hS hf hl
  unfold X10_rooms at hf
  refine lv_iload_n X.1 X.2.1 dX10_rooms_0 rfl (lv_at hl 1 rfl) ?_
  obtain ⟨r1, hr1, hf⟩ := bd_inv hf
  refine k_X10_isSheet X hP hS hl.1  hr1 (tb t_997 rfl) (by decide) (Nat.le_of_ble_eq_true rfl) dX10_rooms_1 (fun H locs hP hS => ?_)
  refine r_if_ne (tgt := 14) X dX10_rooms_4 (by decide) (fun q => ?_) (fun q => ?_)
  · replace hf := it_inv q hf
    refine lv_aload_n X.1 X.2.1 dX10_rooms_14 rfl (lv_at hl 0 rfl) ?_
    refine g_10_4 (r := 50) X hP ks_10 rfl (tb t_392 rfl) dX10_rooms_15 ?_
    refine lv_iload_n X.1 X.2.1 dX10_rooms_18 rfl (lv_at hl 1 rfl) ?_
    obtain ⟨j2, hij2, hjj2, hlj2, hf⟩ := ag_inv hf
    refine r_aald19 (r := 63 + 2 * j2) X hP (ch_10_4 ks_10).1 (ch_10_4 ks_10).2 hij2 hjj2 rfl dX10_rooms_19 ?_
    obtain ⟨r3, hr3, hf⟩ := bd_inv hf
    refine k_X6_isMissing X hP hS hl.1 ((ch_19 (ch_10_4 ks_10).1).2 j2 hlj2) hr3 (tb t_1010 rfl) (by decide) (Nat.le_of_ble_eq_true rfl) dX10_rooms_20 (fun H locs hP hS => ?_)
    refine r_if_eq (tgt := 34) X dX10_rooms_23 (by decide) (fun q => ?_) (fun q => ?_)
    · replace hf := it_inv q hf
      refine lv_iload_n X.1 X.2.1 dX10_rooms_34 rfl (lv_at hl 2 rfl) ?_
      obtain ⟨r4, hr4, hf⟩ := bd_inv hf
      refine k_X10_isPart X hP hS hl.1  hr4 (tb t_420 rfl) (by decide) (Nat.le_of_ble_eq_true rfl) dX10_rooms_35 (fun H locs hP hS => ?_)
      refine r_if_ne (tgt := 48) X dX10_rooms_38 (by decide) (fun q => ?_) (fun q => ?_)
      · replace hf := it_inv q hf
        refine lv_aload_n X.1 X.2.1 dX10_rooms_48 rfl (lv_at hl 0 rfl) ?_
        refine g_10_0 (r := 1) X hP ks_10 rfl (tb t_388 rfl) dX10_rooms_49 ?_
        refine g_7_0 (r := 2) X hP (ch_10_0 ks_10).1 rfl (tb t_170 rfl) dX10_rooms_52 ?_
        refine lv_iload_n X.1 X.2.1 dX10_rooms_55 rfl (lv_at hl 2 rfl) ?_
        obtain ⟨j5, hij5, hjj5, hlj5, hf⟩ := ag_inv hf
        refine r_aald18 (r := 9 + 3 * j5) X hP (ch_7_0 (ch_10_0 ks_10).1).1 (ch_7_0 (ch_10_0 ks_10).1).2 hij5 hjj5 rfl dX10_rooms_56 ?_
        refine lv_astore_n (lv' := [(3, .ref (gh G + (9 + 3 * j5))), (0, .ref (gh G + 0)), (1, .int (i32 l1)), (2, .int (i32 l2))]) X.1 X.2.1 dX10_rooms_57 rfl hl (by decide) rfl (fun ls hl => ?_)
        refine r_iconst X 0 dX10_rooms_58 ?_
        refine lv_istore (lv' := [(4, .int (i32 0)), (3, .ref (gh G + (9 + 3 * j5))), (0, .ref (gh G + 0)), (1, .int (i32 l1)), (2, .int (i32 l2))]) X.1 X.2.1 dX10_rooms_59 hl (by decide) rfl (fun ls hl => ?_)
        refine r_iconst X 0 dX10_rooms_61 ?_
        refine lv_istore (lv' := [(5, .int (i32 0)), (4, .int (i32 0)), (3, .ref (gh G + (9 + 3 * j5))), (0, .ref (gh G + 0)), (1, .int (i32 l1)), (2, .int (i32 l2))]) X.1 X.2.1 dX10_rooms_62 hl (by decide) rfl (fun ls hl => ?_)
        exact al_X10_rooms_64 X 5000 σ H locs ls l1 l2 (9 + 3 * j5) 0 0 ((ch_18 (ch_7_0 (ch_10_0 ks_10).1).1).2 j5 hlj5) hP hS hf (lv_sub hl [3, 4, 5, 2, 1, 0] rfl)
      · replace hf := ie_inv q hf
        refine lv_aload_n X.1 X.2.1 dX10_rooms_41 rfl (lv_at hl 0 rfl) ?_
        refine r_ldc X (-1000001) (tb t_430 rfl) (by decide) dX10_rooms_42 ?_
        obtain ⟨r6, s7, hr6, hf⟩ := bd2_inv hf
        refine k_X10_tell X hP hS hl.1  hr6 (tb t_431 rfl) (by decide) (Nat.le_of_ble_eq_true rfl) dX10_rooms_44 (fun H locs hP hS => ?_)
        obtain ⟨rfl, rfl⟩ := so2_inv hf
        exact r_iret X hP hS dX10_rooms_47
    · replace hf := ie_inv q hf
      refine lv_aload_n X.1 X.2.1 dX10_rooms_26 rfl (lv_at hl 0 rfl) ?_
      refine r_ldcw X (-1000006) (tb t_987 rfl) (by decide) dX10_rooms_27 ?_
      obtain ⟨r8, s9, hr8, hf⟩ := bd2_inv hf
      refine k_X10_tell X hP hS hl.1  hr8 (tb t_431 rfl) (by decide) (Nat.le_of_ble_eq_true rfl) dX10_rooms_30 (fun H locs hP hS => ?_)
      obtain ⟨rfl, rfl⟩ := so2_inv hf
      exact r_iret X hP hS dX10_rooms_33
  · replace hf := ie_inv q hf
    refine lv_aload_n X.1 X.2.1 dX10_rooms_7 rfl (lv_at hl 0 rfl) ?_
    refine r_ldc X (-1000001) (tb t_430 rfl) (by decide) dX10_rooms_8 ?_
    obtain ⟨r10, s11, hr10, hf⟩ := bd2_inv hf
    refine k_X10_tell X hP hS hl.1  hr10 (tb t_431 rfl) (by decide) (Nat.le_of_ble_eq_true rfl) dX10_rooms_10 (fun H locs hP hS => ?_)
    obtain ⟨rfl, rfl⟩ := so2_inv hf
    exact r_iret X hP hS dX10_rooms_13
set_option maxHeartbeats 4000000 in
theorem c_X10_rooms {l : Launch} {G : GT} {σ τ : Mem} {res : Int} {l1 : Int} {l2 : Int} (hf : X10_rooms σ l1 l2 = some (res, τ)) : CT l yX10_rooms cX10_rooms 7 (some FieldType.int) 3 104 G [.ref (gh G + 0), .int (i32 l1), .int (i32 l2)] σ τ (some (.int (i32 res))) := by
  refine CT.mk (own := RX10) (by decide) rfl (Nat.le_of_ble_eq_true rfl) ?_
  intro p e s m below meth c ls X hP hS hl
  have hl : lv_has ls 7 [(0, .ref (gh G + 0)), (1, .int (i32 l1)), (2, .int (i32 l2))] := hl
  exact a_X10_rooms_0 X σ s.heap [] ls l1 l2 hP hS hf hl
theorem k_X10_rooms {p : Program} {l : Launch} {e : Env} {R : Room} {s : State} {m : MethodId} {args : Array Value} {below : List Frame} {meth : Method} {c : Code} {H : Heap} {locs : List Loc} {Q : State → Prop} {cc : ByteArray} {nL : Nat} {own : String} {ret : Option FieldType} {fF fL : Nat} {G : GT} {pc idx : Nat} {ls : Array Slot} {rest : List Value} {σ τ : Mem} {res : Int} {l1 : Int} {l2 : Int} (X : CX p R s m args meth c cc nL own ret fF fL G) (hP : PW G σ H) (hS : va_S (AA G) s.heap H locs) (hls : ls.size = nL) (hf : X10_rooms σ l1 l2 = some (res, τ)) (h1 : Cond.methodLink own idx yX10_rooms ∈ TB) (hR : 3 + 1 ≤ fF ∧ 8 + (7 + 11) + 104 ≤ fL) (hW : (rest.map fun v => v.category).sum ≤ 8) (hd : decode cc pc = .ok (.invokevirtual idx, 3)) (kk : ∀ (H1 : Heap) (locs1 : List Loc), PW G τ H1 → va_S (AA G) s.heap H1 locs1 → W p l e R s m args below meth c H1 locs1 0 0 Q (F0 m (pc + 3) ls (.int (i32 res) :: rest))) : W p l e R s m args below meth c H locs 0 0 Q (F0 m pc ls (.int (i32 l2) :: .int (i32 l1) :: .ref (gh G + 0) :: rest)) := r_callV (n := 2) X hP hS hls (c_X10_rooms hf) h1 (tb t_1029 rfl) (tb t_1030 rfl) (tb t_75 rfl) (tb t_1031 rfl) (by decide +kernel) hR (r_recv X hP (kd_lt ks_10 (by decide)) (cE_10 ks_10) rfl) rfl rfl hW hd kk
/-! X10_rule -/
theorem dX10_rule_0 : decode cX10_rule 0 = .ok (.iload_n 1, 1) := by decide +kernel
theorem dX10_rule_1 : decode cX10_rule 1 = .ok (.iconst 0, 1) := by decide +kernel
theorem dX10_rule_2 : decode cX10_rule 2 = .ok (.iconst 4, 1) := by decide +kernel
theorem dX10_rule_3 : decode cX10_rule 3 = .ok (.invokestatic 62, 3) := by decide +kernel
theorem dX10_rule_6 : decode cX10_rule 6 = .ok (.ifCond .eq 20, 3) := by decide +kernel
theorem dX10_rule_9 : decode cX10_rule 9 = .ok (.iload_n 2, 1) := by decide +kernel
theorem dX10_rule_10 : decode cX10_rule 10 = .ok (.getstatic 89, 3) := by decide +kernel
theorem dX10_rule_13 : decode cX10_rule 13 = .ok (.iload_n 1, 1) := by decide +kernel
theorem dX10_rule_14 : decode cX10_rule 14 = .ok (.iaload, 1) := by decide +kernel
theorem dX10_rule_15 : decode cX10_rule 15 = .ok (.getstatic 92, 3) := by decide +kernel
theorem dX10_rule_18 : decode cX10_rule 18 = .ok (.iload_n 1, 1) := by decide +kernel
theorem dX10_rule_19 : decode cX10_rule 19 = .ok (.iaload, 1) := by decide +kernel
theorem dX10_rule_20 : decode cX10_rule 20 = .ok (.invokestatic 62, 3) := by decide +kernel
theorem dX10_rule_23 : decode cX10_rule 23 = .ok (.ifCond .ne 10, 3) := by decide +kernel
theorem dX10_rule_26 : decode cX10_rule 26 = .ok (.aload_n 0, 1) := by decide +kernel
theorem dX10_rule_27 : decode cX10_rule 27 = .ok (.ldc 72, 2) := by decide +kernel
theorem dX10_rule_29 : decode cX10_rule 29 = .ok (.invokevirtual 73, 3) := by decide +kernel
theorem dX10_rule_32 : decode cX10_rule 32 = .ok (.ireturn, 1) := by decide +kernel
theorem dX10_rule_33 : decode cX10_rule 33 = .ok (.aload_n 0, 1) := by decide +kernel
theorem dX10_rule_34 : decode cX10_rule 34 = .ok (.getfield 10, 3) := by decide +kernel
theorem dX10_rule_37 : decode cX10_rule 37 = .ok (.getfield 95, 3) := by decide +kernel
theorem dX10_rule_40 : decode cX10_rule 40 = .ok (.iload_n 1, 1) := by decide +kernel
theorem dX10_rule_41 : decode cX10_rule 41 = .ok (.iaload, 1) := by decide +kernel
theorem dX10_rule_42 : decode cX10_rule 42 = .ok (.istore_n 3, 1) := by decide +kernel
theorem dX10_rule_43 : decode cX10_rule 43 = .ok (.aload_n 0, 1) := by decide +kernel
theorem dX10_rule_44 : decode cX10_rule 44 = .ok (.getfield 10, 3) := by decide +kernel
theorem dX10_rule_47 : decode cX10_rule 47 = .ok (.getfield 95, 3) := by decide +kernel
theorem dX10_rule_50 : decode cX10_rule 50 = .ok (.iload_n 1, 1) := by decide +kernel
theorem dX10_rule_51 : decode cX10_rule 51 = .ok (.iload_n 2, 1) := by decide +kernel
theorem dX10_rule_52 : decode cX10_rule 52 = .ok (.iastore, 1) := by decide +kernel
theorem dX10_rule_53 : decode cX10_rule 53 = .ok (.iload_n 1, 1) := by decide +kernel
theorem dX10_rule_54 : decode cX10_rule 54 = .ok (.iconst 2, 1) := by decide +kernel
theorem dX10_rule_55 : decode cX10_rule 55 = .ok (.if_icmp .eq 8, 3) := by decide +kernel
theorem dX10_rule_58 : decode cX10_rule 58 = .ok (.iload_n 1, 1) := by decide +kernel
theorem dX10_rule_59 : decode cX10_rule 59 = .ok (.iconst 4, 1) := by decide +kernel
theorem dX10_rule_60 : decode cX10_rule 60 = .ok (.if_icmp .ne 10, 3) := by decide +kernel
theorem dX10_rule_63 : decode cX10_rule 63 = .ok (.aload_n 0, 1) := by decide +kernel
theorem dX10_rule_64 : decode cX10_rule 64 = .ok (.invokevirtual 86, 3) := by decide +kernel
theorem dX10_rule_67 : decode cX10_rule 67 = .ok (.goto 7, 3) := by decide +kernel
theorem dX10_rule_70 : decode cX10_rule 70 = .ok (.aload_n 0, 1) := by decide +kernel
theorem dX10_rule_71 : decode cX10_rule 71 = .ok (.invokevirtual 98, 3) := by decide +kernel
theorem dX10_rule_74 : decode cX10_rule 74 = .ok (.iload_n 3, 1) := by decide +kernel
theorem dX10_rule_75 : decode cX10_rule 75 = .ok (.ireturn, 1) := by decide +kernel
def X10_rule_B63 (σ : Mem) (l3 : Int) : Option (Int × Mem) :=
  bd (X10_forgetLayings σ) fun s2 =>
  some (l3, s2)
def S_X10_rule_63 (fn : Mem → Int → Option (Int × Mem)) (p : Program) (l : Launch) (e : Env) (R : Room) (s : State) (m : MethodId) (args : Array Value) (below : List Frame) (meth : Method) (c : Code) (G : GT) (τ : Mem) (res : Int) : Prop := ∀ (σ : Mem) (H : Heap) (locs : List Loc) (ls : Array Slot) (l3 : Int), PW G σ H → va_S (AA G) s.heap H locs → fn σ l3 = some (res, τ) → lv_has ls 4 [(0, .ref (gh G + 0)), (3, .int (i32 l3))] → W p l e R s m args below meth c H locs 0 0 (MQ below (QM G (some (.int (i32 res))) τ) args s 0 0 (AA G)) (F0 m 63 ls [])
def X10_rule_B26 (σ : Mem) : Option (Int × Mem) :=
  bd2 (X10_tell σ (-1000001)) fun r1 s2 =>
  some (r1, s2)
def S_X10_rule_26 (fn : Mem → Option (Int × Mem)) (p : Program) (l : Launch) (e : Env) (R : Room) (s : State) (m : MethodId) (args : Array Value) (below : List Frame) (meth : Method) (c : Code) (G : GT) (τ : Mem) (res : Int) : Prop := ∀ (σ : Mem) (H : Heap) (locs : List Loc) (ls : Array Slot), PW G σ H → va_S (AA G) s.heap H locs → fn σ = some (res, τ) → lv_has ls 4 [(0, .ref (gh G + 0))] → W p l e R s m args below meth c H locs 0 0 (MQ below (QM G (some (.int (i32 res))) τ) args s 0 0 (AA G)) (F0 m 26 ls [])
def X10_rule (σ : Mem) (l1 : Int) (l2 : Int) : Option (Int × Mem) :=
  bd (X10_within σ l1 0 4) fun r1 =>
  if w32 r1 = 0 then
    X10_rule_B26 σ
  else
  ag 5 l1 fun j2 =>
  ag 5 l1 fun j3 =>
  bd (X10_within σ l2 (sv 2 j2) (sv 3 j3)) fun r4 =>
  if w32 r4 ≠ 0 then
    ag 5 l1 fun j5 =>
    lt (σ 3 j5) fun l3_6 =>
    ag 5 l1 fun j7 =>
    lt (st σ 3 j7 l2) fun s8 =>
    if w32 l1 = w32 2 then
      X10_rule_B63 s8 l3_6
    else
    if w32 l1 ≠ w32 4 then
      bd (X10_forgetAll s8) fun s10 =>
      some (l3_6, s10)
    else
    X10_rule_B63 s8 l3_6
  else
  X10_rule_B26 σ
def S_X10_rule_0 (fn : Mem → Int → Int → Option (Int × Mem)) (p : Program) (l : Launch) (e : Env) (R : Room) (s : State) (m : MethodId) (args : Array Value) (below : List Frame) (meth : Method) (c : Code) (G : GT) (τ : Mem) (res : Int) : Prop := ∀ (σ : Mem) (H : Heap) (locs : List Loc) (ls : Array Slot) (l1 : Int) (l2 : Int), PW G σ H → va_S (AA G) s.heap H locs → fn σ l1 l2 = some (res, τ) → lv_has ls 4 [(0, .ref (gh G + 0)), (1, .int (i32 l1)), (2, .int (i32 l2))] → W p l e R s m args below meth c H locs 0 0 (MQ below (QM G (some (.int (i32 res))) τ) args s 0 0 (AA G)) (F0 m 0 ls [])
set_option maxHeartbeats 4000000 in
theorem a_X10_rule_63 {p : Program} {l : Launch} {e : Env} {R : Room} {s : State} {m : MethodId} {args : Array Value} {below : List Frame} {meth : Method} {c : Code} {G : GT} {τ : Mem} {res : Int} (X : CX p R s m args meth c cX10_rule 4 RX10 (some FieldType.int) 4 123 G) : S_X10_rule_63 (X10_rule_B63) p l e R s m args below meth c G τ res := by
  intro σ H locs ls l3 hP hS hf hl
  unfold X10_rule_B63 at hf
  refine lv_aload_n X.1 X.2.1 dX10_rule_63 rfl (lv_at hl 0 rfl) ?_
  obtain ⟨s2, hr1, hf⟩ := bd_inv hf
  refine k_X10_forgetLayings X hP hS hl.1  hr1 (tb t_435 rfl) (by decide) (Nat.le_of_ble_eq_true rfl) dX10_rule_64 (fun H locs hP hS => ?_)
  refine lv_goto (tgt := 74) X.1 X.2.1 dX10_rule_67 (by decide) ?_
  refine lv_iload_n X.1 X.2.1 dX10_rule_74 rfl (lv_at hl 1 rfl) ?_
  obtain ⟨rfl, rfl⟩ := so2_inv hf
  exact r_iret X hP hS dX10_rule_75
set_option maxHeartbeats 4000000 in
theorem a_X10_rule_26 {p : Program} {l : Launch} {e : Env} {R : Room} {s : State} {m : MethodId} {args : Array Value} {below : List Frame} {meth : Method} {c : Code} {G : GT} {τ : Mem} {res : Int} (X : CX p R s m args meth c cX10_rule 4 RX10 (some FieldType.int) 4 123 G) : S_X10_rule_26 (X10_rule_B26) p l e R s m args below meth c G τ res := by
  intro σ H locs ls hP hS hf hl
  unfold X10_rule_B26 at hf
  refine lv_aload_n X.1 X.2.1 dX10_rule_26 rfl (lv_at hl 0 rfl) ?_
  refine r_ldc X (-1000001) (tb t_430 rfl) (by decide) dX10_rule_27 ?_
  obtain ⟨r1, s2, hr1, hf⟩ := bd2_inv hf
  refine k_X10_tell X hP hS hl.1  hr1 (tb t_431 rfl) (by decide) (Nat.le_of_ble_eq_true rfl) dX10_rule_29 (fun H locs hP hS => ?_)
  obtain ⟨rfl, rfl⟩ := so2_inv hf
  exact r_iret X hP hS dX10_rule_32
set_option maxHeartbeats 4000000 in
theorem a_X10_rule_0 {p : Program} {l : Launch} {e : Env} {R : Room} {s : State} {m : MethodId} {args : Array Value} {below : List Frame} {meth : Method} {c : Code} {G : GT} {τ : Mem} {res : Int} (X : CX p R s m args meth c cX10_rule 4 RX10 (some FieldType.int) 4 123 G) : S_X10_rule_0 (X10_rule) p l e R s m args below meth c G τ res := by
  intro σ H locs ls l1 l2 hP hS hf hl
  unfold X10_rule at hf
  refine lv_iload_n X.1 X.2.1 dX10_rule_0 rfl (lv_at hl 1 rfl) ?_
  refine r_iconst X 0 dX10_rule_1 ?_
  refine r_iconst X 4 dX10_rule_2 ?_
  obtain ⟨r1, hr1, hf⟩ := bd_inv hf
  refine k_X10_within X hP hS hl.1  hr1 (tb t_423 rfl) (by decide) (Nat.le_of_ble_eq_true rfl) dX10_rule_3 (fun H locs hP hS => ?_)
  refine r_if_eq (tgt := 26) X dX10_rule_6 (by decide) (fun q => ?_) (fun q => ?_)
  · replace hf := it_inv q hf
    exact a_X10_rule_26 X σ H locs ls  hP hS hf (lv_sub hl [0] rfl)
  · replace hf := ie_inv q hf
    refine lv_iload_n X.1 X.2.1 dX10_rule_9 rfl (lv_at hl 2 rfl) ?_
    refine r_gets (i := 2) X hS (by decide) (tb t_443 rfl) dX10_rule_10 ?_
    refine lv_iload_n X.1 X.2.1 dX10_rule_13 rfl (lv_at hl 1 rfl) ?_
    obtain ⟨j2, hij2, hjj2, hlj2, hf⟩ := ag_inv hf
    refine r_sald (i := 2) X hS (by decide) (n := 5) rfl hij2 hjj2 dX10_rule_14 ?_
    refine r_gets (i := 3) X hS (by decide) (tb t_445 rfl) dX10_rule_15 ?_
    refine lv_iload_n X.1 X.2.1 dX10_rule_18 rfl (lv_at hl 1 rfl) ?_
    obtain ⟨j3, hij3, hjj3, hlj3, hf⟩ := ag_inv hf
    refine r_sald (i := 3) X hS (by decide) (n := 5) rfl hij3 hjj3 dX10_rule_19 ?_
    obtain ⟨r4, hr4, hf⟩ := bd_inv hf
    refine k_X10_within X hP hS hl.1  hr4 (tb t_423 rfl) (by decide) (Nat.le_of_ble_eq_true rfl) dX10_rule_20 (fun H locs hP hS => ?_)
    refine r_if_ne (tgt := 33) X dX10_rule_23 (by decide) (fun q => ?_) (fun q => ?_)
    · replace hf := it_inv q hf
      refine lv_aload_n X.1 X.2.1 dX10_rule_33 rfl (lv_at hl 0 rfl) ?_
      refine g_10_0 (r := 1) X hP ks_10 rfl (tb t_388 rfl) dX10_rule_34 ?_
      refine g_7_1 (r := 3) X hP (ch_10_0 ks_10).1 rfl (tb t_172 rfl) dX10_rule_37 ?_
      refine lv_iload_n X.1 X.2.1 dX10_rule_40 rfl (lv_at hl 1 rfl) ?_
      obtain ⟨j5, hij5, hjj5, hlj5, hf⟩ := ag_inv hf
      refine r_iald X hP (ch_7_1 (ch_10_0 ks_10).1).1 (ch_7_1 (ch_10_0 ks_10).1).2 hij5 hjj5 dX10_rule_41 ?_
      obtain ⟨l3_6, el3_6, hf⟩ := lt_inv hf
      refine r_eqi el3_6 ?_
      refine lv_istore_n (lv' := [(3, .int (i32 l3_6)), (0, .ref (gh G + 0)), (1, .int (i32 l1)), (2, .int (i32 l2))]) X.1 X.2.1 dX10_rule_42 rfl hl (by decide) rfl (fun ls hl => ?_)
      refine lv_aload_n X.1 X.2.1 dX10_rule_43 rfl (lv_at hl 1 rfl) ?_
      refine g_10_0 (r := 1) X hP ks_10 rfl (tb t_388 rfl) dX10_rule_44 ?_
      refine g_7_1 (r := 3) X hP (ch_10_0 ks_10).1 rfl (tb t_172 rfl) dX10_rule_47 ?_
      refine lv_iload_n X.1 X.2.1 dX10_rule_50 rfl (lv_at hl 2 rfl) ?_
      refine lv_iload_n X.1 X.2.1 dX10_rule_51 rfl (lv_at hl 3 rfl) ?_
      obtain ⟨j7, hij7, hjj7, hlj7, hf⟩ := ag_inv hf
      refine r_iast X hP hS (ch_7_1 (ch_10_0 ks_10).1).1 (ch_7_1 (ch_10_0 ks_10).1).2 hij7 hjj7 dX10_rule_52 (fun H locs hP hS => ?_)
      obtain ⟨s8, es8, hf⟩ := lt_inv hf
      rw [es8] at hP
      refine lv_iload_n X.1 X.2.1 dX10_rule_53 rfl (lv_at hl 2 rfl) ?_
      refine r_iconst X 2 dX10_rule_54 ?_
      refine r_icmp_eq (tgt := 63) X dX10_rule_55 (by decide) (fun q => ?_) (fun q => ?_)
      · replace hf := it_inv q hf
        exact a_X10_rule_63 X s8 H locs ls l3_6 hP hS hf (lv_sub hl [1, 0] rfl)
      · replace hf := ie_inv q hf
        refine lv_iload_n X.1 X.2.1 dX10_rule_58 rfl (lv_at hl 2 rfl) ?_
        refine r_iconst X 4 dX10_rule_59 ?_
        refine r_icmp_ne (tgt := 70) X dX10_rule_60 (by decide) (fun q => ?_) (fun q => ?_)
        · replace hf := it_inv q hf
          refine lv_aload_n X.1 X.2.1 dX10_rule_70 rfl (lv_at hl 1 rfl) ?_
          obtain ⟨s10, hr9, hf⟩ := bd_inv hf
          refine k_X10_forgetAll X hP hS hl.1  hr9 (tb t_447 rfl) (by decide) (Nat.le_of_ble_eq_true rfl) dX10_rule_71 (fun H locs hP hS => ?_)
          refine lv_iload_n X.1 X.2.1 dX10_rule_74 rfl (lv_at hl 0 rfl) ?_
          obtain ⟨rfl, rfl⟩ := so2_inv hf
          exact r_iret X hP hS dX10_rule_75
        · replace hf := ie_inv q hf
          exact a_X10_rule_63 X s8 H locs ls l3_6 hP hS hf (lv_sub hl [1, 0] rfl)
    · replace hf := ie_inv q hf
      exact a_X10_rule_26 X σ H locs ls  hP hS hf (lv_sub hl [0] rfl)
set_option maxHeartbeats 4000000 in
theorem c_X10_rule {l : Launch} {G : GT} {σ τ : Mem} {res : Int} {l1 : Int} {l2 : Int} (hf : X10_rule σ l1 l2 = some (res, τ)) : CT l yX10_rule cX10_rule 4 (some FieldType.int) 4 123 G [.ref (gh G + 0), .int (i32 l1), .int (i32 l2)] σ τ (some (.int (i32 res))) := by
  refine CT.mk (own := RX10) (by decide) rfl (Nat.le_of_ble_eq_true rfl) ?_
  intro p e s m below meth c ls X hP hS hl
  have hl : lv_has ls 4 [(0, .ref (gh G + 0)), (1, .int (i32 l1)), (2, .int (i32 l2))] := hl
  exact a_X10_rule_0 X σ s.heap [] ls l1 l2 hP hS hf hl
theorem k_X10_rule {p : Program} {l : Launch} {e : Env} {R : Room} {s : State} {m : MethodId} {args : Array Value} {below : List Frame} {meth : Method} {c : Code} {H : Heap} {locs : List Loc} {Q : State → Prop} {cc : ByteArray} {nL : Nat} {own : String} {ret : Option FieldType} {fF fL : Nat} {G : GT} {pc idx : Nat} {ls : Array Slot} {rest : List Value} {σ τ : Mem} {res : Int} {l1 : Int} {l2 : Int} (X : CX p R s m args meth c cc nL own ret fF fL G) (hP : PW G σ H) (hS : va_S (AA G) s.heap H locs) (hls : ls.size = nL) (hf : X10_rule σ l1 l2 = some (res, τ)) (h1 : Cond.methodLink own idx yX10_rule ∈ TB) (hR : 4 + 1 ≤ fF ∧ 8 + (4 + 11) + 123 ≤ fL) (hW : (rest.map fun v => v.category).sum ≤ 8) (hd : decode cc pc = .ok (.invokevirtual idx, 3)) (kk : ∀ (H1 : Heap) (locs1 : List Loc), PW G τ H1 → va_S (AA G) s.heap H1 locs1 → W p l e R s m args below meth c H1 locs1 0 0 Q (F0 m (pc + 3) ls (.int (i32 res) :: rest))) : W p l e R s m args below meth c H locs 0 0 Q (F0 m pc ls (.int (i32 l2) :: .int (i32 l1) :: .ref (gh G + 0) :: rest)) := r_callV (n := 2) X hP hS hls (c_X10_rule hf) h1 (tb t_440 rfl) (tb t_441 rfl) (tb t_75 rfl) (tb t_442 rfl) (by decide +kernel) hR (r_recv X hP (kd_lt ks_10 (by decide)) (cE_10 ks_10) rfl) rfl rfl hW hd kk
/-! X10_set -/
theorem dX10_set_0 : decode cX10_set 0 = .ok (.iload_n 1, 1) := by decide +kernel
theorem dX10_set_1 : decode cX10_set 1 = .ok (.invokestatic 58, 3) := by decide +kernel
theorem dX10_set_4 : decode cX10_set 4 = .ok (.ifCond .eq 39, 3) := by decide +kernel
theorem dX10_set_7 : decode cX10_set 7 = .ok (.iload_n 2, 1) := by decide +kernel
theorem dX10_set_8 : decode cX10_set 8 = .ok (.iconst 0, 1) := by decide +kernel
theorem dX10_set_9 : decode cX10_set 9 = .ok (.iconst 3, 1) := by decide +kernel
theorem dX10_set_10 : decode cX10_set 10 = .ok (.invokestatic 62, 3) := by decide +kernel
theorem dX10_set_13 : decode cX10_set 13 = .ok (.ifCond .eq 30, 3) := by decide +kernel
theorem dX10_set_16 : decode cX10_set 16 = .ok (.iload_n 3, 1) := by decide +kernel
theorem dX10_set_17 : decode cX10_set 17 = .ok (.getstatic 66, 3) := by decide +kernel
theorem dX10_set_20 : decode cX10_set 20 = .ok (.iload_n 2, 1) := by decide +kernel
theorem dX10_set_21 : decode cX10_set 21 = .ok (.iaload, 1) := by decide +kernel
theorem dX10_set_22 : decode cX10_set 22 = .ok (.getstatic 69, 3) := by decide +kernel
theorem dX10_set_25 : decode cX10_set 25 = .ok (.iload_n 2, 1) := by decide +kernel
theorem dX10_set_26 : decode cX10_set 26 = .ok (.iaload, 1) := by decide +kernel
theorem dX10_set_27 : decode cX10_set 27 = .ok (.invokestatic 62, 3) := by decide +kernel
theorem dX10_set_30 : decode cX10_set 30 = .ok (.ifCond .eq 13, 3) := by decide +kernel
theorem dX10_set_33 : decode cX10_set 33 = .ok (.iload_n 2, 1) := by decide +kernel
theorem dX10_set_34 : decode cX10_set 34 = .ok (.iconst 2, 1) := by decide +kernel
theorem dX10_set_35 : decode cX10_set 35 = .ok (.if_icmp .ne 15, 3) := by decide +kernel
theorem dX10_set_38 : decode cX10_set 38 = .ok (.iload_n 3, 1) := by decide +kernel
theorem dX10_set_39 : decode cX10_set 39 = .ok (.iload_n 1, 1) := by decide +kernel
theorem dX10_set_40 : decode cX10_set 40 = .ok (.if_icmp .ne 10, 3) := by decide +kernel
theorem dX10_set_43 : decode cX10_set 43 = .ok (.aload_n 0, 1) := by decide +kernel
theorem dX10_set_44 : decode cX10_set 44 = .ok (.ldc 72, 2) := by decide +kernel
theorem dX10_set_46 : decode cX10_set 46 = .ok (.invokevirtual 73, 3) := by decide +kernel
theorem dX10_set_49 : decode cX10_set 49 = .ok (.ireturn, 1) := by decide +kernel
theorem dX10_set_50 : decode cX10_set 50 = .ok (.aload_n 0, 1) := by decide +kernel
theorem dX10_set_51 : decode cX10_set 51 = .ok (.getfield 10, 3) := by decide +kernel
theorem dX10_set_54 : decode cX10_set 54 = .ok (.getfield 77, 3) := by decide +kernel
theorem dX10_set_57 : decode cX10_set 57 = .ok (.iload_n 1, 1) := by decide +kernel
theorem dX10_set_58 : decode cX10_set 58 = .ok (.aaload, 1) := by decide +kernel
theorem dX10_set_59 : decode cX10_set 59 = .ok (.getfield 81, 3) := by decide +kernel
theorem dX10_set_62 : decode cX10_set 62 = .ok (.astore 4, 2) := by decide +kernel
theorem dX10_set_64 : decode cX10_set 64 = .ok (.aload 4, 2) := by decide +kernel
theorem dX10_set_66 : decode cX10_set 66 = .ok (.iload_n 2, 1) := by decide +kernel
theorem dX10_set_67 : decode cX10_set 67 = .ok (.iaload, 1) := by decide +kernel
theorem dX10_set_68 : decode cX10_set 68 = .ok (.istore 5, 2) := by decide +kernel
theorem dX10_set_70 : decode cX10_set 70 = .ok (.aload 4, 2) := by decide +kernel
theorem dX10_set_72 : decode cX10_set 72 = .ok (.iload_n 2, 1) := by decide +kernel
theorem dX10_set_73 : decode cX10_set 73 = .ok (.iload_n 3, 1) := by decide +kernel
theorem dX10_set_74 : decode cX10_set 74 = .ok (.iastore, 1) := by decide +kernel
theorem dX10_set_75 : decode cX10_set 75 = .ok (.aload_n 0, 1) := by decide +kernel
theorem dX10_set_76 : decode cX10_set 76 = .ok (.invokevirtual 86, 3) := by decide +kernel
theorem dX10_set_79 : decode cX10_set 79 = .ok (.iload 5, 2) := by decide +kernel
theorem dX10_set_81 : decode cX10_set 81 = .ok (.ireturn, 1) := by decide +kernel
def X10_set_B50 (σ : Mem) (l1 : Int) (l2 : Int) (l3 : Int) : Option (Int × Mem) :=
  ag 4 l1 fun j1 =>
  ag 4 l2 fun j2 =>
  lt (σ (9 + 3 * j1 + 1) j2) fun l5_3 =>
  ag 4 l2 fun j4 =>
  lt (st σ (9 + 3 * j1 + 1) j4 l3) fun s5 =>
  bd (X10_forgetLayings s5) fun s7 =>
  some (l5_3, s7)
def S_X10_set_50 (fn : Mem → Int → Int → Int → Option (Int × Mem)) (p : Program) (l : Launch) (e : Env) (R : Room) (s : State) (m : MethodId) (args : Array Value) (below : List Frame) (meth : Method) (c : Code) (G : GT) (τ : Mem) (res : Int) : Prop := ∀ (σ : Mem) (H : Heap) (locs : List Loc) (ls : Array Slot) (l1 : Int) (l2 : Int) (l3 : Int), PW G σ H → va_S (AA G) s.heap H locs → fn σ l1 l2 l3 = some (res, τ) → lv_has ls 6 [(0, .ref (gh G + 0)), (1, .int (i32 l1)), (2, .int (i32 l2)), (3, .int (i32 l3))] → W p l e R s m args below meth c H locs 0 0 (MQ below (QM G (some (.int (i32 res))) τ) args s 0 0 (AA G)) (F0 m 50 ls [])
def X10_set_B43 (σ : Mem) : Option (Int × Mem) :=
  bd2 (X10_tell σ (-1000001)) fun r1 s2 =>
  some (r1, s2)
def S_X10_set_43 (fn : Mem → Option (Int × Mem)) (p : Program) (l : Launch) (e : Env) (R : Room) (s : State) (m : MethodId) (args : Array Value) (below : List Frame) (meth : Method) (c : Code) (G : GT) (τ : Mem) (res : Int) : Prop := ∀ (σ : Mem) (H : Heap) (locs : List Loc) (ls : Array Slot), PW G σ H → va_S (AA G) s.heap H locs → fn σ = some (res, τ) → lv_has ls 6 [(0, .ref (gh G + 0))] → W p l e R s m args below meth c H locs 0 0 (MQ below (QM G (some (.int (i32 res))) τ) args s 0 0 (AA G)) (F0 m 43 ls [])
def X10_set (σ : Mem) (l1 : Int) (l2 : Int) (l3 : Int) : Option (Int × Mem) :=
  bd (X10_isPart σ l1) fun r1 =>
  if w32 r1 = 0 then
    X10_set_B43 σ
  else
  bd (X10_within σ l2 0 3) fun r2 =>
  if w32 r2 = 0 then
    X10_set_B43 σ
  else
  ag 4 l2 fun j3 =>
  ag 4 l2 fun j4 =>
  bd (X10_within σ l3 (sv 0 j3) (sv 1 j4)) fun r5 =>
  if w32 r5 = 0 then
    X10_set_B43 σ
  else
  if w32 l2 ≠ w32 2 then
    X10_set_B50 σ l1 l2 l3
  else
  if w32 l3 ≠ w32 l1 then
    X10_set_B50 σ l1 l2 l3
  else
  X10_set_B43 σ
def S_X10_set_0 (fn : Mem → Int → Int → Int → Option (Int × Mem)) (p : Program) (l : Launch) (e : Env) (R : Room) (s : State) (m : MethodId) (args : Array Value) (below : List Frame) (meth : Method) (c : Code) (G : GT) (τ : Mem) (res : Int) : Prop := ∀ (σ : Mem) (H : Heap) (locs : List Loc) (ls : Array Slot) (l1 : Int) (l2 : Int) (l3 : Int), PW G σ H → va_S (AA G) s.heap H locs → fn σ l1 l2 l3 = some (res, τ) → lv_has ls 6 [(0, .ref (gh G + 0)), (1, .int (i32 l1)), (2, .int (i32 l2)), (3, .int (i32 l3))] → W p l e R s m args below meth c H locs 0 0 (MQ below (QM G (some (.int (i32 res))) τ) args s 0 0 (AA G)) (F0 m 0 ls [])
set_option maxHeartbeats 4000000 in
theorem a_X10_set_50 {p : Program} {l : Launch} {e : Env} {R : Room} {s : State} {m : MethodId} {args : Array Value} {below : List Frame} {meth : Method} {c : Code} {G : GT} {τ : Mem} {res : Int} (X : CX p R s m args meth c cX10_set 6 RX10 (some FieldType.int) 3 104 G) : S_X10_set_50 (X10_set_B50) p l e R s m args below meth c G τ res := by
  intro σ H locs ls l1 l2 l3 hP hS hf hl
  unfold X10_set_B50 at hf
  refine lv_aload_n X.1 X.2.1 dX10_set_50 rfl (lv_at hl 0 rfl) ?_
  refine g_10_0 (r := 1) X hP ks_10 rfl (tb t_388 rfl) dX10_set_51 ?_
  refine g_7_0 (r := 2) X hP (ch_10_0 ks_10).1 rfl (tb t_170 rfl) dX10_set_54 ?_
  refine lv_iload_n X.1 X.2.1 dX10_set_57 rfl (lv_at hl 1 rfl) ?_
  obtain ⟨j1, hij1, hjj1, hlj1, hf⟩ := ag_inv hf
  refine r_aald18 (r := 9 + 3 * j1) X hP (ch_7_0 (ch_10_0 ks_10).1).1 (ch_7_0 (ch_10_0 ks_10).1).2 hij1 hjj1 rfl dX10_set_58 ?_
  refine g_5_0 (r := 9 + 3 * j1 + 1) X hP ((ch_18 (ch_7_0 (ch_10_0 ks_10).1).1).2 j1 hlj1) rfl (tb t_152 rfl) dX10_set_59 ?_
  refine lv_astore (lv' := [(4, .ref (gh G + (9 + 3 * j1 + 1))), (0, .ref (gh G + 0)), (1, .int (i32 l1)), (2, .int (i32 l2)), (3, .int (i32 l3))]) X.1 X.2.1 dX10_set_62 hl (by decide) rfl (fun ls hl => ?_)
  refine lv_aload X.1 X.2.1 dX10_set_64 (lv_at hl 0 rfl) ?_
  refine lv_iload_n X.1 X.2.1 dX10_set_66 rfl (lv_at hl 3 rfl) ?_
  obtain ⟨j2, hij2, hjj2, hlj2, hf⟩ := ag_inv hf
  refine r_iald X hP (ch_5_0 ((ch_18 (ch_7_0 (ch_10_0 ks_10).1).1).2 j1 hlj1)).1 (ch_5_0 ((ch_18 (ch_7_0 (ch_10_0 ks_10).1).1).2 j1 hlj1)).2 hij2 hjj2 dX10_set_67 ?_
  obtain ⟨l5_3, el5_3, hf⟩ := lt_inv hf
  refine r_eqi el5_3 ?_
  refine lv_istore (lv' := [(5, .int (i32 l5_3)), (4, .ref (gh G + (9 + 3 * j1 + 1))), (0, .ref (gh G + 0)), (1, .int (i32 l1)), (2, .int (i32 l2)), (3, .int (i32 l3))]) X.1 X.2.1 dX10_set_68 hl (by decide) rfl (fun ls hl => ?_)
  refine lv_aload X.1 X.2.1 dX10_set_70 (lv_at hl 1 rfl) ?_
  refine lv_iload_n X.1 X.2.1 dX10_set_72 rfl (lv_at hl 4 rfl) ?_
  refine lv_iload_n X.1 X.2.1 dX10_set_73 rfl (lv_at hl 5 rfl) ?_
  obtain ⟨j4, hij4, hjj4, hlj4, hf⟩ := ag_inv hf
  refine r_iast X hP hS (ch_5_0 ((ch_18 (ch_7_0 (ch_10_0 ks_10).1).1).2 j1 hlj1)).1 (ch_5_0 ((ch_18 (ch_7_0 (ch_10_0 ks_10).1).1).2 j1 hlj1)).2 hij4 hjj4 dX10_set_74 (fun H locs hP hS => ?_)
  obtain ⟨s5, es5, hf⟩ := lt_inv hf
  rw [es5] at hP
  refine lv_aload_n X.1 X.2.1 dX10_set_75 rfl (lv_at hl 2 rfl) ?_
  obtain ⟨s7, hr6, hf⟩ := bd_inv hf
  refine k_X10_forgetLayings X hP hS hl.1  hr6 (tb t_435 rfl) (by decide) (Nat.le_of_ble_eq_true rfl) dX10_set_76 (fun H locs hP hS => ?_)
  refine lv_iload X.1 X.2.1 dX10_set_79 (lv_at hl 0 rfl) ?_
  obtain ⟨rfl, rfl⟩ := so2_inv hf
  exact r_iret X hP hS dX10_set_81
set_option maxHeartbeats 4000000 in
theorem a_X10_set_43 {p : Program} {l : Launch} {e : Env} {R : Room} {s : State} {m : MethodId} {args : Array Value} {below : List Frame} {meth : Method} {c : Code} {G : GT} {τ : Mem} {res : Int} (X : CX p R s m args meth c cX10_set 6 RX10 (some FieldType.int) 3 104 G) : S_X10_set_43 (X10_set_B43) p l e R s m args below meth c G τ res := by
  intro σ H locs ls hP hS hf hl
  unfold X10_set_B43 at hf
  refine lv_aload_n X.1 X.2.1 dX10_set_43 rfl (lv_at hl 0 rfl) ?_
  refine r_ldc X (-1000001) (tb t_430 rfl) (by decide) dX10_set_44 ?_
  obtain ⟨r1, s2, hr1, hf⟩ := bd2_inv hf
  refine k_X10_tell X hP hS hl.1  hr1 (tb t_431 rfl) (by decide) (Nat.le_of_ble_eq_true rfl) dX10_set_46 (fun H locs hP hS => ?_)
  obtain ⟨rfl, rfl⟩ := so2_inv hf
  exact r_iret X hP hS dX10_set_49
set_option maxHeartbeats 4000000 in
theorem a_X10_set_0 {p : Program} {l : Launch} {e : Env} {R : Room} {s : State} {m : MethodId} {args : Array Value} {below : List Frame} {meth : Method} {c : Code} {G : GT} {τ : Mem} {res : Int} (X : CX p R s m args meth c cX10_set 6 RX10 (some FieldType.int) 3 104 G) : S_X10_set_0 (X10_set) p l e R s m args below meth c G τ res := by
  intro σ H locs ls l1 l2 l3 hP hS hf hl
  unfold X10_set at hf
  refine lv_iload_n X.1 X.2.1 dX10_set_0 rfl (lv_at hl 1 rfl) ?_
  obtain ⟨r1, hr1, hf⟩ := bd_inv hf
  refine k_X10_isPart X hP hS hl.1  hr1 (tb t_420 rfl) (by decide) (Nat.le_of_ble_eq_true rfl) dX10_set_1 (fun H locs hP hS => ?_)
  refine r_if_eq (tgt := 43) X dX10_set_4 (by decide) (fun q => ?_) (fun q => ?_)
  · replace hf := it_inv q hf
    exact a_X10_set_43 X σ H locs ls  hP hS hf (lv_sub hl [0] rfl)
  · replace hf := ie_inv q hf
    refine lv_iload_n X.1 X.2.1 dX10_set_7 rfl (lv_at hl 2 rfl) ?_
    refine r_iconst X 0 dX10_set_8 ?_
    refine r_iconst X 3 dX10_set_9 ?_
    obtain ⟨r2, hr2, hf⟩ := bd_inv hf
    refine k_X10_within X hP hS hl.1  hr2 (tb t_423 rfl) (by decide) (Nat.le_of_ble_eq_true rfl) dX10_set_10 (fun H locs hP hS => ?_)
    refine r_if_eq (tgt := 43) X dX10_set_13 (by decide) (fun q => ?_) (fun q => ?_)
    · replace hf := it_inv q hf
      exact a_X10_set_43 X σ H locs ls  hP hS hf (lv_sub hl [0] rfl)
    · replace hf := ie_inv q hf
      refine lv_iload_n X.1 X.2.1 dX10_set_16 rfl (lv_at hl 3 rfl) ?_
      refine r_gets (i := 0) X hS (by decide) (tb t_426 rfl) dX10_set_17 ?_
      refine lv_iload_n X.1 X.2.1 dX10_set_20 rfl (lv_at hl 2 rfl) ?_
      obtain ⟨j3, hij3, hjj3, hlj3, hf⟩ := ag_inv hf
      refine r_sald (i := 0) X hS (by decide) (n := 4) rfl hij3 hjj3 dX10_set_21 ?_
      refine r_gets (i := 1) X hS (by decide) (tb t_428 rfl) dX10_set_22 ?_
      refine lv_iload_n X.1 X.2.1 dX10_set_25 rfl (lv_at hl 2 rfl) ?_
      obtain ⟨j4, hij4, hjj4, hlj4, hf⟩ := ag_inv hf
      refine r_sald (i := 1) X hS (by decide) (n := 4) rfl hij4 hjj4 dX10_set_26 ?_
      obtain ⟨r5, hr5, hf⟩ := bd_inv hf
      refine k_X10_within X hP hS hl.1  hr5 (tb t_423 rfl) (by decide) (Nat.le_of_ble_eq_true rfl) dX10_set_27 (fun H locs hP hS => ?_)
      refine r_if_eq (tgt := 43) X dX10_set_30 (by decide) (fun q => ?_) (fun q => ?_)
      · replace hf := it_inv q hf
        exact a_X10_set_43 X σ H locs ls  hP hS hf (lv_sub hl [0] rfl)
      · replace hf := ie_inv q hf
        refine lv_iload_n X.1 X.2.1 dX10_set_33 rfl (lv_at hl 2 rfl) ?_
        refine r_iconst X 2 dX10_set_34 ?_
        refine r_icmp_ne (tgt := 50) X dX10_set_35 (by decide) (fun q => ?_) (fun q => ?_)
        · replace hf := it_inv q hf
          exact a_X10_set_50 X σ H locs ls l1 l2 l3 hP hS hf hl
        · replace hf := ie_inv q hf
          refine lv_iload_n X.1 X.2.1 dX10_set_38 rfl (lv_at hl 3 rfl) ?_
          refine lv_iload_n X.1 X.2.1 dX10_set_39 rfl (lv_at hl 1 rfl) ?_
          refine r_icmp_ne (tgt := 50) X dX10_set_40 (by decide) (fun q => ?_) (fun q => ?_)
          · replace hf := it_inv q hf
            exact a_X10_set_50 X σ H locs ls l1 l2 l3 hP hS hf hl
          · replace hf := ie_inv q hf
            exact a_X10_set_43 X σ H locs ls  hP hS hf (lv_sub hl [0] rfl)
set_option maxHeartbeats 4000000 in
theorem c_X10_set {l : Launch} {G : GT} {σ τ : Mem} {res : Int} {l1 : Int} {l2 : Int} {l3 : Int} (hf : X10_set σ l1 l2 l3 = some (res, τ)) : CT l yX10_set cX10_set 6 (some FieldType.int) 3 104 G [.ref (gh G + 0), .int (i32 l1), .int (i32 l2), .int (i32 l3)] σ τ (some (.int (i32 res))) := by
  refine CT.mk (own := RX10) (by decide) rfl (Nat.le_of_ble_eq_true rfl) ?_
  intro p e s m below meth c ls X hP hS hl
  have hl : lv_has ls 6 [(0, .ref (gh G + 0)), (1, .int (i32 l1)), (2, .int (i32 l2)), (3, .int (i32 l3))] := hl
  exact a_X10_set_0 X σ s.heap [] ls l1 l2 l3 hP hS hf hl
theorem k_X10_set {p : Program} {l : Launch} {e : Env} {R : Room} {s : State} {m : MethodId} {args : Array Value} {below : List Frame} {meth : Method} {c : Code} {H : Heap} {locs : List Loc} {Q : State → Prop} {cc : ByteArray} {nL : Nat} {own : String} {ret : Option FieldType} {fF fL : Nat} {G : GT} {pc idx : Nat} {ls : Array Slot} {rest : List Value} {σ τ : Mem} {res : Int} {l1 : Int} {l2 : Int} {l3 : Int} (X : CX p R s m args meth c cc nL own ret fF fL G) (hP : PW G σ H) (hS : va_S (AA G) s.heap H locs) (hls : ls.size = nL) (hf : X10_set σ l1 l2 l3 = some (res, τ)) (h1 : Cond.methodLink own idx yX10_set ∈ TB) (hR : 3 + 1 ≤ fF ∧ 8 + (6 + 11) + 104 ≤ fL) (hW : (rest.map fun v => v.category).sum ≤ 8) (hd : decode cc pc = .ok (.invokevirtual idx, 3)) (kk : ∀ (H1 : Heap) (locs1 : List Loc), PW G τ H1 → va_S (AA G) s.heap H1 locs1 → W p l e R s m args below meth c H1 locs1 0 0 Q (F0 m (pc + 3) ls (.int (i32 res) :: rest))) : W p l e R s m args below meth c H locs 0 0 Q (F0 m pc ls (.int (i32 l3) :: .int (i32 l2) :: .int (i32 l1) :: .ref (gh G + 0) :: rest)) := r_callV (n := 3) X hP hS hls (c_X10_set hf) h1 (tb t_417 rfl) (tb t_418 rfl) (tb t_75 rfl) (tb t_419 rfl) (by decide +kernel) hR (r_recv X hP (kd_lt ks_10 (by decide)) (cE_10 ks_10) rfl) rfl rfl hW hd kk
/-! X6_renew -/
theorem dX6_renew_0 : decode cX6_renew 0 = .ok (.aload_n 0, 1) := by decide +kernel
theorem dX6_renew_1 : decode cX6_renew 1 = .ok (.iload_n 1, 1) := by decide +kernel
theorem dX6_renew_2 : decode cX6_renew 2 = .ok (.putfield 15, 3) := by decide +kernel
theorem dX6_renew_5 : decode cX6_renew 5 = .ok (.aload_n 0, 1) := by decide +kernel
theorem dX6_renew_6 : decode cX6_renew 6 = .ok (.iload_n 1, 1) := by decide +kernel
theorem dX6_renew_7 : decode cX6_renew 7 = .ok (.ifCond .ne 7, 3) := by decide +kernel
theorem dX6_renew_10 : decode cX6_renew 10 = .ok (.iconst 0, 1) := by decide +kernel
theorem dX6_renew_11 : decode cX6_renew 11 = .ok (.goto 4, 3) := by decide +kernel
theorem dX6_renew_14 : decode cX6_renew 14 = .ok (.iload_n 2, 1) := by decide +kernel
theorem dX6_renew_15 : decode cX6_renew 15 = .ok (.putfield 19, 3) := by decide +kernel
theorem dX6_renew_18 : decode cX6_renew 18 = .ok (.aload_n 0, 1) := by decide +kernel
theorem dX6_renew_19 : decode cX6_renew 19 = .ok (.getfield 9, 3) := by decide +kernel
theorem dX6_renew_22 : decode cX6_renew 22 = .ok (.iconst 0, 1) := by decide +kernel
theorem dX6_renew_23 : decode cX6_renew 23 = .ok (.invokestatic 22, 3) := by decide +kernel
theorem dX6_renew_26 : decode cX6_renew 26 = .ok (.aload_n 0, 1) := by decide +kernel
theorem dX6_renew_27 : decode cX6_renew 27 = .ok (.getfield 19, 3) := by decide +kernel
theorem dX6_renew_30 : decode cX6_renew 30 = .ok (.ireturn, 1) := by decide +kernel
def X6_renew_B15 (σ : Mem) (l0 : Nat) (k0 : Nat) (k1 : Int) : Option (Int × Mem) :=
  lt (st σ k0 2 k1) fun s1 =>
  bd (J7_fill_53178 s1 (l0 + 1) 0) fun s3 =>
  some (s3 l0 2, s3)
def S_X6_renew_15 (fn : Mem → Nat → Nat → Int → Option (Int × Mem)) (p : Program) (l : Launch) (e : Env) (R : Room) (s : State) (m : MethodId) (args : Array Value) (below : List Frame) (meth : Method) (c : Code) (G : GT) (τ : Mem) (res : Int) : Prop := ∀ (σ : Mem) (H : Heap) (locs : List Loc) (ls : Array Slot) (l0 : Nat) (k0 : Nat) (k1 : Int), kd l0 = 6 → kd k0 = 6 → PW G σ H → va_S (AA G) s.heap H locs → fn σ l0 k0 k1 = some (res, τ) → lv_has ls 3 [(0, .ref (gh G + l0))] → W p l e R s m args below meth c H locs 0 0 (MQ below (QM G (some (.int (i32 res))) τ) args s 0 0 (AA G)) (F0 m 15 ls [.int (i32 k1), .ref (gh G + k0)])
def X6_renew (σ : Mem) (l0 : Nat) (l1 : Int) (l2 : Int) : Option (Int × Mem) :=
  lt (st σ l0 1 l1) fun s1 =>
  if w32 l1 ≠ 0 then
    X6_renew_B15 s1 l0 l0 l2
  else
  X6_renew_B15 s1 l0 l0 0
def S_X6_renew_0 (fn : Mem → Nat → Int → Int → Option (Int × Mem)) (p : Program) (l : Launch) (e : Env) (R : Room) (s : State) (m : MethodId) (args : Array Value) (below : List Frame) (meth : Method) (c : Code) (G : GT) (τ : Mem) (res : Int) : Prop := ∀ (σ : Mem) (H : Heap) (locs : List Loc) (ls : Array Slot) (l0 : Nat) (l1 : Int) (l2 : Int), kd l0 = 6 → PW G σ H → va_S (AA G) s.heap H locs → fn σ l0 l1 l2 = some (res, τ) → lv_has ls 3 [(0, .ref (gh G + l0)), (1, .int (i32 l1)), (2, .int (i32 l2))] → W p l e R s m args below meth c H locs 0 0 (MQ below (QM G (some (.int (i32 res))) τ) args s 0 0 (AA G)) (F0 m 0 ls [])
set_option maxHeartbeats 4000000 in
theorem a_X6_renew_15 {p : Program} {l : Launch} {e : Env} {R : Room} {s : State} {m : MethodId} {args : Array Value} {below : List Frame} {meth : Method} {c : Code} {G : GT} {τ : Mem} {res : Int} (X : CX p R s m args meth c cX6_renew 3 RX6 (some FieldType.int) 2 83 G) : S_X6_renew_15 (X6_renew_B15) p l e R s m args below meth c G τ res := by
  intro σ H locs ls l0 k0 k1 hk_l0 hk_k0 hP hS hf hl
  unfold X6_renew_B15 at hf
  refine p_6_2 X hP hS hk_k0 (tb t_308 rfl) dX6_renew_15 (fun H locs hP hS => ?_)
  obtain ⟨s1, es1, hf⟩ := lt_inv hf
  rw [es1] at hP
  refine lv_aload_n X.1 X.2.1 dX6_renew_18 rfl (lv_at hl 0 rfl) ?_
  refine g_6_0 (r := l0 + 1) X hP hk_l0 rfl (tb t_304 rfl) dX6_renew_19 ?_
  refine r_iconst X 0 dX6_renew_22 ?_
  obtain ⟨s3, hr2, hf⟩ := bd_inv hf
  refine k_J7_fill_53178 X hP hS hl.1 (ch_6_0 hk_l0).1 hr2 (tb t_1005 rfl) (by decide) (Nat.le_of_ble_eq_true rfl) dX6_renew_23 (fun H locs hP hS => ?_)
  refine lv_aload_n X.1 X.2.1 dX6_renew_26 rfl (lv_at hl 0 rfl) ?_
  refine g_6_2 X hP hk_l0 (tb t_308 rfl) dX6_renew_27 ?_
  obtain ⟨rfl, rfl⟩ := so2_inv hf
  exact r_iret X hP hS dX6_renew_30
set_option maxHeartbeats 4000000 in
theorem a_X6_renew_0 {p : Program} {l : Launch} {e : Env} {R : Room} {s : State} {m : MethodId} {args : Array Value} {below : List Frame} {meth : Method} {c : Code} {G : GT} {τ : Mem} {res : Int} (X : CX p R s m args meth c cX6_renew 3 RX6 (some FieldType.int) 2 83 G) : S_X6_renew_0 (X6_renew) p l e R s m args below meth c G τ res := by
  intro σ H locs ls l0 l1 l2 hk_l0 hP hS hf hl
  unfold X6_renew at hf
  refine lv_aload_n X.1 X.2.1 dX6_renew_0 rfl (lv_at hl 0 rfl) ?_
  refine lv_iload_n X.1 X.2.1 dX6_renew_1 rfl (lv_at hl 1 rfl) ?_
  refine p_6_1 X hP hS hk_l0 (tb t_306 rfl) dX6_renew_2 (fun H locs hP hS => ?_)
  obtain ⟨s1, es1, hf⟩ := lt_inv hf
  rw [es1] at hP
  refine lv_aload_n X.1 X.2.1 dX6_renew_5 rfl (lv_at hl 0 rfl) ?_
  refine lv_iload_n X.1 X.2.1 dX6_renew_6 rfl (lv_at hl 1 rfl) ?_
  refine r_if_ne (tgt := 14) X dX6_renew_7 (by decide) (fun q => ?_) (fun q => ?_)
  · replace hf := it_inv q hf
    refine lv_iload_n X.1 X.2.1 dX6_renew_14 rfl (lv_at hl 2 rfl) ?_
    exact a_X6_renew_15 X s1 H locs ls l0 l0 l2 hk_l0 hk_l0 hP hS hf (lv_sub hl [0] rfl)
  · replace hf := ie_inv q hf
    refine r_iconst X 0 dX6_renew_10 ?_
    refine lv_goto (tgt := 15) X.1 X.2.1 dX6_renew_11 (by decide) ?_
    exact a_X6_renew_15 X s1 H locs ls l0 l0 0 hk_l0 hk_l0 hP hS hf (lv_sub hl [0] rfl)
set_option maxHeartbeats 4000000 in
theorem c_X6_renew {l : Launch} {G : GT} {σ τ : Mem} {res : Int} {l0 : Nat} {l1 : Int} {l2 : Int} (hk_l0 : kd l0 = 6) (hf : X6_renew σ l0 l1 l2 = some (res, τ)) : CT l yX6_renew cX6_renew 3 (some FieldType.int) 2 83 G [.ref (gh G + l0), .int (i32 l1), .int (i32 l2)] σ τ (some (.int (i32 res))) := by
  refine CT.mk (own := RX6) (by decide) rfl (Nat.le_of_ble_eq_true rfl) ?_
  intro p e s m below meth c ls X hP hS hl
  have hl : lv_has ls 3 [(0, .ref (gh G + l0)), (1, .int (i32 l1)), (2, .int (i32 l2))] := hl
  exact a_X6_renew_0 X σ s.heap [] ls l0 l1 l2 hk_l0 hP hS hf hl
theorem k_X6_renew {p : Program} {l : Launch} {e : Env} {R : Room} {s : State} {m : MethodId} {args : Array Value} {below : List Frame} {meth : Method} {c : Code} {H : Heap} {locs : List Loc} {Q : State → Prop} {cc : ByteArray} {nL : Nat} {own : String} {ret : Option FieldType} {fF fL : Nat} {G : GT} {pc idx : Nat} {ls : Array Slot} {rest : List Value} {σ τ : Mem} {res : Int} {l0 : Nat} {l1 : Int} {l2 : Int} (X : CX p R s m args meth c cc nL own ret fF fL G) (hP : PW G σ H) (hS : va_S (AA G) s.heap H locs) (hls : ls.size = nL) (hk_l0 : kd l0 = 6) (hf : X6_renew σ l0 l1 l2 = some (res, τ)) (h1 : Cond.methodLink own idx yX6_renew ∈ TB) (hR : 2 + 1 ≤ fF ∧ 8 + (3 + 11) + 83 ≤ fL) (hW : (rest.map fun v => v.category).sum ≤ 8) (hd : decode cc pc = .ok (.invokevirtual idx, 3)) (kk : ∀ (H1 : Heap) (locs1 : List Loc), PW G τ H1 → va_S (AA G) s.heap H1 locs1 → W p l e R s m args below meth c H1 locs1 0 0 Q (F0 m (pc + 3) ls (.int (i32 res) :: rest))) : W p l e R s m args below meth c H locs 0 0 Q (F0 m pc ls (.int (i32 l2) :: .int (i32 l1) :: .ref (gh G + l0) :: rest)) := r_callV (n := 2) X hP hS hls (c_X6_renew hk_l0 hf) h1 (tb t_1002 rfl) (tb t_1003 rfl) (tb t_84 rfl) (tb t_1004 rfl) (by decide +kernel) hR (r_recv X hP (kd_lt hk_l0 (by decide)) (cE_6 hk_l0) rfl) rfl rfl hW hd kk
/-! X10_sheet -/
theorem dX10_sheet_0 : decode cX10_sheet 0 = .ok (.iload_n 2, 1) := by decide +kernel
theorem dX10_sheet_1 : decode cX10_sheet 1 = .ok (.ifCond .eq 21, 3) := by decide +kernel
theorem dX10_sheet_4 : decode cX10_sheet 4 = .ok (.iload_n 2, 1) := by decide +kernel
theorem dX10_sheet_5 : decode cX10_sheet 5 = .ok (.bipush 8, 2) := by decide +kernel
theorem dX10_sheet_7 : decode cX10_sheet 7 = .ok (.if_icmp .eq 15, 3) := by decide +kernel
theorem dX10_sheet_10 : decode cX10_sheet 10 = .ok (.iload_n 2, 1) := by decide +kernel
theorem dX10_sheet_11 : decode cX10_sheet 11 = .ok (.bipush 16, 2) := by decide +kernel
theorem dX10_sheet_13 : decode cX10_sheet 13 = .ok (.if_icmp .eq 9, 3) := by decide +kernel
theorem dX10_sheet_16 : decode cX10_sheet 16 = .ok (.iload_n 2, 1) := by decide +kernel
theorem dX10_sheet_17 : decode cX10_sheet 17 = .ok (.bipush 32, 2) := by decide +kernel
theorem dX10_sheet_19 : decode cX10_sheet 19 = .ok (.if_icmp .ne 7, 3) := by decide +kernel
theorem dX10_sheet_22 : decode cX10_sheet 22 = .ok (.iconst 1, 1) := by decide +kernel
theorem dX10_sheet_23 : decode cX10_sheet 23 = .ok (.goto 4, 3) := by decide +kernel
theorem dX10_sheet_26 : decode cX10_sheet 26 = .ok (.iconst 0, 1) := by decide +kernel
theorem dX10_sheet_27 : decode cX10_sheet 27 = .ok (.istore 4, 2) := by decide +kernel
theorem dX10_sheet_29 : decode cX10_sheet 29 = .ok (.iload_n 1, 1) := by decide +kernel
theorem dX10_sheet_30 : decode cX10_sheet 30 = .ok (.invokestatic 300, 3) := by decide +kernel
theorem dX10_sheet_33 : decode cX10_sheet 33 = .ok (.ifCond .eq 8, 3) := by decide +kernel
theorem dX10_sheet_36 : decode cX10_sheet 36 = .ok (.iload 4, 2) := by decide +kernel
theorem dX10_sheet_38 : decode cX10_sheet 38 = .ok (.ifCond .ne 10, 3) := by decide +kernel
theorem dX10_sheet_41 : decode cX10_sheet 41 = .ok (.aload_n 0, 1) := by decide +kernel
theorem dX10_sheet_42 : decode cX10_sheet 42 = .ok (.ldc 72, 2) := by decide +kernel
theorem dX10_sheet_44 : decode cX10_sheet 44 = .ok (.invokevirtual 73, 3) := by decide +kernel
theorem dX10_sheet_47 : decode cX10_sheet 47 = .ok (.ireturn, 1) := by decide +kernel
theorem dX10_sheet_48 : decode cX10_sheet 48 = .ok (.iload_n 3, 1) := by decide +kernel
theorem dX10_sheet_49 : decode cX10_sheet 49 = .ok (.ifCond .ge 11, 3) := by decide +kernel
theorem dX10_sheet_52 : decode cX10_sheet 52 = .ok (.aload_n 0, 1) := by decide +kernel
theorem dX10_sheet_53 : decode cX10_sheet 53 = .ok (.ldc_w 303, 3) := by decide +kernel
theorem dX10_sheet_56 : decode cX10_sheet 56 = .ok (.invokevirtual 73, 3) := by decide +kernel
theorem dX10_sheet_59 : decode cX10_sheet 59 = .ok (.ireturn, 1) := by decide +kernel
theorem dX10_sheet_60 : decode cX10_sheet 60 = .ok (.iload_n 3, 1) := by decide +kernel
theorem dX10_sheet_61 : decode cX10_sheet 61 = .ok (.bipush 40, 2) := by decide +kernel
theorem dX10_sheet_63 : decode cX10_sheet 63 = .ok (.if_icmp .le 10, 3) := by decide +kernel
theorem dX10_sheet_66 : decode cX10_sheet 66 = .ok (.aload_n 0, 1) := by decide +kernel
theorem dX10_sheet_67 : decode cX10_sheet 67 = .ok (.ldc 72, 2) := by decide +kernel
theorem dX10_sheet_69 : decode cX10_sheet 69 = .ok (.invokevirtual 73, 3) := by decide +kernel
theorem dX10_sheet_72 : decode cX10_sheet 72 = .ok (.ireturn, 1) := by decide +kernel
theorem dX10_sheet_73 : decode cX10_sheet 73 = .ok (.aload_n 0, 1) := by decide +kernel
theorem dX10_sheet_74 : decode cX10_sheet 74 = .ok (.getfield 28, 3) := by decide +kernel
theorem dX10_sheet_77 : decode cX10_sheet 77 = .ok (.iload_n 1, 1) := by decide +kernel
theorem dX10_sheet_78 : decode cX10_sheet 78 = .ok (.aaload, 1) := by decide +kernel
theorem dX10_sheet_79 : decode cX10_sheet 79 = .ok (.iload_n 2, 1) := by decide +kernel
theorem dX10_sheet_80 : decode cX10_sheet 80 = .ok (.iload_n 3, 1) := by decide +kernel
theorem dX10_sheet_81 : decode cX10_sheet 81 = .ok (.invokevirtual 304, 3) := by decide +kernel
theorem dX10_sheet_84 : decode cX10_sheet 84 = .ok (.ireturn, 1) := by decide +kernel
def X10_sheet_B41 (σ : Mem) : Option (Int × Mem) :=
  bd2 (X10_tell σ (-1000001)) fun r1 s2 =>
  some (r1, s2)
def S_X10_sheet_41 (fn : Mem → Option (Int × Mem)) (p : Program) (l : Launch) (e : Env) (R : Room) (s : State) (m : MethodId) (args : Array Value) (below : List Frame) (meth : Method) (c : Code) (G : GT) (τ : Mem) (res : Int) : Prop := ∀ (σ : Mem) (H : Heap) (locs : List Loc) (ls : Array Slot), PW G σ H → va_S (AA G) s.heap H locs → fn σ = some (res, τ) → lv_has ls 5 [(0, .ref (gh G + 0))] → W p l e R s m args below meth c H locs 0 0 (MQ below (QM G (some (.int (i32 res))) τ) args s 0 0 (AA G)) (F0 m 41 ls [])
def X10_sheet_B27 (σ : Mem) (l1 : Int) (l2 : Int) (l3 : Int) (k0 : Int) : Option (Int × Mem) :=
  bd (X10_isSheet σ l1) fun r1 =>
  if w32 r1 = 0 then
    X10_sheet_B41 σ
  else
  if w32 k0 ≠ 0 then
    if 0 ≤ w32 l3 then
      if w32 l3 ≤ w32 40 then
        ag 4 l1 fun j2 =>
        bd2 (X6_renew σ (63 + 2 * j2) l2 l3) fun r3 s4 =>
        some (r3, s4)
      else
      bd2 (X10_tell σ (-1000001)) fun r5 s6 =>
      some (r5, s6)
    else
    bd2 (X10_tell σ (-1000007)) fun r7 s8 =>
    some (r7, s8)
  else
  X10_sheet_B41 σ
def S_X10_sheet_27 (fn : Mem → Int → Int → Int → Int → Option (Int × Mem)) (p : Program) (l : Launch) (e : Env) (R : Room) (s : State) (m : MethodId) (args : Array Value) (below : List Frame) (meth : Method) (c : Code) (G : GT) (τ : Mem) (res : Int) : Prop := ∀ (σ : Mem) (H : Heap) (locs : List Loc) (ls : Array Slot) (l1 : Int) (l2 : Int) (l3 : Int) (k0 : Int), PW G σ H → va_S (AA G) s.heap H locs → fn σ l1 l2 l3 k0 = some (res, τ) → lv_has ls 5 [(0, .ref (gh G + 0)), (1, .int (i32 l1)), (2, .int (i32 l2)), (3, .int (i32 l3))] → W p l e R s m args below meth c H locs 0 0 (MQ below (QM G (some (.int (i32 res))) τ) args s 0 0 (AA G)) (F0 m 27 ls [.int (i32 k0)])
def X10_sheet_B22 (σ : Mem) (l1 : Int) (l2 : Int) (l3 : Int) : Option (Int × Mem) :=
  X10_sheet_B27 σ l1 l2 l3 1
def S_X10_sheet_22 (fn : Mem → Int → Int → Int → Option (Int × Mem)) (p : Program) (l : Launch) (e : Env) (R : Room) (s : State) (m : MethodId) (args : Array Value) (below : List Frame) (meth : Method) (c : Code) (G : GT) (τ : Mem) (res : Int) : Prop := ∀ (σ : Mem) (H : Heap) (locs : List Loc) (ls : Array Slot) (l1 : Int) (l2 : Int) (l3 : Int), PW G σ H → va_S (AA G) s.heap H locs → fn σ l1 l2 l3 = some (res, τ) → lv_has ls 5 [(0, .ref (gh G + 0)), (1, .int (i32 l1)), (2, .int (i32 l2)), (3, .int (i32 l3))] → W p l e R s m args below meth c H locs 0 0 (MQ below (QM G (some (.int (i32 res))) τ) args s 0 0 (AA G)) (F0 m 22 ls [])
def X10_sheet (σ : Mem) (l1 : Int) (l2 : Int) (l3 : Int) : Option (Int × Mem) :=
  if w32 l2 = 0 then
    X10_sheet_B22 σ l1 l2 l3
  else
  if w32 l2 = w32 8 then
    X10_sheet_B22 σ l1 l2 l3
  else
  if w32 l2 = w32 16 then
    X10_sheet_B22 σ l1 l2 l3
  else
  if w32 l2 ≠ w32 32 then
    X10_sheet_B27 σ l1 l2 l3 0
  else
  X10_sheet_B22 σ l1 l2 l3
def S_X10_sheet_0 (fn : Mem → Int → Int → Int → Option (Int × Mem)) (p : Program) (l : Launch) (e : Env) (R : Room) (s : State) (m : MethodId) (args : Array Value) (below : List Frame) (meth : Method) (c : Code) (G : GT) (τ : Mem) (res : Int) : Prop := ∀ (σ : Mem) (H : Heap) (locs : List Loc) (ls : Array Slot) (l1 : Int) (l2 : Int) (l3 : Int), PW G σ H → va_S (AA G) s.heap H locs → fn σ l1 l2 l3 = some (res, τ) → lv_has ls 5 [(0, .ref (gh G + 0)), (1, .int (i32 l1)), (2, .int (i32 l2)), (3, .int (i32 l3))] → W p l e R s m args below meth c H locs 0 0 (MQ below (QM G (some (.int (i32 res))) τ) args s 0 0 (AA G)) (F0 m 0 ls [])
set_option maxHeartbeats 4000000 in
theorem a_X10_sheet_41 {p : Program} {l : Launch} {e : Env} {R : Room} {s : State} {m : MethodId} {args : Array Value} {below : List Frame} {meth : Method} {c : Code} {G : GT} {τ : Mem} {res : Int} (X : CX p R s m args meth c cX10_sheet 5 RX10 (some FieldType.int) 3 105 G) : S_X10_sheet_41 (X10_sheet_B41) p l e R s m args below meth c G τ res := by
  intro σ H locs ls hP hS hf hl
  unfold X10_sheet_B41 at hf
  refine lv_aload_n X.1 X.2.1 dX10_sheet_41 rfl (lv_at hl 0 rfl) ?_
  refine r_ldc X (-1000001) (tb t_430 rfl) (by decide) dX10_sheet_42 ?_
  obtain ⟨r1, s2, hr1, hf⟩ := bd2_inv hf
  refine k_X10_tell X hP hS hl.1  hr1 (tb t_431 rfl) (by decide) (Nat.le_of_ble_eq_true rfl) dX10_sheet_44 (fun H locs hP hS => ?_)
  obtain ⟨rfl, rfl⟩ := so2_inv hf
  exact r_iret X hP hS dX10_sheet_47
set_option maxHeartbeats 4000000 in
theorem a_X10_sheet_27 {p : Program} {l : Launch} {e : Env} {R : Room} {s : State} {m : MethodId} {args : Array Value} {below : List Frame} {meth : Method} {c : Code} {G : GT} {τ : Mem} {res : Int} (X : CX p R s m args meth c cX10_sheet 5 RX10 (some FieldType.int) 3 105 G) : S_X10_sheet_27 (X10_sheet_B27) p l e R s m args below meth c G τ res := by
  intro σ H locs ls l1 l2 l3 k0 hP hS hf hl
  unfold X10_sheet_B27 at hf
  refine lv_istore (lv' := [(4, .int (i32 k0)), (0, .ref (gh G + 0)), (1, .int (i32 l1)), (2, .int (i32 l2)), (3, .int (i32 l3))]) X.1 X.2.1 dX10_sheet_27 hl (by decide) rfl (fun ls hl => ?_)
  refine lv_iload_n X.1 X.2.1 dX10_sheet_29 rfl (lv_at hl 2 rfl) ?_
  obtain ⟨r1, hr1, hf⟩ := bd_inv hf
  refine k_X10_isSheet X hP hS hl.1  hr1 (tb t_997 rfl) (by decide) (Nat.le_of_ble_eq_true rfl) dX10_sheet_30 (fun H locs hP hS => ?_)
  refine r_if_eq (tgt := 41) X dX10_sheet_33 (by decide) (fun q => ?_) (fun q => ?_)
  · replace hf := it_inv q hf
    exact a_X10_sheet_41 X σ H locs ls  hP hS hf (lv_sub hl [1] rfl)
  · replace hf := ie_inv q hf
    refine lv_iload X.1 X.2.1 dX10_sheet_36 (lv_at hl 0 rfl) ?_
    refine r_if_ne (tgt := 48) X dX10_sheet_38 (by decide) (fun q => ?_) (fun q => ?_)
    · replace hf := it_inv q hf
      refine lv_iload_n X.1 X.2.1 dX10_sheet_48 rfl (lv_at hl 4 rfl) ?_
      refine r_if_ge (tgt := 60) X dX10_sheet_49 (by decide) (fun q => ?_) (fun q => ?_)
      · replace hf := it_inv q hf
        refine lv_iload_n X.1 X.2.1 dX10_sheet_60 rfl (lv_at hl 4 rfl) ?_
        refine r_bipush X 40 (by decide) dX10_sheet_61 ?_
        refine r_icmp_le (tgt := 73) X dX10_sheet_63 (by decide) (fun q => ?_) (fun q => ?_)
        · replace hf := it_inv q hf
          refine lv_aload_n X.1 X.2.1 dX10_sheet_73 rfl (lv_at hl 1 rfl) ?_
          refine g_10_4 (r := 50) X hP ks_10 rfl (tb t_392 rfl) dX10_sheet_74 ?_
          refine lv_iload_n X.1 X.2.1 dX10_sheet_77 rfl (lv_at hl 2 rfl) ?_
          obtain ⟨j2, hij2, hjj2, hlj2, hf⟩ := ag_inv hf
          refine r_aald19 (r := 63 + 2 * j2) X hP (ch_10_4 ks_10).1 (ch_10_4 ks_10).2 hij2 hjj2 rfl dX10_sheet_78 ?_
          refine lv_iload_n X.1 X.2.1 dX10_sheet_79 rfl (lv_at hl 3 rfl) ?_
          refine lv_iload_n X.1 X.2.1 dX10_sheet_80 rfl (lv_at hl 4 rfl) ?_
          obtain ⟨r3, s4, hr3, hf⟩ := bd2_inv hf
          refine k_X6_renew X hP hS hl.1 ((ch_19 (ch_10_4 ks_10).1).2 j2 hlj2) hr3 (tb t_1001 rfl) (by decide) (Nat.le_of_ble_eq_true rfl) dX10_sheet_81 (fun H locs hP hS => ?_)
          obtain ⟨rfl, rfl⟩ := so2_inv hf
          exact r_iret X hP hS dX10_sheet_84
        · replace hf := ie_inv q hf
          refine lv_aload_n X.1 X.2.1 dX10_sheet_66 rfl (lv_at hl 1 rfl) ?_
          refine r_ldc X (-1000001) (tb t_430 rfl) (by decide) dX10_sheet_67 ?_
          obtain ⟨r5, s6, hr5, hf⟩ := bd2_inv hf
          refine k_X10_tell X hP hS hl.1  hr5 (tb t_431 rfl) (by decide) (Nat.le_of_ble_eq_true rfl) dX10_sheet_69 (fun H locs hP hS => ?_)
          obtain ⟨rfl, rfl⟩ := so2_inv hf
          exact r_iret X hP hS dX10_sheet_72
      · replace hf := ie_inv q hf
        refine lv_aload_n X.1 X.2.1 dX10_sheet_52 rfl (lv_at hl 1 rfl) ?_
        refine r_ldcw X (-1000007) (tb t_1000 rfl) (by decide) dX10_sheet_53 ?_
        obtain ⟨r7, s8, hr7, hf⟩ := bd2_inv hf
        refine k_X10_tell X hP hS hl.1  hr7 (tb t_431 rfl) (by decide) (Nat.le_of_ble_eq_true rfl) dX10_sheet_56 (fun H locs hP hS => ?_)
        obtain ⟨rfl, rfl⟩ := so2_inv hf
        exact r_iret X hP hS dX10_sheet_59
    · replace hf := ie_inv q hf
      exact a_X10_sheet_41 X σ H locs ls  hP hS hf (lv_sub hl [1] rfl)
set_option maxHeartbeats 4000000 in
theorem a_X10_sheet_22 {p : Program} {l : Launch} {e : Env} {R : Room} {s : State} {m : MethodId} {args : Array Value} {below : List Frame} {meth : Method} {c : Code} {G : GT} {τ : Mem} {res : Int} (X : CX p R s m args meth c cX10_sheet 5 RX10 (some FieldType.int) 3 105 G) : S_X10_sheet_22 (X10_sheet_B22) p l e R s m args below meth c G τ res := by
  intro σ H locs ls l1 l2 l3 hP hS hf hl
  unfold X10_sheet_B22 at hf
  refine r_iconst X 1 dX10_sheet_22 ?_
  refine lv_goto (tgt := 27) X.1 X.2.1 dX10_sheet_23 (by decide) ?_
  exact a_X10_sheet_27 X σ H locs ls l1 l2 l3 1 hP hS hf hl
set_option maxHeartbeats 4000000 in
theorem a_X10_sheet_0 {p : Program} {l : Launch} {e : Env} {R : Room} {s : State} {m : MethodId} {args : Array Value} {below : List Frame} {meth : Method} {c : Code} {G : GT} {τ : Mem} {res : Int} (X : CX p R s m args meth c cX10_sheet 5 RX10 (some FieldType.int) 3 105 G) : S_X10_sheet_0 (X10_sheet) p l e R s m args below meth c G τ res := by
  intro σ H locs ls l1 l2 l3 hP hS hf hl
  unfold X10_sheet at hf
  refine lv_iload_n X.1 X.2.1 dX10_sheet_0 rfl (lv_at hl 2 rfl) ?_
  refine r_if_eq (tgt := 22) X dX10_sheet_1 (by decide) (fun q => ?_) (fun q => ?_)
  · replace hf := it_inv q hf
    exact a_X10_sheet_22 X σ H locs ls l1 l2 l3 hP hS hf hl
  · replace hf := ie_inv q hf
    refine lv_iload_n X.1 X.2.1 dX10_sheet_4 rfl (lv_at hl 2 rfl) ?_
    refine r_bipush X 8 (by decide) dX10_sheet_5 ?_
    refine r_icmp_eq (tgt := 22) X dX10_sheet_7 (by decide) (fun q => ?_) (fun q => ?_)
    · replace hf := it_inv q hf
      exact a_X10_sheet_22 X σ H locs ls l1 l2 l3 hP hS hf hl
    · replace hf := ie_inv q hf
      refine lv_iload_n X.1 X.2.1 dX10_sheet_10 rfl (lv_at hl 2 rfl) ?_
      refine r_bipush X 16 (by decide) dX10_sheet_11 ?_
      refine r_icmp_eq (tgt := 22) X dX10_sheet_13 (by decide) (fun q => ?_) (fun q => ?_)
      · replace hf := it_inv q hf
        exact a_X10_sheet_22 X σ H locs ls l1 l2 l3 hP hS hf hl
      · replace hf := ie_inv q hf
        refine lv_iload_n X.1 X.2.1 dX10_sheet_16 rfl (lv_at hl 2 rfl) ?_
        refine r_bipush X 32 (by decide) dX10_sheet_17 ?_
        refine r_icmp_ne (tgt := 26) X dX10_sheet_19 (by decide) (fun q => ?_) (fun q => ?_)
        · replace hf := it_inv q hf
          refine r_iconst X 0 dX10_sheet_26 ?_
          exact a_X10_sheet_27 X σ H locs ls l1 l2 l3 0 hP hS hf hl
        · replace hf := ie_inv q hf
          exact a_X10_sheet_22 X σ H locs ls l1 l2 l3 hP hS hf hl
set_option maxHeartbeats 4000000 in
theorem c_X10_sheet {l : Launch} {G : GT} {σ τ : Mem} {res : Int} {l1 : Int} {l2 : Int} {l3 : Int} (hf : X10_sheet σ l1 l2 l3 = some (res, τ)) : CT l yX10_sheet cX10_sheet 5 (some FieldType.int) 3 105 G [.ref (gh G + 0), .int (i32 l1), .int (i32 l2), .int (i32 l3)] σ τ (some (.int (i32 res))) := by
  refine CT.mk (own := RX10) (by decide) rfl (Nat.le_of_ble_eq_true rfl) ?_
  intro p e s m below meth c ls X hP hS hl
  have hl : lv_has ls 5 [(0, .ref (gh G + 0)), (1, .int (i32 l1)), (2, .int (i32 l2)), (3, .int (i32 l3))] := hl
  exact a_X10_sheet_0 X σ s.heap [] ls l1 l2 l3 hP hS hf hl
theorem k_X10_sheet {p : Program} {l : Launch} {e : Env} {R : Room} {s : State} {m : MethodId} {args : Array Value} {below : List Frame} {meth : Method} {c : Code} {H : Heap} {locs : List Loc} {Q : State → Prop} {cc : ByteArray} {nL : Nat} {own : String} {ret : Option FieldType} {fF fL : Nat} {G : GT} {pc idx : Nat} {ls : Array Slot} {rest : List Value} {σ τ : Mem} {res : Int} {l1 : Int} {l2 : Int} {l3 : Int} (X : CX p R s m args meth c cc nL own ret fF fL G) (hP : PW G σ H) (hS : va_S (AA G) s.heap H locs) (hls : ls.size = nL) (hf : X10_sheet σ l1 l2 l3 = some (res, τ)) (h1 : Cond.methodLink own idx yX10_sheet ∈ TB) (hR : 3 + 1 ≤ fF ∧ 8 + (5 + 11) + 105 ≤ fL) (hW : (rest.map fun v => v.category).sum ≤ 8) (hd : decode cc pc = .ok (.invokevirtual idx, 3)) (kk : ∀ (H1 : Heap) (locs1 : List Loc), PW G τ H1 → va_S (AA G) s.heap H1 locs1 → W p l e R s m args below meth c H1 locs1 0 0 Q (F0 m (pc + 3) ls (.int (i32 res) :: rest))) : W p l e R s m args below meth c H locs 0 0 Q (F0 m pc ls (.int (i32 l3) :: .int (i32 l2) :: .int (i32 l1) :: .ref (gh G + 0) :: rest)) := r_callV (n := 3) X hP hS hls (c_X10_sheet hf) h1 (tb t_994 rfl) (tb t_995 rfl) (tb t_75 rfl) (tb t_996 rfl) (by decide +kernel) hR (r_recv X hP (kd_lt ks_10 (by decide)) (cE_10 ks_10) rfl) rfl rfl hW hd kk
