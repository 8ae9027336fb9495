/-! X11_readItem -/
theorem dX11_readItem_0 : decode cX11_readItem 0 = .ok (.aload_n 0, 1) := by decide +kernel
theorem dX11_readItem_1 : decode cX11_readItem 1 = .ok (.iconst 0, 1) := by decide +kernel
theorem dX11_readItem_2 : decode cX11_readItem 2 = .ok (.iconst 2, 1) := by decide +kernel
theorem dX11_readItem_3 : decode cX11_readItem 3 = .ok (.invokevirtual 193, 3) := by decide +kernel
theorem dX11_readItem_6 : decode cX11_readItem 6 = .ok (.ifCond .eq 10, 3) := by decide +kernel
theorem dX11_readItem_9 : decode cX11_readItem 9 = .ok (.aload_n 0, 1) := by decide +kernel
theorem dX11_readItem_10 : decode cX11_readItem 10 = .ok (.invokevirtual 202, 3) := by decide +kernel
theorem dX11_readItem_13 : decode cX11_readItem 13 = .ok (.goto 30, 3) := by decide +kernel
theorem dX11_readItem_16 : decode cX11_readItem 16 = .ok (.aload_n 0, 1) := by decide +kernel
theorem dX11_readItem_17 : decode cX11_readItem 17 = .ok (.getfield 175, 3) := by decide +kernel
theorem dX11_readItem_20 : decode cX11_readItem 20 = .ok (.ifCond .ne 18, 3) := by decide +kernel
theorem dX11_readItem_23 : decode cX11_readItem 23 = .ok (.aload_n 0, 1) := by decide +kernel
theorem dX11_readItem_24 : decode cX11_readItem 24 = .ok (.getfield 159, 3) := by decide +kernel
theorem dX11_readItem_27 : decode cX11_readItem 27 = .ok (.iconst 2, 1) := by decide +kernel
theorem dX11_readItem_28 : decode cX11_readItem 28 = .ok (.if_icmp .ne 10, 3) := by decide +kernel
theorem dX11_readItem_31 : decode cX11_readItem 31 = .ok (.aload_n 0, 1) := by decide +kernel
theorem dX11_readItem_32 : decode cX11_readItem 32 = .ok (.invokevirtual 205, 3) := by decide +kernel
theorem dX11_readItem_35 : decode cX11_readItem 35 = .ok (.goto 8, 3) := by decide +kernel
theorem dX11_readItem_38 : decode cX11_readItem 38 = .ok (.aload_n 0, 1) := by decide +kernel
theorem dX11_readItem_39 : decode cX11_readItem 39 = .ok (.iconst 1, 1) := by decide +kernel
theorem dX11_readItem_40 : decode cX11_readItem 40 = .ok (.putfield 175, 3) := by decide +kernel
theorem dX11_readItem_43 : decode cX11_readItem 43 = .ok (.return_, 1) := by decide +kernel
def X11_readItem (recT : Mem → Option Mem) (σ : Mem) : Option (Mem) :=
  bd (X11_isWord σ 0 2) fun r1 =>
  if w32 r1 = 0 then
    if w32 (σ 111 11) ≠ 0 then
      lt (st σ 111 11 1) fun s2 =>
      some s2
    else
    if w32 (σ 111 8) ≠ w32 2 then
      lt (st σ 111 11 1) fun s3 =>
      some s3
    else
    bd (X11_readTimes recT σ) fun s5 =>
    some s5
  else
  bd (X11_readBar σ) fun s7 =>
  some s7
def S_X11_readItem_0 (fn : Mem → Option (Mem)) (p : Program) (l : Launch) (e : Env) (R : Room) (s : State) (m : MethodId) (args : Array Value) (below : List Frame) (meth : Method) (c : Code) (G : GT) (τ : Mem) : Prop := ∀ (σ : Mem) (H : Heap) (locs : List Loc) (ls : Array Slot), PW G σ H → va_S (AA G) s.heap H locs → fn σ = some τ → lv_has ls 1 [(0, .ref (gh G + 111))] → W p l e R s m args below meth c H locs 0 0 (MQ below (QM G none τ) args s 0 0 (AA G)) (F0 m 0 ls [])
set_option maxHeartbeats 4000000 in
theorem a_X11_readItem_0 {p : Program} {l : Launch} {e : Env} {R : Room} {s : State} {m : MethodId} {args : Array Value} {below : List Frame} {meth : Method} {c : Code} {G : GT} {recT : Mem → Option Mem} {fT lT : Nat} {τ : Mem} (X : CX p R s m args meth c cX11_readItem 1 RX11 none (fT + 21) (lT + 640) G) (HT : ∀ {σ τ : Mem}, recT σ = some τ → CT l yX11_readText cX11_readText 1 none fT lT G [.ref (gh G + 111)] σ τ none) : S_X11_readItem_0 (X11_readItem recT) p l e R s m args below meth c G τ := by
  intro σ H locs ls hP hS hf hl
  unfold X11_readItem at hf
  refine lv_aload_n X.1 X.2.1 dX11_readItem_0 rfl (lv_at hl 0 rfl) ?_
  refine r_iconst X 0 dX11_readItem_1 ?_
  refine r_iconst X 2 dX11_readItem_2 ?_
  obtain ⟨r1, hr1, hf⟩ := bd_inv hf
  refine k_X11_isWord X hP hS hl.1  hr1 (tb t_1276 rfl) (by omega) (Nat.le_of_ble_eq_true rfl) dX11_readItem_3 (fun H locs hP hS => ?_)
  refine r_if_eq (tgt := 16) X dX11_readItem_6 (by decide) (fun q => ?_) (fun q => ?_)
  · replace hf := it_inv q hf
    refine lv_aload_n X.1 X.2.1 dX11_readItem_16 rfl (lv_at hl 0 rfl) ?_
    refine g_11_11 X hP ks_11 (tb t_1098 rfl) dX11_readItem_17 ?_
    refine r_if_ne (tgt := 38) X dX11_readItem_20 (by decide) (fun q => ?_) (fun q => ?_)
    · replace hf := it_inv q hf
      refine lv_aload_n X.1 X.2.1 dX11_readItem_38 rfl (lv_at hl 0 rfl) ?_
      refine r_iconst X 1 dX11_readItem_39 ?_
      refine p_11_11 X hP hS (Or.inr rfl) ks_11 (tb t_1098 rfl) dX11_readItem_40 (fun H locs hP hS => ?_)
      obtain ⟨s2, es2, hf⟩ := lt_inv hf
      rw [es2] at hP
      cases so_inv hf
      exact r_vret X hP hS dX11_readItem_43
    · replace hf := ie_inv q hf
      refine lv_aload_n X.1 X.2.1 dX11_readItem_23 rfl (lv_at hl 0 rfl) ?_
      refine g_11_8 X hP ks_11 (tb t_1095 rfl) dX11_readItem_24 ?_
      refine r_iconst X 2 dX11_readItem_27 ?_
      refine r_icmp_ne (tgt := 38) X dX11_readItem_28 (by decide) (fun q => ?_) (fun q => ?_)
      · replace hf := it_inv q hf
        refine lv_aload_n X.1 X.2.1 dX11_readItem_38 rfl (lv_at hl 0 rfl) ?_
        refine r_iconst X 1 dX11_readItem_39 ?_
        refine p_11_11 X hP hS (Or.inr rfl) ks_11 (tb t_1098 rfl) dX11_readItem_40 (fun H locs hP hS => ?_)
        obtain ⟨s3, es3, hf⟩ := lt_inv hf
        rw [es3] at hP
        cases so_inv hf
        exact r_vret X hP hS dX11_readItem_43
      · replace hf := ie_inv q hf
        refine lv_aload_n X.1 X.2.1 dX11_readItem_31 rfl (lv_at hl 0 rfl) ?_
        obtain ⟨s5, hr4, hf⟩ := bd_inv hf
        refine k_X11_readTimes X hP hS hl.1  (@HT) hr4 (tb t_1292 rfl) (by omega) (Nat.le_of_ble_eq_true rfl) dX11_readItem_32 (fun H locs hP hS => ?_)
        refine lv_goto (tgt := 43) X.1 X.2.1 dX11_readItem_35 (by decide) ?_
        cases so_inv hf
        exact r_vret X hP hS dX11_readItem_43
  · replace hf := ie_inv q hf
    refine lv_aload_n X.1 X.2.1 dX11_readItem_9 rfl (lv_at hl 0 rfl) ?_
    obtain ⟨s7, hr6, hf⟩ := bd_inv hf
    refine k_X11_readBar X hP hS hl.1  hr6 (tb t_1280 rfl) (by omega) (Nat.le_of_ble_eq_true rfl) dX11_readItem_10 (fun H locs hP hS => ?_)
    refine lv_goto (tgt := 43) X.1 X.2.1 dX11_readItem_13 (by decide) ?_
    cases so_inv hf
    exact r_vret X hP hS dX11_readItem_43
set_option maxHeartbeats 4000000 in
theorem c_X11_readItem {l : Launch} {G : GT} {σ τ : Mem} {recT : Mem → Option Mem} {fT lT : Nat} (HT : ∀ {σ τ : Mem}, recT σ = some τ → CT l yX11_readText cX11_readText 1 none fT lT G [.ref (gh G + 111)] σ τ none) (hf : X11_readItem recT σ = some τ) : CT l yX11_readItem cX11_readItem 1 none (fT + 21) (lT + 640) G [.ref (gh G + 111)] σ τ none := by
  refine CT.mk (own := RX11) (by decide) rfl (Nat.le_of_ble_eq_true rfl) ?_
  intro p e s m below meth c ls X hP hS hl
  have hl : lv_has ls 1 [(0, .ref (gh G + 111))] := hl
  exact a_X11_readItem_0 X (@HT) σ s.heap [] ls hP hS hf hl
theorem k_X11_readItem {p : Program} {l : Launch} {e : Env} {R : Room} {s : State} {m : MethodId} {args : Array Value} {below : List Frame} {meth : Method} {c : Code} {H : Heap} {locs : List Loc} {Q : State → Prop} {cc : ByteArray} {nL : Nat} {own : String} {ret : Option FieldType} {fF fL : Nat} {G : GT} {pc idx : Nat} {ls : Array Slot} {rest : List Value} {σ τ : Mem} {recT : Mem → Option Mem} {fT lT : Nat} (X : CX p R s m args meth c cc nL own ret fF fL G) (hP : PW G σ H) (hS : va_S (AA G) s.heap H locs) (hls : ls.size = nL) (HT : ∀ {σ τ : Mem}, recT σ = some τ → CT l yX11_readText cX11_readText 1 none fT lT G [.ref (gh G + 111)] σ τ none) (hf : X11_readItem recT σ = some τ) (h1 : Cond.methodLink own idx yX11_readItem ∈ TB) (hR : (fT + 21) + 1 ≤ fF ∧ 8 + (1 + 11) + (lT + 640) ≤ fL) (hW : (rest.map fun v => v.category).sum ≤ 8) (hd : decode cc pc = .ok (.invokevirtual idx, 3)) (kk : ∀ (H1 : Heap) (locs1 : List Loc), PW G τ H1 → va_S (AA G) s.heap H1 locs1 → W p l e R s m args below meth c H1 locs1 0 0 Q (F0 m (pc + 3) ls (rest))) : W p l e R s m args below meth c H locs 0 0 Q (F0 m pc ls (.ref (gh G + 111) :: rest)) := r_callV (n := 0) X hP hS hls (c_X11_readItem (@HT) hf) h1 (tb t_1274 rfl) (tb t_37 rfl) (tb t_87 rfl) (tb t_1275 rfl) (by decide +kernel) hR (r_recv X hP (kd_lt ks_11 (by decide)) (cE_11 ks_11) rfl) rfl rfl hW hd kk
/-! X11_readText -/
theorem dX11_readText_0 : decode cX11_readText 0 = .ok (.aload_n 0, 1) := by decide +kernel
theorem dX11_readText_1 : decode cX11_readText 1 = .ok (.getfield 175, 3) := by decide +kernel
theorem dX11_readText_4 : decode cX11_readText 4 = .ok (.ifCond .eq 4, 3) := by decide +kernel
theorem dX11_readText_7 : decode cX11_readText 7 = .ok (.return_, 1) := by decide +kernel
theorem dX11_readText_8 : decode cX11_readText 8 = .ok (.aload_n 0, 1) := by decide +kernel
theorem dX11_readText_9 : decode cX11_readText 9 = .ok (.invokevirtual 208, 3) := by decide +kernel
theorem dX11_readText_12 : decode cX11_readText 12 = .ok (.aload_n 0, 1) := by decide +kernel
theorem dX11_readText_13 : decode cX11_readText 13 = .ok (.iconst 0, 1) := by decide +kernel
theorem dX11_readText_14 : decode cX11_readText 14 = .ok (.iconst 2, 1) := by decide +kernel
theorem dX11_readText_15 : decode cX11_readText 15 = .ok (.invokevirtual 193, 3) := by decide +kernel
theorem dX11_readText_18 : decode cX11_readText 18 = .ok (.ifCond .ne 18, 3) := by decide +kernel
theorem dX11_readText_21 : decode cX11_readText 21 = .ok (.aload_n 0, 1) := by decide +kernel
theorem dX11_readText_22 : decode cX11_readText 22 = .ok (.getfield 175, 3) := by decide +kernel
theorem dX11_readText_25 : decode cX11_readText 25 = .ok (.ifCond .ne 18, 3) := by decide +kernel
theorem dX11_readText_28 : decode cX11_readText 28 = .ok (.aload_n 0, 1) := by decide +kernel
theorem dX11_readText_29 : decode cX11_readText 29 = .ok (.getfield 159, 3) := by decide +kernel
theorem dX11_readText_32 : decode cX11_readText 32 = .ok (.iconst 2, 1) := by decide +kernel
theorem dX11_readText_33 : decode cX11_readText 33 = .ok (.if_icmp .ne 10, 3) := by decide +kernel
theorem dX11_readText_36 : decode cX11_readText 36 = .ok (.aload_n 0, 1) := by decide +kernel
theorem dX11_readText_37 : decode cX11_readText 37 = .ok (.invokevirtual 208, 3) := by decide +kernel
theorem dX11_readText_40 : decode cX11_readText 40 = .ok (.goto (-28), 3) := by decide +kernel
theorem dX11_readText_43 : decode cX11_readText 43 = .ok (.return_, 1) := by decide +kernel
def S_X11_readText_12 (fn : Mem → Option (Mem)) (p : Program) (l : Launch) (e : Env) (R : Room) (s : State) (m : MethodId) (args : Array Value) (below : List Frame) (meth : Method) (c : Code) (G : GT) (τ : Mem) : Prop := ∀ (σ : Mem) (H : Heap) (locs : List Loc) (ls : Array Slot), PW G σ H → va_S (AA G) s.heap H locs → fn σ = some τ → lv_has ls 1 [(0, .ref (gh G + 111))] → W p l e R s m args below meth c H locs 0 0 (MQ below (QM G none τ) args s 0 0 (AA G)) (F0 m 12 ls [])
def X11_readText_B36 (recT : Mem → Option Mem) (rec12 : Mem → Option (Mem)) (σ : Mem) : Option (Mem) :=
  bd (X11_readItem recT σ) fun s2 =>
  rec12 s2
def S_X11_readText_36 (fn : Mem → Option (Mem)) (p : Program) (l : Launch) (e : Env) (R : Room) (s : State) (m : MethodId) (args : Array Value) (below : List Frame) (meth : Method) (c : Code) (G : GT) (τ : Mem) : Prop := ∀ (σ : Mem) (H : Heap) (locs : List Loc) (ls : Array Slot), PW G σ H → va_S (AA G) s.heap H locs → fn σ = some τ → lv_has ls 1 [(0, .ref (gh G + 111))] → W p l e R s m args below meth c H locs 0 0 (MQ below (QM G none τ) args s 0 0 (AA G)) (F0 m 36 ls [])
def X11_readText_B12 (recT : Mem → Option Mem) (rec12 : Mem → Option (Mem)) (σ : Mem) : Option (Mem) :=
  bd (X11_isWord σ 0 2) fun r1 =>
  if w32 r1 ≠ 0 then
    X11_readText_B36 recT rec12 σ
  else
  if w32 (σ 111 11) ≠ 0 then
    some σ
  else
  if w32 (σ 111 8) ≠ w32 2 then
    some σ
  else
  X11_readText_B36 recT rec12 σ
def X11_readText_L12 (recT : Mem → Option Mem) : Nat → Mem → Option (Mem)
  | 0 => fun _ => none
  | n + 1 => X11_readText_B12 recT (X11_readText_L12 recT n)
def X11_readText (recT : Mem → Option Mem) (σ : Mem) : Option (Mem) :=
  if w32 (σ 111 11) = 0 then
    bd (X11_readItem recT σ) fun s2 =>
    X11_readText_L12 recT 5000 s2
  else
  some σ
def S_X11_readText_0 (fn : Mem → Option (Mem)) (p : Program) (l : Launch) (e : Env) (R : Room) (s : State) (m : MethodId) (args : Array Value) (below : List Frame) (meth : Method) (c : Code) (G : GT) (τ : Mem) : Prop := ∀ (σ : Mem) (H : Heap) (locs : List Loc) (ls : Array Slot), PW G σ H → va_S (AA G) s.heap H locs → fn σ = some τ → lv_has ls 1 [(0, .ref (gh G + 111))] → W p l e R s m args below meth c H locs 0 0 (MQ below (QM G none τ) args s 0 0 (AA G)) (F0 m 0 ls [])
set_option maxHeartbeats 4000000 in
theorem a_X11_readText_36 {p : Program} {l : Launch} {e : Env} {R : Room} {s : State} {m : MethodId} {args : Array Value} {below : List Frame} {meth : Method} {c : Code} {G : GT} {recT : Mem → Option Mem} {fT lT : Nat} {τ : Mem} {rec12 : Mem → Option (Mem)} (X : CX p R s m args meth c cX11_readText 1 RX11 none (fT + 22) (lT + 680) G) (h12 : S_X11_readText_12 rec12 p l e R s m args below meth c G τ) (HT : ∀ {σ τ : Mem}, recT σ = some τ → CT l yX11_readText cX11_readText 1 none fT lT G [.ref (gh G + 111)] σ τ none) : S_X11_readText_36 (X11_readText_B36 recT rec12) p l e R s m args below meth c G τ := by
  intro σ H locs ls hP hS hf hl
  unfold X11_readText_B36 at hf
  refine lv_aload_n X.1 X.2.1 dX11_readText_36 rfl (lv_at hl 0 rfl) ?_
  obtain ⟨s2, hr1, hf⟩ := bd_inv hf
  refine k_X11_readItem X hP hS hl.1  (@HT) hr1 (tb t_1272 rfl) (by omega) (Nat.le_of_ble_eq_true rfl) dX11_readText_37 (fun H locs hP hS => ?_)
  refine lv_goto (tgt := 12) X.1 X.2.1 dX11_readText_40 (by decide) ?_
  exact h12 s2 H locs ls  hP hS hf hl
set_option maxHeartbeats 4000000 in
theorem a_X11_readText_12 {p : Program} {l : Launch} {e : Env} {R : Room} {s : State} {m : MethodId} {args : Array Value} {below : List Frame} {meth : Method} {c : Code} {G : GT} {recT : Mem → Option Mem} {fT lT : Nat} {τ : Mem} {rec12 : Mem → Option (Mem)} (X : CX p R s m args meth c cX11_readText 1 RX11 none (fT + 22) (lT + 680) G) (h12 : S_X11_readText_12 rec12 p l e R s m args below meth c G τ) (HT : ∀ {σ τ : Mem}, recT σ = some τ → CT l yX11_readText cX11_readText 1 none fT lT G [.ref (gh G + 111)] σ τ none) : S_X11_readText_12 (X11_readText_B12 recT rec12) p l e R s m args below meth c G τ := by
  intro σ H locs ls hP hS hf hl
  unfold X11_readText_B12 at hf
  refine lv_aload_n X.1 X.2.1 dX11_readText_12 rfl (lv_at hl 0 rfl) ?_
  refine r_iconst X 0 dX11_readText_13 ?_
  refine r_iconst X 2 dX11_readText_14 ?_
  obtain ⟨r1, hr1, hf⟩ := bd_inv hf
  refine k_X11_isWord X hP hS hl.1  hr1 (tb t_1276 rfl) (by omega) (Nat.le_of_ble_eq_true rfl) dX11_readText_15 (fun H locs hP hS => ?_)
  refine r_if_ne (tgt := 36) X dX11_readText_18 (by decide) (fun q => ?_) (fun q => ?_)
  · replace hf := it_inv q hf
    exact a_X11_readText_36 X h12 (@HT) σ H locs ls  hP hS hf hl
  · replace hf := ie_inv q hf
    refine lv_aload_n X.1 X.2.1 dX11_readText_21 rfl (lv_at hl 0 rfl) ?_
    refine g_11_11 X hP ks_11 (tb t_1098 rfl) dX11_readText_22 ?_
    refine r_if_ne (tgt := 43) X dX11_readText_25 (by decide) (fun q => ?_) (fun q => ?_)
    · replace hf := it_inv q hf
      cases so_inv hf
      exact r_vret X hP hS dX11_readText_43
    · replace hf := ie_inv q hf
      refine lv_aload_n X.1 X.2.1 dX11_readText_28 rfl (lv_at hl 0 rfl) ?_
      refine g_11_8 X hP ks_11 (tb t_1095 rfl) dX11_readText_29 ?_
      refine r_iconst X 2 dX11_readText_32 ?_
      refine r_icmp_ne (tgt := 43) X dX11_readText_33 (by decide) (fun q => ?_) (fun q => ?_)
      · replace hf := it_inv q hf
        cases so_inv hf
        exact r_vret X hP hS dX11_readText_43
      · replace hf := ie_inv q hf
        exact a_X11_readText_36 X h12 (@HT) σ H locs ls  hP hS hf hl
theorem al_X11_readText_12 {p : Program} {l : Launch} {e : Env} {R : Room} {s : State} {m : MethodId} {args : Array Value} {below : List Frame} {meth : Method} {c : Code} {G : GT} {recT : Mem → Option Mem} {fT lT : Nat} {τ : Mem} (X : CX p R s m args meth c cX11_readText 1 RX11 none (fT + 22) (lT + 680) G) (HT : ∀ {σ τ : Mem}, recT σ = some τ → CT l yX11_readText cX11_readText 1 none fT lT G [.ref (gh G + 111)] σ τ none) : ∀ n, S_X11_readText_12 (X11_readText_L12 recT n) p l e R s m args below meth c G τ := by
  intro n
  induction n with
  | zero =>
    intro σ H locs ls hP hS hf hl
    cases hf
  | succ n ih => exact a_X11_readText_12 X ih (@HT)
set_option maxHeartbeats 4000000 in
theorem a_X11_readText_0 {p : Program} {l : Launch} {e : Env} {R : Room} {s : State} {m : MethodId} {args : Array Value} {below : List Frame} {meth : Method} {c : Code} {G : GT} {recT : Mem → Option Mem} {fT lT : Nat} {τ : Mem} (X : CX p R s m args meth c cX11_readText 1 RX11 none (fT + 22) (lT + 680) G) (HT : ∀ {σ τ : Mem}, recT σ = some τ → CT l yX11_readText cX11_readText 1 none fT lT G [.ref (gh G + 111)] σ τ none) : S_X11_readText_0 (X11_readText recT) p l e R s m args below meth c G τ := by
  intro σ H locs ls hP hS hf hl
  unfold X11_readText at hf
  refine lv_aload_n X.1 X.2.1 dX11_readText_0 rfl (lv_at hl 0 rfl) ?_
  refine g_11_11 X hP ks_11 (tb t_1098 rfl) dX11_readText_1 ?_
  refine r_if_eq (tgt := 8) X dX11_readText_4 (by decide) (fun q => ?_) (fun q => ?_)
  · replace hf := it_inv q hf
    refine lv_aload_n X.1 X.2.1 dX11_readText_8 rfl (lv_at hl 0 rfl) ?_
    obtain ⟨s2, hr1, hf⟩ := bd_inv hf
    refine k_X11_readItem X hP hS hl.1  (@HT) hr1 (tb t_1272 rfl) (by omega) (Nat.le_of_ble_eq_true rfl) dX11_readText_9 (fun H locs hP hS => ?_)
    exact al_X11_readText_12 X (@HT) 5000 s2 H locs ls  hP hS hf hl
  · replace hf := ie_inv q hf
    cases so_inv hf
    exact r_vret X hP hS dX11_readText_7
set_option maxHeartbeats 4000000 in
theorem c_X11_readText {l : Launch} {G : GT} {σ τ : Mem} {recT : Mem → Option Mem} {fT lT : Nat} (HT : ∀ {σ τ : Mem}, recT σ = some τ → CT l yX11_readText cX11_readText 1 none fT lT G [.ref (gh G + 111)] σ τ none) (hf : X11_readText recT σ = some τ) : CT l yX11_readText cX11_readText 1 none (fT + 22) (lT + 680) G [.ref (gh G + 111)] σ τ none := by
  refine CT.mk (own := RX11) (by decide) rfl (Nat.le_of_ble_eq_true rfl) ?_
  intro p e s m below meth c ls X hP hS hl
  have hl : lv_has ls 1 [(0, .ref (gh G + 111))] := hl
  exact a_X11_readText_0 X (@HT) σ s.heap [] ls hP hS hf hl
theorem k_X11_readText {p : Program} {l : Launch} {e : Env} {R : Room} {s : State} {m : MethodId} {args : Array Value} {below : List Frame} {meth : Method} {c : Code} {H : Heap} {locs : List Loc} {Q : State → Prop} {cc : ByteArray} {nL : Nat} {own : String} {ret : Option FieldType} {fF fL : Nat} {G : GT} {pc idx : Nat} {ls : Array Slot} {rest : List Value} {σ τ : Mem} {recT : Mem → Option Mem} {fT lT : Nat} (X : CX p R s m args meth c cc nL own ret fF fL G) (hP : PW G σ H) (hS : va_S (AA G) s.heap H locs) (hls : ls.size = nL) (HT : ∀ {σ τ : Mem}, recT σ = some τ → CT l yX11_readText cX11_readText 1 none fT lT G [.ref (gh G + 111)] σ τ none) (hf : X11_readText recT σ = some τ) (h1 : Cond.methodLink own idx yX11_readText ∈ TB) (hR : (fT + 22) + 1 ≤ fF ∧ 8 + (1 + 11) + (lT + 680) ≤ fL) (hW : (rest.map fun v => v.category).sum ≤ 8) (hd : decode cc pc = .ok (.invokevirtual idx, 3)) (kk : ∀ (H1 : Heap) (locs1 : List Loc), PW G τ H1 → va_S (AA G) s.heap H1 locs1 → W p l e R s m args below meth c H1 locs1 0 0 Q (F0 m (pc + 3) ls (rest))) : W p l e R s m args below meth c H locs 0 0 Q (F0 m pc ls (.ref (gh G + 111) :: rest)) := r_callV (n := 0) X hP hS hls (c_X11_readText (@HT) hf) h1 (tb t_1270 rfl) (tb t_36 rfl) (tb t_87 rfl) (tb t_1271 rfl) (by decide +kernel) hR (r_recv X hP (kd_lt ks_11 (by decide)) (cE_11 ks_11) rfl) rfl rfl hW hd kk
def X11_readTextD : Nat → Mem → Option Mem
  | 0 => fun _ => none
  | d + 1 => X11_readText (X11_readTextD d)
theorem cd_X11_readText {l : Launch} {G : GT} : ∀ (d : Nat) {σ τ : Mem}, X11_readTextD d σ = some τ → CT l yX11_readText cX11_readText 1 none (22 * d) (680 * d) G [.ref (gh G + 111)] σ τ none := by
  intro d
  induction d with
  | zero =>
    intro σ τ hf
    cases hf
  | succ d ih =>
    intro σ τ hf
    exact c_X11_readText (fT := 22 * d) (lT := 680 * d) (@ih) hf
theorem kd_X11_readText (d : Nat) {p : Program} {l : Launch} {e : Env} {R : Room} {s : State} {m : MethodId} {args : Array Value} {below : List Frame} {meth : Method} {c : Code} {H : Heap} {locs : List Loc} {Q : State → Prop} {cc : ByteArray} {nL : Nat} {own : String} {ret : Option FieldType} {fF fL : Nat} {G : GT} {pc idx : Nat} {ls : Array Slot} {rest : List Value} {σ τ : Mem} (X : CX p R s m args meth c cc nL own ret fF fL G) (hP : PW G σ H) (hS : va_S (AA G) s.heap H locs) (hls : ls.size = nL) (hf : X11_readTextD d σ = some τ) (h1 : Cond.methodLink own idx yX11_readText ∈ TB) (hR : 22 * d + 1 ≤ fF ∧ 8 + (1 + 11) + 680 * d ≤ fL) (hW : (rest.map fun v => v.category).sum ≤ 8) (hd : decode cc pc = .ok (.invokevirtual idx, 3)) (kk : ∀ (H1 : Heap) (locs1 : List Loc), PW G τ H1 → va_S (AA G) s.heap H1 locs1 → W p l e R s m args below meth c H1 locs1 0 0 Q (F0 m (pc + 3) ls (rest))) : W p l e R s m args below meth c H locs 0 0 Q (F0 m pc ls (.ref (gh G + 111) :: rest)) := r_callV (n := 0) X hP hS hls (cd_X11_readText d hf) h1 (tb t_1270 rfl) (tb t_36 rfl) (tb t_87 rfl) (tb t_1271 rfl) (by decide +kernel) hR (r_recv X hP (kd_lt ks_11 (by decide)) (cE_11 ks_11) rfl) rfl rfl hW hd kk
/-! X11_read -/
theorem dX11_read_0 : decode cX11_read 0 = .ok (.iload_n 1, 1) := by decide +kernel
theorem dX11_read_1 : decode cX11_read 1 = .ok (.invokestatic 97, 3) := by decide +kernel
theorem dX11_read_4 : decode cX11_read 4 = .ok (.ifCond .ne 9, 3) := by decide +kernel
theorem dX11_read_7 : decode cX11_read 7 = .ok (.aload_n 0, 1) := by decide +kernel
theorem dX11_read_8 : decode cX11_read 8 = .ok (.iconst 0, 1) := by decide +kernel
theorem dX11_read_9 : decode cX11_read 9 = .ok (.invokevirtual 122, 3) := by decide +kernel
theorem dX11_read_12 : decode cX11_read 12 = .ok (.ireturn, 1) := by decide +kernel
theorem dX11_read_13 : decode cX11_read 13 = .ok (.aload_n 0, 1) := by decide +kernel
theorem dX11_read_14 : decode cX11_read 14 = .ok (.iconst 0, 1) := by decide +kernel
theorem dX11_read_15 : decode cX11_read 15 = .ok (.putfield 153, 3) := by decide +kernel
theorem dX11_read_18 : decode cX11_read 18 = .ok (.aload_n 0, 1) := by decide +kernel
theorem dX11_read_19 : decode cX11_read 19 = .ok (.iconst 0, 1) := by decide +kernel
theorem dX11_read_20 : decode cX11_read 20 = .ok (.putfield 196, 3) := by decide +kernel
theorem dX11_read_23 : decode cX11_read 23 = .ok (.aload_n 0, 1) := by decide +kernel
theorem dX11_read_24 : decode cX11_read 24 = .ok (.iconst 0, 1) := by decide +kernel
theorem dX11_read_25 : decode cX11_read 25 = .ok (.putfield 175, 3) := by decide +kernel
theorem dX11_read_28 : decode cX11_read 28 = .ok (.aload_n 0, 1) := by decide +kernel
theorem dX11_read_29 : decode cX11_read 29 = .ok (.iconst 0, 1) := by decide +kernel
theorem dX11_read_30 : decode cX11_read 30 = .ok (.putfield 182, 3) := by decide +kernel
theorem dX11_read_33 : decode cX11_read 33 = .ok (.aload_n 0, 1) := by decide +kernel
theorem dX11_read_34 : decode cX11_read 34 = .ok (.invokevirtual 179, 3) := by decide +kernel
theorem dX11_read_37 : decode cX11_read 37 = .ok (.aload_n 0, 1) := by decide +kernel
theorem dX11_read_38 : decode cX11_read 38 = .ok (.invokevirtual 199, 3) := by decide +kernel
theorem dX11_read_41 : decode cX11_read 41 = .ok (.aload_n 0, 1) := by decide +kernel
theorem dX11_read_42 : decode cX11_read 42 = .ok (.getfield 175, 3) := by decide +kernel
theorem dX11_read_45 : decode cX11_read 45 = .ok (.ifCond .ne 14, 3) := by decide +kernel
theorem dX11_read_48 : decode cX11_read 48 = .ok (.aload_n 0, 1) := by decide +kernel
theorem dX11_read_49 : decode cX11_read 49 = .ok (.getfield 159, 3) := by decide +kernel
theorem dX11_read_52 : decode cX11_read 52 = .ok (.ifCond .ne 7, 3) := by decide +kernel
theorem dX11_read_55 : decode cX11_read 55 = .ok (.iconst 1, 1) := by decide +kernel
theorem dX11_read_56 : decode cX11_read 56 = .ok (.goto 4, 3) := by decide +kernel
theorem dX11_read_59 : decode cX11_read 59 = .ok (.iconst 0, 1) := by decide +kernel
theorem dX11_read_60 : decode cX11_read 60 = .ok (.istore_n 2, 1) := by decide +kernel
theorem dX11_read_61 : decode cX11_read 61 = .ok (.aload_n 0, 1) := by decide +kernel
theorem dX11_read_62 : decode cX11_read 62 = .ok (.iconst 0, 1) := by decide +kernel
theorem dX11_read_63 : decode cX11_read 63 = .ok (.putfield 137, 3) := by decide +kernel
theorem dX11_read_66 : decode cX11_read 66 = .ok (.iload_n 2, 1) := by decide +kernel
theorem dX11_read_67 : decode cX11_read 67 = .ok (.ifCond .ne 10, 3) := by decide +kernel
theorem dX11_read_70 : decode cX11_read 70 = .ok (.iconst (-1), 1) := by decide +kernel
theorem dX11_read_71 : decode cX11_read 71 = .ok (.aload_n 0, 1) := by decide +kernel
theorem dX11_read_72 : decode cX11_read 72 = .ok (.getfield 156, 3) := by decide +kernel
theorem dX11_read_75 : decode cX11_read 75 = .ok (.isub, 1) := by decide +kernel
theorem dX11_read_76 : decode cX11_read 76 = .ok (.ireturn, 1) := by decide +kernel
theorem dX11_read_77 : decode cX11_read 77 = .ok (.aload_n 0, 1) := by decide +kernel
theorem dX11_read_78 : decode cX11_read 78 = .ok (.iload_n 1, 1) := by decide +kernel
theorem dX11_read_79 : decode cX11_read 79 = .ok (.invokevirtual 101, 3) := by decide +kernel
theorem dX11_read_82 : decode cX11_read 82 = .ok (.istore_n 3, 1) := by decide +kernel
theorem dX11_read_83 : decode cX11_read 83 = .ok (.iload_n 3, 1) := by decide +kernel
theorem dX11_read_84 : decode cX11_read 84 = .ok (.aload_n 0, 1) := by decide +kernel
theorem dX11_read_85 : decode cX11_read 85 = .ok (.getfield 182, 3) := by decide +kernel
theorem dX11_read_88 : decode cX11_read 88 = .ok (.iadd, 1) := by decide +kernel
theorem dX11_read_89 : decode cX11_read 89 = .ok (.bipush 40, 2) := by decide +kernel
theorem dX11_read_91 : decode cX11_read 91 = .ok (.if_icmp .le 9, 3) := by decide +kernel
theorem dX11_read_94 : decode cX11_read 94 = .ok (.aload_n 0, 1) := by decide +kernel
theorem dX11_read_95 : decode cX11_read 95 = .ok (.iconst 1, 1) := by decide +kernel
theorem dX11_read_96 : decode cX11_read 96 = .ok (.invokevirtual 122, 3) := by decide +kernel
theorem dX11_read_99 : decode cX11_read 99 = .ok (.ireturn, 1) := by decide +kernel
theorem dX11_read_100 : decode cX11_read 100 = .ok (.iconst 0, 1) := by decide +kernel
theorem dX11_read_101 : decode cX11_read 101 = .ok (.istore 4, 2) := by decide +kernel
theorem dX11_read_103 : decode cX11_read 103 = .ok (.iload 4, 2) := by decide +kernel
theorem dX11_read_105 : decode cX11_read 105 = .ok (.iconst 4, 1) := by decide +kernel
theorem dX11_read_106 : decode cX11_read 106 = .ok (.aload_n 0, 1) := by decide +kernel
theorem dX11_read_107 : decode cX11_read 107 = .ok (.getfield 182, 3) := by decide +kernel
theorem dX11_read_110 : decode cX11_read 110 = .ok (.imul, 1) := by decide +kernel
theorem dX11_read_111 : decode cX11_read 111 = .ok (.if_icmp .ge 30, 3) := by decide +kernel
theorem dX11_read_114 : decode cX11_read 114 = .ok (.aload_n 0, 1) := by decide +kernel
theorem dX11_read_115 : decode cX11_read 115 = .ok (.getfield 9, 3) := by decide +kernel
theorem dX11_read_118 : decode cX11_read 118 = .ok (.iload_n 1, 1) := by decide +kernel
theorem dX11_read_119 : decode cX11_read 119 = .ok (.iload_n 3, 1) := by decide +kernel
theorem dX11_read_120 : decode cX11_read 120 = .ok (.iconst 0, 1) := by decide +kernel
theorem dX11_read_121 : decode cX11_read 121 = .ok (.invokestatic 104, 3) := by decide +kernel
theorem dX11_read_124 : decode cX11_read 124 = .ok (.iload 4, 2) := by decide +kernel
theorem dX11_read_126 : decode cX11_read 126 = .ok (.iadd, 1) := by decide +kernel
theorem dX11_read_127 : decode cX11_read 127 = .ok (.aload_n 0, 1) := by decide +kernel
theorem dX11_read_128 : decode cX11_read 128 = .ok (.getfield 22, 3) := by decide +kernel
theorem dX11_read_131 : decode cX11_read 131 = .ok (.iload 4, 2) := by decide +kernel
theorem dX11_read_133 : decode cX11_read 133 = .ok (.iaload, 1) := by decide +kernel
theorem dX11_read_134 : decode cX11_read 134 = .ok (.iastore, 1) := by decide +kernel
theorem dX11_read_135 : decode cX11_read 135 = .ok (.iinc 4 1, 3) := by decide +kernel
theorem dX11_read_138 : decode cX11_read 138 = .ok (.goto (-35), 3) := by decide +kernel
theorem dX11_read_141 : decode cX11_read 141 = .ok (.aload_n 0, 1) := by decide +kernel
theorem dX11_read_142 : decode cX11_read 142 = .ok (.getfield 9, 3) := by decide +kernel
theorem dX11_read_145 : decode cX11_read 145 = .ok (.iload_n 1, 1) := by decide +kernel
theorem dX11_read_146 : decode cX11_read 146 = .ok (.invokestatic 86, 3) := by decide +kernel
theorem dX11_read_149 : decode cX11_read 149 = .ok (.iconst 4, 1) := by decide +kernel
theorem dX11_read_150 : decode cX11_read 150 = .ok (.iadd, 1) := by decide +kernel
theorem dX11_read_151 : decode cX11_read 151 = .ok (.iload_n 3, 1) := by decide +kernel
theorem dX11_read_152 : decode cX11_read 152 = .ok (.aload_n 0, 1) := by decide +kernel
theorem dX11_read_153 : decode cX11_read 153 = .ok (.getfield 182, 3) := by decide +kernel
theorem dX11_read_156 : decode cX11_read 156 = .ok (.iadd, 1) := by decide +kernel
theorem dX11_read_157 : decode cX11_read 157 = .ok (.iastore, 1) := by decide +kernel
theorem dX11_read_158 : decode cX11_read 158 = .ok (.iload_n 3, 1) := by decide +kernel
theorem dX11_read_159 : decode cX11_read 159 = .ok (.aload_n 0, 1) := by decide +kernel
theorem dX11_read_160 : decode cX11_read 160 = .ok (.getfield 182, 3) := by decide +kernel
theorem dX11_read_163 : decode cX11_read 163 = .ok (.iadd, 1) := by decide +kernel
theorem dX11_read_164 : decode cX11_read 164 = .ok (.ireturn, 1) := by decide +kernel
def S_X11_read_103 (fn : Mem → Int → Int → Int → Option (Int × Mem)) (p : Program) (l : Launch) (e : Env) (R : Room) (s : State) (m : MethodId) (args : Array Value) (below : List Frame) (meth : Method) (c : Code) (G : GT) (τ : Mem) (res : Int) : Prop := ∀ (σ : Mem) (H : Heap) (locs : List Loc) (ls : Array Slot) (l1 : Int) (l3 : Int) (l4 : Int), PW G σ H → va_S (AA G) s.heap H locs → fn σ l1 l3 l4 = some (res, τ) → lv_has ls 5 [(0, .ref (gh G + 111)), (1, .int (i32 l1)), (3, .int (i32 l3)), (4, .int (i32 l4))] → W p l e R s m args below meth c H locs 0 0 (MQ below (QM G (some (.int (i32 res))) τ) args s 0 0 (AA G)) (F0 m 103 ls [])
def X11_read_B103 (rec103 : Mem → Int → Int → Int → Option (Int × Mem)) (σ : Mem) (l1 : Int) (l3 : Int) (l4 : Int) : Option (Int × Mem) :=
  if w32 (4 * (σ 111 13)) ≤ w32 l4 then
    bd (X11_part σ l1) fun r1 =>
    ag 766 (r1 + 4) fun j2 =>
    lt (st σ 112 j2 (l3 + (σ 111 13))) fun s3 =>
    some (l3 + (s3 111 13), s3)
  else
  bd (X11_at σ l1 l3 0) fun r4 =>
  ag 256 l4 fun j5 =>
  ag 766 (r4 + l4) fun j6 =>
  lt (st σ 112 j6 (σ 116 j5)) fun s7 =>
  lt (l4 + 1) fun l4_8 =>
  rec103 s7 l1 l3 l4_8
def X11_read_L103 : Nat → Mem → Int → Int → Int → Option (Int × Mem)
  | 0 => fun _ _ _ _ => none
  | n + 1 => X11_read_B103 (X11_read_L103 n)
def X11_read_B60 (σ : Mem) (l1 : Int) (k0 : Int) : Option (Int × Mem) :=
  lt (st σ 111 5 0) fun s1 =>
  if w32 k0 ≠ 0 then
    bd (X11_bars s1 l1) fun r2 =>
    if w32 (r2 + (s1 111 13)) ≤ w32 40 then
      X11_read_L103 5000 s1 l1 r2 0
    else
    bd2 (X11_finds s1 1) fun r3 s4 =>
    some (r3, s4)
  else
  some ((-1) - (s1 111 6), s1)
def S_X11_read_60 (fn : Mem → Int → Int → Option (Int × Mem)) (p : Program) (l : Launch) (e : Env) (R : Room) (s : State) (m : MethodId) (args : Array Value) (below : List Frame) (meth : Method) (c : Code) (G : GT) (τ : Mem) (res : Int) : Prop := ∀ (σ : Mem) (H : Heap) (locs : List Loc) (ls : Array Slot) (l1 : Int) (k0 : Int), PW G σ H → va_S (AA G) s.heap H locs → fn σ l1 k0 = some (res, τ) → lv_has ls 5 [(0, .ref (gh G + 111)), (1, .int (i32 l1))] → W p l e R s m args below meth c H locs 0 0 (MQ below (QM G (some (.int (i32 res))) τ) args s 0 0 (AA G)) (F0 m 60 ls [.int (i32 k0)])
def X11_read_B59 (σ : Mem) (l1 : Int) : Option (Int × Mem) :=
  X11_read_B60 σ l1 0
def S_X11_read_59 (fn : Mem → Int → Option (Int × Mem)) (p : Program) (l : Launch) (e : Env) (R : Room) (s : State) (m : MethodId) (args : Array Value) (below : List Frame) (meth : Method) (c : Code) (G : GT) (τ : Mem) (res : Int) : Prop := ∀ (σ : Mem) (H : Heap) (locs : List Loc) (ls : Array Slot) (l1 : Int), PW G σ H → va_S (AA G) s.heap H locs → fn σ l1 = some (res, τ) → lv_has ls 5 [(0, .ref (gh G + 111)), (1, .int (i32 l1))] → W p l e R s m args below meth c H locs 0 0 (MQ below (QM G (some (.int (i32 res))) τ) args s 0 0 (AA G)) (F0 m 59 ls [])
def X11_read (σ : Mem) (l1 : Int) : Option (Int × Mem) :=
  bd (X11_isPart σ l1) fun r1 =>
  if w32 r1 ≠ 0 then
    lt (st σ 111 7 0) fun s2 =>
    lt (st s2 111 10 0) fun s3 =>
    lt (st s3 111 11 0) fun s4 =>
    lt (st s4 111 13 0) fun s5 =>
    bd (X11_step s5) fun s7 =>
    bd (X11_readTextD 8 s7) fun s9 =>
    if w32 (s9 111 11) ≠ 0 then
      X11_read_B59 s9 l1
    else
    if w32 (s9 111 8) ≠ 0 then
      X11_read_B59 s9 l1
    else
    X11_read_B60 s9 l1 1
  else
  bd2 (X11_finds σ 0) fun r10 s11 =>
  some (r10, s11)
def S_X11_read_0 (fn : Mem → Int → Option (Int × Mem)) (p : Program) (l : Launch) (e : Env) (R : Room) (s : State) (m : MethodId) (args : Array Value) (below : List Frame) (meth : Method) (c : Code) (G : GT) (τ : Mem) (res : Int) : Prop := ∀ (σ : Mem) (H : Heap) (locs : List Loc) (ls : Array Slot) (l1 : Int), PW G σ H → va_S (AA G) s.heap H locs → fn σ l1 = some (res, τ) → lv_has ls 5 [(0, .ref (gh G + 111)), (1, .int (i32 l1))] → W p l e R s m args below meth c H locs 0 0 (MQ below (QM G (some (.int (i32 res))) τ) args s 0 0 (AA G)) (F0 m 0 ls [])
set_option maxHeartbeats 4000000 in
theorem a_X11_read_103 {p : Program} {l : Launch} {e : Env} {R : Room} {s : State} {m : MethodId} {args : Array Value} {below : List Frame} {meth : Method} {c : Code} {G : GT} {τ : Mem} {res : Int} {rec103 : Mem → Int → Int → Int → Option (Int × Mem)} (X : CX p R s m args meth c cX11_read 5 RX11 (some FieldType.int) 177 5460 G) (h103 : S_X11_read_103 rec103 p l e R s m args below meth c G τ res) : S_X11_read_103 (X11_read_B103 rec103) p l e R s m args below meth c G τ res := by
  intro σ H locs ls l1 l3 l4 hP hS hf hl
  unfold X11_read_B103 at hf
  refine lv_iload X.1 X.2.1 dX11_read_103 (lv_at hl 3 rfl) ?_
  refine r_iconst X 4 dX11_read_105 ?_
  refine lv_aload_n X.1 X.2.1 dX11_read_106 rfl (lv_at hl 0 rfl) ?_
  refine g_11_13 X hP ks_11 (tb t_1100 rfl) dX11_read_107 ?_
  refine r_imul X dX11_read_110 ?_
  refine r_icmp_ge (tgt := 141) X dX11_read_111 (by decide) (fun q => ?_) (fun q => ?_)
  · replace hf := it_inv q hf
    refine lv_aload_n X.1 X.2.1 dX11_read_141 rfl (lv_at hl 0 rfl) ?_
    refine g_11_0 (r := 112) X hP ks_11 rfl (tb t_1087 rfl) dX11_read_142 ?_
    refine lv_iload_n X.1 X.2.1 dX11_read_145 rfl (lv_at hl 1 rfl) ?_
    obtain ⟨r1, hr1, hf⟩ := bd_inv hf
    refine k_X11_part X hP hS hl.1  hr1 (tb t_1084 rfl) (by decide) (Nat.le_of_ble_eq_true rfl) dX11_read_146 (fun H locs hP hS => ?_)
    refine r_iconst X 4 dX11_read_149 ?_
    refine r_iadd X dX11_read_150 ?_
    refine lv_iload_n X.1 X.2.1 dX11_read_151 rfl (lv_at hl 2 rfl) ?_
    refine lv_aload_n X.1 X.2.1 dX11_read_152 rfl (lv_at hl 0 rfl) ?_
    refine g_11_13 X hP ks_11 (tb t_1100 rfl) dX11_read_153 ?_
    refine r_iadd X dX11_read_156 ?_
    obtain ⟨j2, hij2, hjj2, hlj2, hf⟩ := ag_inv hf
    refine r_iast X hP hS (ch_11_0 ks_11).1 (ch_11_0 ks_11).2 hij2 hjj2 dX11_read_157 (fun H locs hP hS => ?_)
    obtain ⟨s3, es3, hf⟩ := lt_inv hf
    rw [es3] at hP
    refine lv_iload_n X.1 X.2.1 dX11_read_158 rfl (lv_at hl 2 rfl) ?_
    refine lv_aload_n X.1 X.2.1 dX11_read_159 rfl (lv_at hl 0 rfl) ?_
    refine g_11_13 X hP ks_11 (tb t_1100 rfl) dX11_read_160 ?_
    refine r_iadd X dX11_read_163 ?_
    obtain ⟨rfl, rfl⟩ := so2_inv hf
    exact r_iret X hP hS dX11_read_164
  · replace hf := ie_inv q hf
    refine lv_aload_n X.1 X.2.1 dX11_read_114 rfl (lv_at hl 0 rfl) ?_
    refine g_11_0 (r := 112) X hP ks_11 rfl (tb t_1087 rfl) dX11_read_115 ?_
    refine lv_iload_n X.1 X.2.1 dX11_read_118 rfl (lv_at hl 1 rfl) ?_
    refine lv_iload_n X.1 X.2.1 dX11_read_119 rfl (lv_at hl 2 rfl) ?_
    refine r_iconst X 0 dX11_read_120 ?_
    obtain ⟨r4, hr4, hf⟩ := bd_inv hf
    refine k_X11_at X hP hS hl.1  hr4 (tb t_1300 rfl) (by decide) (Nat.le_of_ble_eq_true rfl) dX11_read_121 (fun H locs hP hS => ?_)
    refine lv_iload X.1 X.2.1 dX11_read_124 (lv_at hl 3 rfl) ?_
    refine r_iadd X dX11_read_126 ?_
    refine lv_aload_n X.1 X.2.1 dX11_read_127 rfl (lv_at hl 0 rfl) ?_
    refine g_11_12 (r := 116) X hP ks_11 rfl (tb t_1099 rfl) dX11_read_128 ?_
    refine lv_iload X.1 X.2.1 dX11_read_131 (lv_at hl 3 rfl) ?_
    obtain ⟨j5, hij5, hjj5, hlj5, hf⟩ := ag_inv hf
    refine r_iald X hP (ch_11_12 ks_11).1 (ch_11_12 ks_11).2 hij5 hjj5 dX11_read_133 ?_
    obtain ⟨j6, hij6, hjj6, hlj6, hf⟩ := ag_inv hf
    refine r_iast X hP hS (ch_11_0 ks_11).1 (ch_11_0 ks_11).2 hij6 hjj6 dX11_read_134 (fun H locs hP hS => ?_)
    obtain ⟨s7, es7, hf⟩ := lt_inv hf
    rw [es7] at hP
    obtain ⟨l4_8, el4_8, hf⟩ := lt_inv hf
    refine lv_iinc (v := i32 l4_8) (lv' := [(4, .int (i32 l4_8)), (0, .ref (gh G + 111)), (1, .int (i32 l1)), (3, .int (i32 l3))]) X.1 X.2.1 dX11_read_135 hl (k := 3) rfl (by rw [← el4_8]; exact i32_add _ _) (by decide) rfl (fun ls hl => ?_)
    refine lv_goto (tgt := 103) X.1 X.2.1 dX11_read_138 (by decide) ?_
    exact h103 s7 H locs ls l1 l3 l4_8 hP hS hf (lv_sub hl [1, 2, 3, 0] rfl)
theorem al_X11_read_103 {p : Program} {l : Launch} {e : Env} {R : Room} {s : State} {m : MethodId} {args : Array Value} {below : List Frame} {meth : Method} {c : Code} {G : GT} {τ : Mem} {res : Int} (X : CX p R s m args meth c cX11_read 5 RX11 (some FieldType.int) 177 5460 G) : ∀ n, S_X11_read_103 (X11_read_L103 n) p l e R s m args below meth c G τ res := by
  intro n
  induction n with
  | zero =>
    intro σ H locs ls l1 l3 l4 hP hS hf hl
    cases hf
  | succ n ih => exact a_X11_read_103 X ih
set_option maxHeartbeats 4000000 in
theorem a_X11_read_60 {p : Program} {l : Launch} {e : Env} {R : Room} {s : State} {m : MethodId} {args : Array Value} {below : List Frame} {meth : Method} {c : Code} {G : GT} {τ : Mem} {res : Int} (X : CX p R s m args meth c cX11_read 5 RX11 (some FieldType.int) 177 5460 G) : S_X11_read_60 (X11_read_B60) p l e R s m args below meth c G τ res := by
  intro σ H locs ls l1 k0 hP hS hf hl
  unfold X11_read_B60 at hf
  refine lv_istore_n (lv' := [(2, .int (i32 k0)), (0, .ref (gh G + 111)), (1, .int (i32 l1))]) X.1 X.2.1 dX11_read_60 rfl hl (by decide) rfl (fun ls hl => ?_)
  refine lv_aload_n X.1 X.2.1 dX11_read_61 rfl (lv_at hl 1 rfl) ?_
  refine r_iconst X 0 dX11_read_62 ?_
  refine p_11_5 X hP hS ks_11 (tb t_1092 rfl) dX11_read_63 (fun H locs hP hS => ?_)
  obtain ⟨s1, es1, hf⟩ := lt_inv hf
  rw [es1] at hP
  refine lv_iload_n X.1 X.2.1 dX11_read_66 rfl (lv_at hl 0 rfl) ?_
  refine r_if_ne (tgt := 77) X dX11_read_67 (by decide) (fun q => ?_) (fun q => ?_)
  · replace hf := it_inv q hf
    refine lv_aload_n X.1 X.2.1 dX11_read_77 rfl (lv_at hl 1 rfl) ?_
    refine lv_iload_n X.1 X.2.1 dX11_read_78 rfl (lv_at hl 2 rfl) ?_
    obtain ⟨r2, hr2, hf⟩ := bd_inv hf
    refine k_X11_bars X hP hS hl.1  hr2 (tb t_1296 rfl) (by decide) (Nat.le_of_ble_eq_true rfl) dX11_read_79 (fun H locs hP hS => ?_)
    refine lv_istore_n (lv' := [(3, .int (i32 r2)), (2, .int (i32 k0)), (0, .ref (gh G + 111)), (1, .int (i32 l1))]) X.1 X.2.1 dX11_read_82 rfl hl (by decide) rfl (fun ls hl => ?_)
    refine lv_iload_n X.1 X.2.1 dX11_read_83 rfl (lv_at hl 0 rfl) ?_
    refine lv_aload_n X.1 X.2.1 dX11_read_84 rfl (lv_at hl 2 rfl) ?_
    refine g_11_13 X hP ks_11 (tb t_1100 rfl) dX11_read_85 ?_
    refine r_iadd X dX11_read_88 ?_
    refine r_bipush X 40 (by decide) dX11_read_89 ?_
    refine r_icmp_le (tgt := 100) X dX11_read_91 (by decide) (fun q => ?_) (fun q => ?_)
    · replace hf := it_inv q hf
      refine r_iconst X 0 dX11_read_100 ?_
      refine lv_istore (lv' := [(4, .int (i32 0)), (3, .int (i32 r2)), (2, .int (i32 k0)), (0, .ref (gh G + 111)), (1, .int (i32 l1))]) X.1 X.2.1 dX11_read_101 hl (by decide) rfl (fun ls hl => ?_)
      exact al_X11_read_103 X 5000 s1 H locs ls l1 r2 0 hP hS hf (lv_sub hl [3, 4, 1, 0] rfl)
    · replace hf := ie_inv q hf
      refine lv_aload_n X.1 X.2.1 dX11_read_94 rfl (lv_at hl 2 rfl) ?_
      refine r_iconst X 1 dX11_read_95 ?_
      obtain ⟨r3, s4, hr3, hf⟩ := bd2_inv hf
      refine k_X11_finds X hP hS hl.1  hr3 (tb t_1219 rfl) (by decide) (Nat.le_of_ble_eq_true rfl) dX11_read_96 (fun H locs hP hS => ?_)
      obtain ⟨rfl, rfl⟩ := so2_inv hf
      exact r_iret X hP hS dX11_read_99
  · replace hf := ie_inv q hf
    refine r_iconst X (-1) dX11_read_70 ?_
    refine lv_aload_n X.1 X.2.1 dX11_read_71 rfl (lv_at hl 1 rfl) ?_
    refine g_11_6 X hP ks_11 (tb t_1093 rfl) dX11_read_72 ?_
    refine r_isub X dX11_read_75 ?_
    obtain ⟨rfl, rfl⟩ := so2_inv hf
    exact r_iret X hP hS dX11_read_76
set_option maxHeartbeats 4000000 in
theorem a_X11_read_59 {p : Program} {l : Launch} {e : Env} {R : Room} {s : State} {m : MethodId} {args : Array Value} {below : List Frame} {meth : Method} {c : Code} {G : GT} {τ : Mem} {res : Int} (X : CX p R s m args meth c cX11_read 5 RX11 (some FieldType.int) 177 5460 G) : S_X11_read_59 (X11_read_B59) p l e R s m args below meth c G τ res := by
  intro σ H locs ls l1 hP hS hf hl
  unfold X11_read_B59 at hf
  refine r_iconst X 0 dX11_read_59 ?_
  exact a_X11_read_60 X σ H locs ls l1 0 hP hS hf hl
set_option maxHeartbeats 4000000 in
theorem a_X11_read_0 {p : Program} {l : Launch} {e : Env} {R : Room} {s : State} {m : MethodId} {args : Array Value} {below : List Frame} {meth : Method} {c : Code} {G : GT} {τ : Mem} {res : Int} (X : CX p R s m args meth c cX11_read 5 RX11 (some FieldType.int) 177 5460 G) : S_X11_read_0 (X11_read) p l e R s m args below meth c G τ res := by
  intro σ H locs ls l1 hP hS hf hl
  unfold X11_read at hf
  refine lv_iload_n X.1 X.2.1 dX11_read_0 rfl (lv_at hl 1 rfl) ?_
  obtain ⟨r1, hr1, hf⟩ := bd_inv hf
  refine k_X11_isPart X hP hS hl.1  hr1 (tb t_1204 rfl) (by decide) (Nat.le_of_ble_eq_true rfl) dX11_read_1 (fun H locs hP hS => ?_)
  refine r_if_ne (tgt := 13) X dX11_read_4 (by decide) (fun q => ?_) (fun q => ?_)
  · replace hf := it_inv q hf
    refine lv_aload_n X.1 X.2.1 dX11_read_13 rfl (lv_at hl 0 rfl) ?_
    refine r_iconst X 0 dX11_read_14 ?_
    refine p_11_7 X hP hS ks_11 (tb t_1094 rfl) dX11_read_15 (fun H locs hP hS => ?_)
    obtain ⟨s2, es2, hf⟩ := lt_inv hf
    rw [es2] at hP
    refine lv_aload_n X.1 X.2.1 dX11_read_18 rfl (lv_at hl 0 rfl) ?_
    refine r_iconst X 0 dX11_read_19 ?_
    refine p_11_10 X hP hS ks_11 (tb t_1097 rfl) dX11_read_20 (fun H locs hP hS => ?_)
    obtain ⟨s3, es3, hf⟩ := lt_inv hf
    rw [es3] at hP
    refine lv_aload_n X.1 X.2.1 dX11_read_23 rfl (lv_at hl 0 rfl) ?_
    refine r_iconst X 0 dX11_read_24 ?_
    refine p_11_11 X hP hS (Or.inl rfl) ks_11 (tb t_1098 rfl) dX11_read_25 (fun H locs hP hS => ?_)
    obtain ⟨s4, es4, hf⟩ := lt_inv hf
    rw [es4] at hP
    refine lv_aload_n X.1 X.2.1 dX11_read_28 rfl (lv_at hl 0 rfl) ?_
    refine r_iconst X 0 dX11_read_29 ?_
    refine p_11_13 X hP hS ks_11 (tb t_1100 rfl) dX11_read_30 (fun H locs hP hS => ?_)
    obtain ⟨s5, es5, hf⟩ := lt_inv hf
    rw [es5] at hP
    refine lv_aload_n X.1 X.2.1 dX11_read_33 rfl (lv_at hl 0 rfl) ?_
    obtain ⟨s7, hr6, hf⟩ := bd_inv hf
    refine k_X11_step X hP hS hl.1  hr6 (tb t_1246 rfl) (by decide) (Nat.le_of_ble_eq_true rfl) dX11_read_34 (fun H locs hP hS => ?_)
    refine lv_aload_n X.1 X.2.1 dX11_read_37 rfl (lv_at hl 0 rfl) ?_
    obtain ⟨s9, hr8, hf⟩ := bd_inv hf
    refine kd_X11_readText 8 X hP hS hl.1  hr8 (tb t_1268 rfl) (by decide) (Nat.le_of_ble_eq_true rfl) dX11_read_38 (fun H locs hP hS => ?_)
    refine lv_aload_n X.1 X.2.1 dX11_read_41 rfl (lv_at hl 0 rfl) ?_
    refine g_11_11 X hP ks_11 (tb t_1098 rfl) dX11_read_42 ?_
    refine r_if_ne (tgt := 59) X dX11_read_45 (by decide) (fun q => ?_) (fun q => ?_)
    · replace hf := it_inv q hf
      exact a_X11_read_59 X s9 H locs ls l1 hP hS hf hl
    · replace hf := ie_inv q hf
      refine lv_aload_n X.1 X.2.1 dX11_read_48 rfl (lv_at hl 0 rfl) ?_
      refine g_11_8 X hP ks_11 (tb t_1095 rfl) dX11_read_49 ?_
      refine r_if_ne (tgt := 59) X dX11_read_52 (by decide) (fun q => ?_) (fun q => ?_)
      · replace hf := it_inv q hf
        exact a_X11_read_59 X s9 H locs ls l1 hP hS hf hl
      · replace hf := ie_inv q hf
        refine r_iconst X 1 dX11_read_55 ?_
        refine lv_goto (tgt := 60) X.1 X.2.1 dX11_read_56 (by decide) ?_
        exact a_X11_read_60 X s9 H locs ls l1 1 hP hS hf hl
  · replace hf := ie_inv q hf
    refine lv_aload_n X.1 X.2.1 dX11_read_7 rfl (lv_at hl 0 rfl) ?_
    refine r_iconst X 0 dX11_read_8 ?_
    obtain ⟨r10, s11, hr10, hf⟩ := bd2_inv hf
    refine k_X11_finds X hP hS hl.1  hr10 (tb t_1219 rfl) (by decide) (Nat.le_of_ble_eq_true rfl) dX11_read_9 (fun H locs hP hS => ?_)
    obtain ⟨rfl, rfl⟩ := so2_inv hf
    exact r_iret X hP hS dX11_read_12
set_option maxHeartbeats 4000000 in
theorem c_X11_read {l : Launch} {G : GT} {σ τ : Mem} {res : Int} {l1 : Int} (hf : X11_read σ l1 = some (res, τ)) : CT l yX11_read cX11_read 5 (some FieldType.int) 177 5460 G [.ref (gh G + 111), .int (i32 l1)] σ τ (some (.int (i32 res))) := by
  refine CT.mk (own := RX11) (by decide) rfl (Nat.le_of_ble_eq_true rfl) ?_
  intro p e s m below meth c ls X hP hS hl
  have hl : lv_has ls 5 [(0, .ref (gh G + 111)), (1, .int (i32 l1))] := hl
  exact a_X11_read_0 X σ s.heap [] ls l1 hP hS hf hl
theorem k_X11_read {p : Program} {l : Launch} {e : Env} {R : Room} {s : State} {m : MethodId} {args : Array Value} {below : List Frame} {meth : Method} {c : Code} {H : Heap} {locs : List Loc} {Q : State → Prop} {cc : ByteArray} {nL : Nat} {own : String} {ret : Option FieldType} {fF fL : Nat} {G : GT} {pc idx : Nat} {ls : Array Slot} {rest : List Value} {σ τ : Mem} {res : Int} {l1 : Int} (X : CX p R s m args meth c cc nL own ret fF fL G) (hP : PW G σ H) (hS : va_S (AA G) s.heap H locs) (hls : ls.size = nL) (hf : X11_read σ l1 = some (res, τ)) (h1 : Cond.methodLink own idx yX11_read ∈ TB) (hR : 177 + 1 ≤ fF ∧ 8 + (5 + 11) + 5460 ≤ fL) (hW : (rest.map fun v => v.category).sum ≤ 8) (hd : decode cc pc = .ok (.invokevirtual idx, 3)) (kk : ∀ (H1 : Heap) (locs1 : List Loc), PW G τ H1 → va_S (AA G) s.heap H1 locs1 → W p l e R s m args below meth c H1 locs1 0 0 Q (F0 m (pc + 3) ls (.int (i32 res) :: rest))) : W p l e R s m args below meth c H locs 0 0 Q (F0 m pc ls (.int (i32 l1) :: .ref (gh G + 111) :: rest)) := r_callV (n := 1) X hP hS hls (c_X11_read hf) h1 (tb t_1243 rfl) (tb t_1244 rfl) (tb t_87 rfl) (tb t_1245 rfl) (by decide +kernel) hR (r_recv X hP (kd_lt ks_11 (by decide)) (cE_11 ks_11) rfl) rfl rfl hW hd kk
/-! X11_room_ -/
theorem dX11_room__0 : decode cX11_room_ 0 = .ok (.aload_n 0, 1) := by decide +kernel
theorem dX11_room__1 : decode cX11_room_ 1 = .ok (.iload_n 1, 1) := by decide +kernel
theorem dX11_room__2 : decode cX11_room_ 2 = .ok (.iload_n 2, 1) := by decide +kernel
theorem dX11_room__3 : decode cX11_room_ 3 = .ok (.invokevirtual 211, 3) := by decide +kernel
theorem dX11_room__6 : decode cX11_room_ 6 = .ok (.ifCond .eq 26, 3) := by decide +kernel
theorem dX11_room__9 : decode cX11_room_ 9 = .ok (.iload_n 3, 1) := by decide +kernel
theorem dX11_room__10 : decode cX11_room_ 10 = .ok (.i2l, 1) := by decide +kernel
theorem dX11_room__11 : decode cX11_room_ 11 = .ok (.lconst 0, 1) := by decide +kernel
theorem dX11_room__12 : decode cX11_room_ 12 = .ok (.ldc2_w 214, 3) := by decide +kernel
theorem dX11_room__15 : decode cX11_room_ 15 = .ok (.invokestatic 93, 3) := by decide +kernel
theorem dX11_room__18 : decode cX11_room_ 18 = .ok (.ifCond .eq 14, 3) := by decide +kernel
theorem dX11_room__21 : decode cX11_room_ 21 = .ok (.aload_n 0, 1) := by decide +kernel
theorem dX11_room__22 : decode cX11_room_ 22 = .ok (.iload_n 1, 1) := by decide +kernel
theorem dX11_room__23 : decode cX11_room_ 23 = .ok (.iload_n 2, 1) := by decide +kernel
theorem dX11_room__24 : decode cX11_room_ 24 = .ok (.iload_n 3, 1) := by decide +kernel
theorem dX11_room__25 : decode cX11_room_ 25 = .ok (.iconst 1, 1) := by decide +kernel
theorem dX11_room__26 : decode cX11_room_ 26 = .ok (.invokevirtual 233, 3) := by decide +kernel
theorem dX11_room__29 : decode cX11_room_ 29 = .ok (.goto 8, 3) := by decide +kernel
theorem dX11_room__32 : decode cX11_room_ 32 = .ok (.aload_n 0, 1) := by decide +kernel
theorem dX11_room__33 : decode cX11_room_ 33 = .ok (.iconst 0, 1) := by decide +kernel
theorem dX11_room__34 : decode cX11_room_ 34 = .ok (.invokevirtual 122, 3) := by decide +kernel
theorem dX11_room__37 : decode cX11_room_ 37 = .ok (.ireturn, 1) := by decide +kernel
def X11_room__B32 (σ : Mem) : Option (Int × Mem) :=
  bd2 (X11_finds σ 0) fun r1 s2 =>
  some (r1, s2)
def S_X11_room__32 (fn : Mem → Option (Int × Mem)) (p : Program) (l : Launch) (e : Env) (R : Room) (s : State) (m : MethodId) (args : Array Value) (below : List Frame) (meth : Method) (c : Code) (G : GT) (τ : Mem) (res : Int) : Prop := ∀ (σ : Mem) (H : Heap) (locs : List Loc) (ls : Array Slot), PW G σ H → va_S (AA G) s.heap H locs → fn σ = some (res, τ) → lv_has ls 4 [(0, .ref (gh G + 111))] → W p l e R s m args below meth c H locs 0 0 (MQ below (QM G (some (.int (i32 res))) τ) args s 0 0 (AA G)) (F0 m 32 ls [])
def X11_room_ (σ : Mem) (l1 : Int) (l2 : Int) (l3 : Int) : Option (Int × Mem) :=
  bd (X11_isBar σ l1 l2) fun r1 =>
  if w32 r1 = 0 then
    X11_room__B32 σ
  else
  bd (X11_in σ (w32 l3) 0 2) fun r2 =>
  if w32 r2 = 0 then
    X11_room__B32 σ
  else
  bd (X11_room σ l1 l2 l3) fun r3 =>
  some (r3, σ)
def S_X11_room__0 (fn : Mem → Int → Int → Int → Option (Int × Mem)) (p : Program) (l : Launch) (e : Env) (R : Room) (s : State) (m : MethodId) (args : Array Value) (below : List Frame) (meth : Method) (c : Code) (G : GT) (τ : Mem) (res : Int) : Prop := ∀ (σ : Mem) (H : Heap) (locs : List Loc) (ls : Array Slot) (l1 : Int) (l2 : Int) (l3 : Int), PW G σ H → va_S (AA G) s.heap H locs → fn σ l1 l2 l3 = some (res, τ) → lv_has ls 4 [(0, .ref (gh G + 111)), (1, .int (i32 l1)), (2, .int (i32 l2)), (3, .int (i32 l3))] → W p l e R s m args below meth c H locs 0 0 (MQ below (QM G (some (.int (i32 res))) τ) args s 0 0 (AA G)) (F0 m 0 ls [])
set_option maxHeartbeats 4000000 in
theorem a_X11_room__32 {p : Program} {l : Launch} {e : Env} {R : Room} {s : State} {m : MethodId} {args : Array Value} {below : List Frame} {meth : Method} {c : Code} {G : GT} {τ : Mem} {res : Int} (X : CX p R s m args meth c cX11_room_ 4 RX11 (some FieldType.int) 4 127 G) : S_X11_room__32 (X11_room__B32) p l e R s m args below meth c G τ res := by
  intro σ H locs ls hP hS hf hl
  unfold X11_room__B32 at hf
  refine lv_aload_n X.1 X.2.1 dX11_room__32 rfl (lv_at hl 0 rfl) ?_
  refine r_iconst X 0 dX11_room__33 ?_
  obtain ⟨r1, s2, hr1, hf⟩ := bd2_inv hf
  refine k_X11_finds X hP hS hl.1  hr1 (tb t_1219 rfl) (by decide) (Nat.le_of_ble_eq_true rfl) dX11_room__34 (fun H locs hP hS => ?_)
  obtain ⟨rfl, rfl⟩ := so2_inv hf
  exact r_iret X hP hS dX11_room__37
set_option maxHeartbeats 4000000 in
theorem a_X11_room__0 {p : Program} {l : Launch} {e : Env} {R : Room} {s : State} {m : MethodId} {args : Array Value} {below : List Frame} {meth : Method} {c : Code} {G : GT} {τ : Mem} {res : Int} (X : CX p R s m args meth c cX11_room_ 4 RX11 (some FieldType.int) 4 127 G) : S_X11_room__0 (X11_room_) p l e R s m args below meth c G τ res := by
  intro σ H locs ls l1 l2 l3 hP hS hf hl
  unfold X11_room_ at hf
  refine lv_aload_n X.1 X.2.1 dX11_room__0 rfl (lv_at hl 0 rfl) ?_
  refine lv_iload_n X.1 X.2.1 dX11_room__1 rfl (lv_at hl 1 rfl) ?_
  refine lv_iload_n X.1 X.2.1 dX11_room__2 rfl (lv_at hl 2 rfl) ?_
  obtain ⟨r1, hr1, hf⟩ := bd_inv hf
  refine k_X11_isBar X hP hS hl.1  hr1 (tb t_1307 rfl) (by decide) (Nat.le_of_ble_eq_true rfl) dX11_room__3 (fun H locs hP hS => ?_)
  refine r_if_eq (tgt := 32) X dX11_room__6 (by decide) (fun q => ?_) (fun q => ?_)
  · replace hf := it_inv q hf
    exact a_X11_room__32 X σ H locs ls  hP hS hf (lv_sub hl [0] rfl)
  · replace hf := ie_inv q hf
    refine lv_iload_n X.1 X.2.1 dX11_room__9 rfl (lv_at hl 3 rfl) ?_
    refine r_i2l X dX11_room__10 ?_
    refine r_lconst X 0 0 (by decide) dX11_room__11 ?_
    refine r_ldc2 X 2 (tb t_1315 rfl) (by decide) dX11_room__12 ?_
    obtain ⟨r2, hr2, hf⟩ := bd_inv hf
    refine k_X11_in X hP hS hl.1  hr2 (tb t_1208 rfl) (by decide) (Nat.le_of_ble_eq_true rfl) dX11_room__15 (fun H locs hP hS => ?_)
    refine r_if_eq (tgt := 32) X dX11_room__18 (by decide) (fun q => ?_) (fun q => ?_)
    · replace hf := it_inv q hf
      exact a_X11_room__32 X σ H locs ls  hP hS hf (lv_sub hl [0] rfl)
    · replace hf := ie_inv q hf
      refine lv_aload_n X.1 X.2.1 dX11_room__21 rfl (lv_at hl 0 rfl) ?_
      refine lv_iload_n X.1 X.2.1 dX11_room__22 rfl (lv_at hl 1 rfl) ?_
      refine lv_iload_n X.1 X.2.1 dX11_room__23 rfl (lv_at hl 2 rfl) ?_
      refine lv_iload_n X.1 X.2.1 dX11_room__24 rfl (lv_at hl 3 rfl) ?_
      refine r_iconst X 1 dX11_room__25 ?_
      obtain ⟨r3, hr3, hf⟩ := bd_inv hf
      refine k_X11_room X hP hS hl.1  hr3 (tb t_1345 rfl) (by decide) (Nat.le_of_ble_eq_true rfl) dX11_room__26 (fun H locs hP hS => ?_)
      refine lv_goto (tgt := 37) X.1 X.2.1 dX11_room__29 (by decide) ?_
      obtain ⟨rfl, rfl⟩ := so2_inv hf
      exact r_iret X hP hS dX11_room__37
set_option maxHeartbeats 4000000 in
theorem c_X11_room_ {l : Launch} {G : GT} {σ τ : Mem} {res : Int} {l1 : Int} {l2 : Int} {l3 : Int} (hf : X11_room_ σ l1 l2 l3 = some (res, τ)) : CT l yX11_room_ cX11_room_ 4 (some FieldType.int) 4 127 G [.ref (gh G + 111), .int (i32 l1), .int (i32 l2), .int (i32 l3)] σ τ (some (.int (i32 res))) := by
  refine CT.mk (own := RX11) (by decide) rfl (Nat.le_of_ble_eq_true rfl) ?_
  intro p e s m below meth c ls X hP hS hl
  have hl : lv_has ls 4 [(0, .ref (gh G + 111)), (1, .int (i32 l1)), (2, .int (i32 l2)), (3, .int (i32 l3))] := hl
  exact a_X11_room__0 X σ s.heap [] ls l1 l2 l3 hP hS hf hl
theorem k_X11_room_ {p : Program} {l : Launch} {e : Env} {R : Room} {s : State} {m : MethodId} {args : Array Value} {below : List Frame} {meth : Method} {c : Code} {H : Heap} {locs : List Loc} {Q : State → Prop} {cc : ByteArray} {nL : Nat} {own : String} {ret : Option FieldType} {fF fL : Nat} {G : GT} {pc idx : Nat} {ls : Array Slot} {rest : List Value} {σ τ : Mem} {res : Int} {l1 : Int} {l2 : Int} {l3 : Int} (X : CX p R s m args meth c cc nL own ret fF fL G) (hP : PW G σ H) (hS : va_S (AA G) s.heap H locs) (hls : ls.size = nL) (hf : X11_room_ σ l1 l2 l3 = some (res, τ)) (h1 : Cond.methodLink own idx yX11_room_ ∈ TB) (hR : 4 + 1 ≤ fF ∧ 8 + (4 + 11) + 127 ≤ fL) (hW : (rest.map fun v => v.category).sum ≤ 8) (hd : decode cc pc = .ok (.invokevirtual idx, 3)) (kk : ∀ (H1 : Heap) (locs1 : List Loc), PW G τ H1 → va_S (AA G) s.heap H1 locs1 → W p l e R s m args below meth c H1 locs1 0 0 Q (F0 m (pc + 3) ls (.int (i32 res) :: rest))) : W p l e R s m args below meth c H locs 0 0 Q (F0 m pc ls (.int (i32 l3) :: .int (i32 l2) :: .int (i32 l1) :: .ref (gh G + 111) :: rest)) := r_callV (n := 3) X hP hS hls (c_X11_room_ hf) h1 (tb t_1342 rfl) (tb t_1343 rfl) (tb t_87 rfl) (tb t_1344 rfl) (by decide +kernel) hR (r_recv X hP (kd_lt ks_11 (by decide)) (cE_11 ks_11) rfl) rfl rfl hW hd kk
/-! X11_rooms_ -/
theorem dX11_rooms__0 : decode cX11_rooms_ 0 = .ok (.iload_n 1, 1) := by decide +kernel
theorem dX11_rooms__1 : decode cX11_rooms_ 1 = .ok (.invokestatic 338, 3) := by decide +kernel
theorem dX11_rooms__4 : decode cX11_rooms_ 4 = .ok (.ifCond .ne 9, 3) := by decide +kernel
theorem dX11_rooms__7 : decode cX11_rooms_ 7 = .ok (.aload_n 0, 1) := by decide +kernel
theorem dX11_rooms__8 : decode cX11_rooms_ 8 = .ok (.iconst 0, 1) := by decide +kernel
theorem dX11_rooms__9 : decode cX11_rooms_ 9 = .ok (.invokevirtual 122, 3) := by decide +kernel
theorem dX11_rooms__12 : decode cX11_rooms_ 12 = .ok (.ireturn, 1) := by decide +kernel
theorem dX11_rooms__13 : decode cX11_rooms_ 13 = .ok (.aload_n 0, 1) := by decide +kernel
theorem dX11_rooms__14 : decode cX11_rooms_ 14 = .ok (.getfield 77, 3) := by decide +kernel
theorem dX11_rooms__17 : decode cX11_rooms_ 17 = .ok (.iload_n 1, 1) := by decide +kernel
theorem dX11_rooms__18 : decode cX11_rooms_ 18 = .ok (.iaload, 1) := by decide +kernel
theorem dX11_rooms__19 : decode cX11_rooms_ 19 = .ok (.ifCond .ne 9, 3) := by decide +kernel
theorem dX11_rooms__22 : decode cX11_rooms_ 22 = .ok (.aload_n 0, 1) := by decide +kernel
theorem dX11_rooms__23 : decode cX11_rooms_ 23 = .ok (.iconst 5, 1) := by decide +kernel
theorem dX11_rooms__24 : decode cX11_rooms_ 24 = .ok (.invokevirtual 122, 3) := by decide +kernel
theorem dX11_rooms__27 : decode cX11_rooms_ 27 = .ok (.ireturn, 1) := by decide +kernel
theorem dX11_rooms__28 : decode cX11_rooms_ 28 = .ok (.iload_n 2, 1) := by decide +kernel
theorem dX11_rooms__29 : decode cX11_rooms_ 29 = .ok (.invokestatic 97, 3) := by decide +kernel
theorem dX11_rooms__32 : decode cX11_rooms_ 32 = .ok (.ifCond .ne 9, 3) := by decide +kernel
theorem dX11_rooms__35 : decode cX11_rooms_ 35 = .ok (.aload_n 0, 1) := by decide +kernel
theorem dX11_rooms__36 : decode cX11_rooms_ 36 = .ok (.iconst 0, 1) := by decide +kernel
theorem dX11_rooms__37 : decode cX11_rooms_ 37 = .ok (.invokevirtual 122, 3) := by decide +kernel
theorem dX11_rooms__40 : decode cX11_rooms_ 40 = .ok (.ireturn, 1) := by decide +kernel
theorem dX11_rooms__41 : decode cX11_rooms_ 41 = .ok (.iconst 0, 1) := by decide +kernel
theorem dX11_rooms__42 : decode cX11_rooms_ 42 = .ok (.istore_n 3, 1) := by decide +kernel
theorem dX11_rooms__43 : decode cX11_rooms_ 43 = .ok (.iconst 0, 1) := by decide +kernel
theorem dX11_rooms__44 : decode cX11_rooms_ 44 = .ok (.istore 4, 2) := by decide +kernel
theorem dX11_rooms__46 : decode cX11_rooms_ 46 = .ok (.iload 4, 2) := by decide +kernel
theorem dX11_rooms__48 : decode cX11_rooms_ 48 = .ok (.aload_n 0, 1) := by decide +kernel
theorem dX11_rooms__49 : decode cX11_rooms_ 49 = .ok (.getfield 80, 3) := by decide +kernel
theorem dX11_rooms__52 : decode cX11_rooms_ 52 = .ok (.iload_n 1, 1) := by decide +kernel
theorem dX11_rooms__53 : decode cX11_rooms_ 53 = .ok (.iaload, 1) := by decide +kernel
theorem dX11_rooms__54 : decode cX11_rooms_ 54 = .ok (.if_icmp .ge 66, 3) := by decide +kernel
theorem dX11_rooms__57 : decode cX11_rooms_ 57 = .ok (.iload 4, 2) := by decide +kernel
theorem dX11_rooms__59 : decode cX11_rooms_ 59 = .ok (.aload_n 0, 1) := by decide +kernel
theorem dX11_rooms__60 : decode cX11_rooms_ 60 = .ok (.iload_n 2, 1) := by decide +kernel
theorem dX11_rooms__61 : decode cX11_rooms_ 61 = .ok (.invokevirtual 101, 3) := by decide +kernel
theorem dX11_rooms__64 : decode cX11_rooms_ 64 = .ok (.if_icmp .ge 56, 3) := by decide +kernel
theorem dX11_rooms__67 : decode cX11_rooms_ 67 = .ok (.aload_n 0, 1) := by decide +kernel
theorem dX11_rooms__68 : decode cX11_rooms_ 68 = .ok (.getfield 83, 3) := by decide +kernel
theorem dX11_rooms__71 : decode cX11_rooms_ 71 = .ok (.bipush 40, 2) := by decide +kernel
theorem dX11_rooms__73 : decode cX11_rooms_ 73 = .ok (.iload_n 1, 1) := by decide +kernel
theorem dX11_rooms__74 : decode cX11_rooms_ 74 = .ok (.imul, 1) := by decide +kernel
theorem dX11_rooms__75 : decode cX11_rooms_ 75 = .ok (.iload 4, 2) := by decide +kernel
theorem dX11_rooms__77 : decode cX11_rooms_ 77 = .ok (.iadd, 1) := by decide +kernel
theorem dX11_rooms__78 : decode cX11_rooms_ 78 = .ok (.iaload, 1) := by decide +kernel
theorem dX11_rooms__79 : decode cX11_rooms_ 79 = .ok (.istore 5, 2) := by decide +kernel
theorem dX11_rooms__81 : decode cX11_rooms_ 81 = .ok (.iload 5, 2) := by decide +kernel
theorem dX11_rooms__83 : decode cX11_rooms_ 83 = .ok (.i2l, 1) := by decide +kernel
theorem dX11_rooms__84 : decode cX11_rooms_ 84 = .ok (.lconst 1, 1) := by decide +kernel
theorem dX11_rooms__85 : decode cX11_rooms_ 85 = .ok (.ldc2_w 341, 3) := by decide +kernel
theorem dX11_rooms__88 : decode cX11_rooms_ 88 = .ok (.invokestatic 93, 3) := by decide +kernel
theorem dX11_rooms__91 : decode cX11_rooms_ 91 = .ok (.ifCond .ne 6, 3) := by decide +kernel
theorem dX11_rooms__94 : decode cX11_rooms_ 94 = .ok (.goto 20, 3) := by decide +kernel
theorem dX11_rooms__97 : decode cX11_rooms_ 97 = .ok (.aload_n 0, 1) := by decide +kernel
theorem dX11_rooms__98 : decode cX11_rooms_ 98 = .ok (.getfield 9, 3) := by decide +kernel
theorem dX11_rooms__101 : decode cX11_rooms_ 101 = .ok (.iload_n 2, 1) := by decide +kernel
theorem dX11_rooms__102 : decode cX11_rooms_ 102 = .ok (.iload 4, 2) := by decide +kernel
theorem dX11_rooms__104 : decode cX11_rooms_ 104 = .ok (.iconst 0, 1) := by decide +kernel
theorem dX11_rooms__105 : decode cX11_rooms_ 105 = .ok (.invokestatic 104, 3) := by decide +kernel
theorem dX11_rooms__108 : decode cX11_rooms_ 108 = .ok (.iload 5, 2) := by decide +kernel
theorem dX11_rooms__110 : decode cX11_rooms_ 110 = .ok (.iastore, 1) := by decide +kernel
theorem dX11_rooms__111 : decode cX11_rooms_ 111 = .ok (.iinc 3 1, 3) := by decide +kernel
theorem dX11_rooms__114 : decode cX11_rooms_ 114 = .ok (.iinc 4 1, 3) := by decide +kernel
theorem dX11_rooms__117 : decode cX11_rooms_ 117 = .ok (.goto (-71), 3) := by decide +kernel
theorem dX11_rooms__120 : decode cX11_rooms_ 120 = .ok (.iload_n 3, 1) := by decide +kernel
theorem dX11_rooms__121 : decode cX11_rooms_ 121 = .ok (.ireturn, 1) := by decide +kernel
def S_X11_rooms__46 (fn : Mem → Int → Int → Int → Int → Option (Int × Mem)) (p : Program) (l : Launch) (e : Env) (R : Room) (s : State) (m : MethodId) (args : Array Value) (below : List Frame) (meth : Method) (c : Code) (G : GT) (τ : Mem) (res : Int) : Prop := ∀ (σ : Mem) (H : Heap) (locs : List Loc) (ls : Array Slot) (l1 : Int) (l2 : Int) (l3 : Int) (l4 : Int), PW G σ H → va_S (AA G) s.heap H locs → fn σ l1 l2 l3 l4 = some (res, τ) → lv_has ls 6 [(0, .ref (gh G + 111)), (1, .int (i32 l1)), (2, .int (i32 l2)), (3, .int (i32 l3)), (4, .int (i32 l4))] → W p l e R s m args below meth c H locs 0 0 (MQ below (QM G (some (.int (i32 res))) τ) args s 0 0 (AA G)) (F0 m 46 ls [])
def X11_rooms__B114 (rec46 : Mem → Int → Int → Int → Int → Option (Int × Mem)) (σ : Mem) (l1 : Int) (l2 : Int) (l3 : Int) (l4 : Int) : Option (Int × Mem) :=
  lt (l4 + 1) fun l4_1 =>
  rec46 σ l1 l2 l3 l4_1
def S_X11_rooms__114 (fn : Mem → Int → Int → Int → Int → Option (Int × Mem)) (p : Program) (l : Launch) (e : Env) (R : Room) (s : State) (m : MethodId) (args : Array Value) (below : List Frame) (meth : Method) (c : Code) (G : GT) (τ : Mem) (res : Int) : Prop := ∀ (σ : Mem) (H : Heap) (locs : List Loc) (ls : Array Slot) (l1 : Int) (l2 : Int) (l3 : Int) (l4 : Int), PW G σ H → va_S (AA G) s.heap H locs → fn σ l1 l2 l3 l4 = some (res, τ) → lv_has ls 6 [(0, .ref (gh G + 111)), (1, .int (i32 l1)), (2, .int (i32 l2)), (3, .int (i32 l3)), (4, .int (i32 l4))] → W p l e R s m args below meth c H locs 0 0 (MQ below (QM G (some (.int (i32 res))) τ) args s 0 0 (AA G)) (F0 m 114 ls [])
def X11_rooms__B46 (rec46 : Mem → Int → Int → Int → Int → Option (Int × Mem)) (σ : Mem) (l1 : Int) (l2 : Int) (l3 : Int) (l4 : Int) : Option (Int × Mem) :=
  ag 4 l1 fun j1 =>
  if w32 (σ 135 j1) ≤ w32 l4 then
    some (l3, σ)
  else
  bd (X11_bars σ l2) fun r2 =>
  if w32 r2 ≤ w32 l4 then
    some (l3, σ)
  else
  ag 160 ((40 * l1) + l4) fun j3 =>
  lt (σ 136 j3) fun l5_4 =>
  bd (X11_in σ (w32 l5_4) 1 60) fun r5 =>
  if w32 r5 ≠ 0 then
    bd (X11_at σ l2 l4 0) fun r6 =>
    ag 766 r6 fun j7 =>
    lt (st σ 112 j7 l5_4) fun s8 =>
    lt (l3 + 1) fun l3_9 =>
    X11_rooms__B114 rec46 s8 l1 l2 l3_9 l4
  else
  X11_rooms__B114 rec46 σ l1 l2 l3 l4
def X11_rooms__L46 : Nat → Mem → Int → Int → Int → Int → Option (Int × Mem)
  | 0 => fun _ _ _ _ _ => none
  | n + 1 => X11_rooms__B46 (X11_rooms__L46 n)
def X11_rooms_ (σ : Mem) (l1 : Int) (l2 : Int) : Option (Int × Mem) :=
  bd (X11_isSheet σ l1) fun r1 =>
  if w32 r1 ≠ 0 then
    ag 4 l1 fun j2 =>
    if w32 (σ 134 j2) ≠ 0 then
      bd (X11_isPart σ l2) fun r3 =>
      if w32 r3 ≠ 0 then
        X11_rooms__L46 5000 σ l1 l2 0 0
      else
      bd2 (X11_finds σ 0) fun r4 s5 =>
      some (r4, s5)
    else
    bd2 (X11_finds σ 5) fun r6 s7 =>
    some (r6, s7)
  else
  bd2 (X11_finds σ 0) fun r8 s9 =>
  some (r8, s9)
def S_X11_rooms__0 (fn : Mem → Int → Int → Option (Int × Mem)) (p : Program) (l : Launch) (e : Env) (R : Room) (s : State) (m : MethodId) (args : Array Value) (below : List Frame) (meth : Method) (c : Code) (G : GT) (τ : Mem) (res : Int) : Prop := ∀ (σ : Mem) (H : Heap) (locs : List Loc) (ls : Array Slot) (l1 : Int) (l2 : Int), PW G σ H → va_S (AA G) s.heap H locs → fn σ l1 l2 = some (res, τ) → lv_has ls 6 [(0, .ref (gh G + 111)), (1, .int (i32 l1)), (2, .int (i32 l2))] → W p l e R s m args below meth c H locs 0 0 (MQ below (QM G (some (.int (i32 res))) τ) args s 0 0 (AA G)) (F0 m 0 ls [])
set_option maxHeartbeats 4000000 in
theorem a_X11_rooms__114 {p : Program} {l : Launch} {e : Env} {R : Room} {s : State} {m : MethodId} {args : Array Value} {below : List Frame} {meth : Method} {c : Code} {G : GT} {τ : Mem} {res : Int} {rec46 : Mem → Int → Int → Int → Int → Option (Int × Mem)} (X : CX p R s m args meth c cX11_rooms_ 6 RX11 (some FieldType.int) 3 105 G) (h46 : S_X11_rooms__46 rec46 p l e R s m args below meth c G τ res) : S_X11_rooms__114 (X11_rooms__B114 rec46) p l e R s m args below meth c G τ res := by
  intro σ H locs ls l1 l2 l3 l4 hP hS hf hl
  unfold X11_rooms__B114 at hf
  obtain ⟨l4_1, el4_1, hf⟩ := lt_inv hf
  refine lv_iinc (v := i32 l4_1) (lv' := [(4, .int (i32 l4_1)), (0, .ref (gh G + 111)), (1, .int (i32 l1)), (2, .int (i32 l2)), (3, .int (i32 l3))]) X.1 X.2.1 dX11_rooms__114 hl (k := 4) rfl (by rw [← el4_1]; exact i32_add _ _) (by decide) rfl (fun ls hl => ?_)
  refine lv_goto (tgt := 46) X.1 X.2.1 dX11_rooms__117 (by decide) ?_
  exact h46 σ H locs ls l1 l2 l3 l4_1 hP hS hf (lv_sub hl [1, 2, 3, 4, 0] rfl)
set_option maxHeartbeats 4000000 in
theorem a_X11_rooms__46 {p : Program} {l : Launch} {e : Env} {R : Room} {s : State} {m : MethodId} {args : Array Value} {below : List Frame} {meth : Method} {c : Code} {G : GT} {τ : Mem} {res : Int} {rec46 : Mem → Int → Int → Int → Int → Option (Int × Mem)} (X : CX p R s m args meth c cX11_rooms_ 6 RX11 (some FieldType.int) 3 105 G) (h46 : S_X11_rooms__46 rec46 p l e R s m args below meth c G τ res) : S_X11_rooms__46 (X11_rooms__B46 rec46) p l e R s m args below meth c G τ res := by
  intro σ H locs ls l1 l2 l3 l4 hP hS hf hl
  unfold X11_rooms__B46 at hf
  refine lv_iload X.1 X.2.1 dX11_rooms__46 (lv_at hl 4 rfl) ?_
  refine lv_aload_n X.1 X.2.1 dX11_rooms__48 rfl (lv_at hl 0 rfl) ?_
  refine g_11_35 (r := 135) X hP ks_11 rfl (tb t_1122 rfl) dX11_rooms__49 ?_
  refine lv_iload_n X.1 X.2.1 dX11_rooms__52 rfl (lv_at hl 1 rfl) ?_
  obtain ⟨j1, hij1, hjj1, hlj1, hf⟩ := ag_inv hf
  refine r_iald X hP (ch_11_35 ks_11).1 (ch_11_35 ks_11).2 hij1 hjj1 dX11_rooms__53 ?_
  refine r_icmp_ge (tgt := 120) X dX11_rooms__54 (by decide) (fun q => ?_) (fun q => ?_)
  · replace hf := it_inv q hf
    refine lv_iload_n X.1 X.2.1 dX11_rooms__120 rfl (lv_at hl 3 rfl) ?_
    obtain ⟨rfl, rfl⟩ := so2_inv hf
    exact r_iret X hP hS dX11_rooms__121
  · replace hf := ie_inv q hf
    refine lv_iload X.1 X.2.1 dX11_rooms__57 (lv_at hl 4 rfl) ?_
    refine lv_aload_n X.1 X.2.1 dX11_rooms__59 rfl (lv_at hl 0 rfl) ?_
    refine lv_iload_n X.1 X.2.1 dX11_rooms__60 rfl (lv_at hl 2 rfl) ?_
    obtain ⟨r2, hr2, hf⟩ := bd_inv hf
    refine k_X11_bars X hP hS hl.1  hr2 (tb t_1296 rfl) (by decide) (Nat.le_of_ble_eq_true rfl) dX11_rooms__61 (fun H locs hP hS => ?_)
    refine r_icmp_ge (tgt := 120) X dX11_rooms__64 (by decide) (fun q => ?_) (fun q => ?_)
    · replace hf := it_inv q hf
      refine lv_iload_n X.1 X.2.1 dX11_rooms__120 rfl (lv_at hl 3 rfl) ?_
      obtain ⟨rfl, rfl⟩ := so2_inv hf
      exact r_iret X hP hS dX11_rooms__121
    · replace hf := ie_inv q hf
      refine lv_aload_n X.1 X.2.1 dX11_rooms__67 rfl (lv_at hl 0 rfl) ?_
      refine g_11_36 (r := 136) X hP ks_11 rfl (tb t_1123 rfl) dX11_rooms__68 ?_
      refine r_bipush X 40 (by decide) dX11_rooms__71 ?_
      refine lv_iload_n X.1 X.2.1 dX11_rooms__73 rfl (lv_at hl 1 rfl) ?_
      refine r_imul X dX11_rooms__74 ?_
      refine lv_iload X.1 X.2.1 dX11_rooms__75 (lv_at hl 4 rfl) ?_
      refine r_iadd X dX11_rooms__77 ?_
      obtain ⟨j3, hij3, hjj3, hlj3, hf⟩ := ag_inv hf
      refine r_iald X hP (ch_11_36 ks_11).1 (ch_11_36 ks_11).2 hij3 hjj3 dX11_rooms__78 ?_
      obtain ⟨l5_4, el5_4, hf⟩ := lt_inv hf
      refine r_eqi el5_4 ?_
      refine lv_istore (lv' := [(5, .int (i32 l5_4)), (0, .ref (gh G + 111)), (1, .int (i32 l1)), (2, .int (i32 l2)), (3, .int (i32 l3)), (4, .int (i32 l4))]) X.1 X.2.1 dX11_rooms__79 hl (by decide) rfl (fun ls hl => ?_)
      refine lv_iload X.1 X.2.1 dX11_rooms__81 (lv_at hl 0 rfl) ?_
      refine r_i2l X dX11_rooms__83 ?_
      refine r_lconst X 1 1 (by decide) dX11_rooms__84 ?_
      refine r_ldc2 X 60 (tb t_1547 rfl) (by decide) dX11_rooms__85 ?_
      obtain ⟨r5, hr5, hf⟩ := bd_inv hf
      refine k_X11_in X hP hS hl.1  hr5 (tb t_1208 rfl) (by decide) (Nat.le_of_ble_eq_true rfl) dX11_rooms__88 (fun H locs hP hS => ?_)
      refine r_if_ne (tgt := 97) X dX11_rooms__91 (by decide) (fun q => ?_) (fun q => ?_)
      · replace hf := it_inv q hf
        refine lv_aload_n X.1 X.2.1 dX11_rooms__97 rfl (lv_at hl 1 rfl) ?_
        refine g_11_0 (r := 112) X hP ks_11 rfl (tb t_1087 rfl) dX11_rooms__98 ?_
        refine lv_iload_n X.1 X.2.1 dX11_rooms__101 rfl (lv_at hl 3 rfl) ?_
        refine lv_iload X.1 X.2.1 dX11_rooms__102 (lv_at hl 5 rfl) ?_
        refine r_iconst X 0 dX11_rooms__104 ?_
        obtain ⟨r6, hr6, hf⟩ := bd_inv hf
        refine k_X11_at X hP hS hl.1  hr6 (tb t_1300 rfl) (by decide) (Nat.le_of_ble_eq_true rfl) dX11_rooms__105 (fun H locs hP hS => ?_)
        refine lv_iload X.1 X.2.1 dX11_rooms__108 (lv_at hl 0 rfl) ?_
        obtain ⟨j7, hij7, hjj7, hlj7, hf⟩ := ag_inv hf
        refine r_iast X hP hS (ch_11_0 ks_11).1 (ch_11_0 ks_11).2 hij7 hjj7 dX11_rooms__110 (fun H locs hP hS => ?_)
        obtain ⟨s8, es8, hf⟩ := lt_inv hf
        rw [es8] at hP
        obtain ⟨l3_9, el3_9, hf⟩ := lt_inv hf
        refine lv_iinc (v := i32 l3_9) (lv' := [(3, .int (i32 l3_9)), (5, .int (i32 l5_4)), (0, .ref (gh G + 111)), (1, .int (i32 l1)), (2, .int (i32 l2)), (4, .int (i32 l4))]) X.1 X.2.1 dX11_rooms__111 hl (k := 4) rfl (by rw [← el3_9]; exact i32_add _ _) (by decide) rfl (fun ls hl => ?_)
        exact a_X11_rooms__114 X h46 s8 H locs ls l1 l2 l3_9 l4 hP hS hf (lv_sub hl [2, 3, 4, 0, 5] rfl)
      · replace hf := ie_inv q hf
        refine lv_goto (tgt := 114) X.1 X.2.1 dX11_rooms__94 (by decide) ?_
        exact a_X11_rooms__114 X h46 σ H locs ls l1 l2 l3 l4 hP hS hf (lv_sub hl [1, 2, 3, 4, 5] rfl)
theorem al_X11_rooms__46 {p : Program} {l : Launch} {e : Env} {R : Room} {s : State} {m : MethodId} {args : Array Value} {below : List Frame} {meth : Method} {c : Code} {G : GT} {τ : Mem} {res : Int} (X : CX p R s m args meth c cX11_rooms_ 6 RX11 (some FieldType.int) 3 105 G) : ∀ n, S_X11_rooms__46 (X11_rooms__L46 n) p l e R s m args below meth c G τ res := by
  intro n
  induction n with
  | zero =>
    intro σ H locs ls l1 l2 l3 l4 hP hS hf hl
    cases hf
  | succ n ih => exact a_X11_rooms__46 X ih
set_option maxHeartbeats 4000000 in
theorem a_X11_rooms__0 {p : Program} {l : Launch} {e : Env} {R : Room} {s : State} {m : MethodId} {args : Array Value} {below : List Frame} {meth : Method} {c : Code} {G : GT} {τ : Mem} {res : Int} (X : CX p R s m args meth c cX11_rooms_ 6 RX11 (some FieldType.int) 3 105 G) : S_X11_rooms__0 (X11_rooms_) p l e R s m args below meth c G τ res := by
  intro σ H locs ls l1 l2 hP hS hf hl
  unfold X11_rooms_ at hf
  refine lv_iload_n X.1 X.2.1 dX11_rooms__0 rfl (lv_at hl 1 rfl) ?_
  obtain ⟨r1, hr1, hf⟩ := bd_inv hf
  refine k_X11_isSheet X hP hS hl.1  hr1 (tb t_1532 rfl) (by decide) (Nat.le_of_ble_eq_true rfl) dX11_rooms__1 (fun H locs hP hS => ?_)
  refine r_if_ne (tgt := 13) X dX11_rooms__4 (by decide) (fun q => ?_) (fun q => ?_)
  · replace hf := it_inv q hf
    refine lv_aload_n X.1 X.2.1 dX11_rooms__13 rfl (lv_at hl 0 rfl) ?_
    refine g_11_34 (r := 134) X hP ks_11 rfl (tb t_1121 rfl) dX11_rooms__14 ?_
    refine lv_iload_n X.1 X.2.1 dX11_rooms__17 rfl (lv_at hl 1 rfl) ?_
    obtain ⟨j2, hij2, hjj2, hlj2, hf⟩ := ag_inv hf
    refine r_iald X hP (ch_11_34 ks_11).1 (ch_11_34 ks_11).2 hij2 hjj2 dX11_rooms__18 ?_
    refine r_if_ne (tgt := 28) X dX11_rooms__19 (by decide) (fun q => ?_) (fun q => ?_)
    · replace hf := it_inv q hf
      refine lv_iload_n X.1 X.2.1 dX11_rooms__28 rfl (lv_at hl 2 rfl) ?_
      obtain ⟨r3, hr3, hf⟩ := bd_inv hf
      refine k_X11_isPart X hP hS hl.1  hr3 (tb t_1204 rfl) (by decide) (Nat.le_of_ble_eq_true rfl) dX11_rooms__29 (fun H locs hP hS => ?_)
      refine r_if_ne (tgt := 41) X dX11_rooms__32 (by decide) (fun q => ?_) (fun q => ?_)
      · replace hf := it_inv q hf
        refine r_iconst X 0 dX11_rooms__41 ?_
        refine lv_istore_n (lv' := [(3, .int (i32 0)), (0, .ref (gh G + 111)), (1, .int (i32 l1)), (2, .int (i32 l2))]) X.1 X.2.1 dX11_rooms__42 rfl hl (by decide) rfl (fun ls hl => ?_)
        refine r_iconst X 0 dX11_rooms__43 ?_
        refine lv_istore (lv' := [(4, .int (i32 0)), (3, .int (i32 0)), (0, .ref (gh G + 111)), (1, .int (i32 l1)), (2, .int (i32 l2))]) X.1 X.2.1 dX11_rooms__44 hl (by decide) rfl (fun ls hl => ?_)
        exact al_X11_rooms__46 X 5000 σ H locs ls l1 l2 0 0 hP hS hf (lv_sub hl [2, 3, 4, 1, 0] rfl)
      · replace hf := ie_inv q hf
        refine lv_aload_n X.1 X.2.1 dX11_rooms__35 rfl (lv_at hl 0 rfl) ?_
        refine r_iconst X 0 dX11_rooms__36 ?_
        obtain ⟨r4, s5, hr4, hf⟩ := bd2_inv hf
        refine k_X11_finds X hP hS hl.1  hr4 (tb t_1219 rfl) (by decide) (Nat.le_of_ble_eq_true rfl) dX11_rooms__37 (fun H locs hP hS => ?_)
        obtain ⟨rfl, rfl⟩ := so2_inv hf
        exact r_iret X hP hS dX11_rooms__40
    · replace hf := ie_inv q hf
      refine lv_aload_n X.1 X.2.1 dX11_rooms__22 rfl (lv_at hl 0 rfl) ?_
      refine r_iconst X 5 dX11_rooms__23 ?_
      obtain ⟨r6, s7, hr6, hf⟩ := bd2_inv hf
      refine k_X11_finds X hP hS hl.1  hr6 (tb t_1219 rfl) (by decide) (Nat.le_of_ble_eq_true rfl) dX11_rooms__24 (fun H locs hP hS => ?_)
      obtain ⟨rfl, rfl⟩ := so2_inv hf
      exact r_iret X hP hS dX11_rooms__27
  · replace hf := ie_inv q hf
    refine lv_aload_n X.1 X.2.1 dX11_rooms__7 rfl (lv_at hl 0 rfl) ?_
    refine r_iconst X 0 dX11_rooms__8 ?_
    obtain ⟨r8, s9, hr8, hf⟩ := bd2_inv hf
    refine k_X11_finds X hP hS hl.1  hr8 (tb t_1219 rfl) (by decide) (Nat.le_of_ble_eq_true rfl) dX11_rooms__9 (fun H locs hP hS => ?_)
    obtain ⟨rfl, rfl⟩ := so2_inv hf
    exact r_iret X hP hS dX11_rooms__12
set_option maxHeartbeats 4000000 in
theorem c_X11_rooms_ {l : Launch} {G : GT} {σ τ : Mem} {res : Int} {l1 : Int} {l2 : Int} (hf : X11_rooms_ σ l1 l2 = some (res, τ)) : CT l yX11_rooms_ cX11_rooms_ 6 (some FieldType.int) 3 105 G [.ref (gh G + 111), .int (i32 l1), .int (i32 l2)] σ τ (some (.int (i32 res))) := by
  refine CT.mk (own := RX11) (by decide) rfl (Nat.le_of_ble_eq_true rfl) ?_
  intro p e s m below meth c ls X hP hS hl
  have hl : lv_has ls 6 [(0, .ref (gh G + 111)), (1, .int (i32 l1)), (2, .int (i32 l2))] := hl
  exact a_X11_rooms__0 X σ s.heap [] ls l1 l2 hP hS hf hl
theorem k_X11_rooms_ {p : Program} {l : Launch} {e : Env} {R : Room} {s : State} {m : MethodId} {args : Array Value} {below : List Frame} {meth : Method} {c : Code} {H : Heap} {locs : List Loc} {Q : State → Prop} {cc : ByteArray} {nL : Nat} {own : String} {ret : Option FieldType} {fF fL : Nat} {G : GT} {pc idx : Nat} {ls : Array Slot} {rest : List Value} {σ τ : Mem} {res : Int} {l1 : Int} {l2 : Int} (X : CX p R s m args meth c cc nL own ret fF fL G) (hP : PW G σ H) (hS : va_S (AA G) s.heap H locs) (hls : ls.size = nL) (hf : X11_rooms_ σ l1 l2 = some (res, τ)) (h1 : Cond.methodLink own idx yX11_rooms_ ∈ TB) (hR : 3 + 1 ≤ fF ∧ 8 + (6 + 11) + 105 ≤ fL) (hW : (rest.map fun v => v.category).sum ≤ 8) (hd : decode cc pc = .ok (.invokevirtual idx, 3)) (kk : ∀ (H1 : Heap) (locs1 : List Loc), PW G τ H1 → va_S (AA G) s.heap H1 locs1 → W p l e R s m args below meth c H1 locs1 0 0 Q (F0 m (pc + 3) ls (.int (i32 res) :: rest))) : W p l e R s m args below meth c H locs 0 0 Q (F0 m pc ls (.int (i32 l2) :: .int (i32 l1) :: .ref (gh G + 111) :: rest)) := r_callV (n := 2) X hP hS hls (c_X11_rooms_ hf) h1 (tb t_1544 rfl) (tb t_1545 rfl) (tb t_87 rfl) (tb t_1546 rfl) (by decide +kernel) hR (r_recv X hP (kd_lt ks_11 (by decide)) (cE_11 ks_11) rfl) rfl rfl hW hd kk
/-! X11_rule -/
theorem dX11_rule_0 : decode cX11_rule 0 = .ok (.iload_n 1, 1) := by decide +kernel
theorem dX11_rule_1 : decode cX11_rule 1 = .ok (.ifCond .ne 17, 3) := by decide +kernel
theorem dX11_rule_4 : decode cX11_rule 4 = .ok (.iload_n 2, 1) := by decide +kernel
theorem dX11_rule_5 : decode cX11_rule 5 = .ok (.i2l, 1) := by decide +kernel
theorem dX11_rule_6 : decode cX11_rule 6 = .ok (.ldc2_w 125, 3) := by decide +kernel
theorem dX11_rule_9 : decode cX11_rule 9 = .ok (.ldc2_w 127, 3) := by decide +kernel
theorem dX11_rule_12 : decode cX11_rule 12 = .ok (.invokestatic 93, 3) := by decide +kernel
theorem dX11_rule_15 : decode cX11_rule 15 = .ok (.goto 64, 3) := by decide +kernel
theorem dX11_rule_18 : decode cX11_rule 18 = .ok (.iload_n 1, 1) := by decide +kernel
theorem dX11_rule_19 : decode cX11_rule 19 = .ok (.iconst 1, 1) := by decide +kernel
theorem dX11_rule_20 : decode cX11_rule 20 = .ok (.if_icmp .ne 15, 3) := by decide +kernel
theorem dX11_rule_23 : decode cX11_rule 23 = .ok (.iload_n 2, 1) := by decide +kernel
theorem dX11_rule_24 : decode cX11_rule 24 = .ok (.i2l, 1) := by decide +kernel
theorem dX11_rule_25 : decode cX11_rule 25 = .ok (.lconst 1, 1) := by decide +kernel
theorem dX11_rule_26 : decode cX11_rule 26 = .ok (.ldc2_w 129, 3) := by decide +kernel
theorem dX11_rule_29 : decode cX11_rule 29 = .ok (.invokestatic 93, 3) := by decide +kernel
theorem dX11_rule_32 : decode cX11_rule 32 = .ok (.goto 47, 3) := by decide +kernel
theorem dX11_rule_35 : decode cX11_rule 35 = .ok (.iload_n 1, 1) := by decide +kernel
theorem dX11_rule_36 : decode cX11_rule 36 = .ok (.iconst 2, 1) := by decide +kernel
theorem dX11_rule_37 : decode cX11_rule 37 = .ok (.if_icmp .eq 8, 3) := by decide +kernel
theorem dX11_rule_40 : decode cX11_rule 40 = .ok (.iload_n 1, 1) := by decide +kernel
theorem dX11_rule_41 : decode cX11_rule 41 = .ok (.iconst 4, 1) := by decide +kernel
theorem dX11_rule_42 : decode cX11_rule 42 = .ok (.if_icmp .ne 15, 3) := by decide +kernel
theorem dX11_rule_45 : decode cX11_rule 45 = .ok (.iload_n 2, 1) := by decide +kernel
theorem dX11_rule_46 : decode cX11_rule 46 = .ok (.i2l, 1) := by decide +kernel
theorem dX11_rule_47 : decode cX11_rule 47 = .ok (.lconst 0, 1) := by decide +kernel
theorem dX11_rule_48 : decode cX11_rule 48 = .ok (.ldc2_w 131, 3) := by decide +kernel
theorem dX11_rule_51 : decode cX11_rule 51 = .ok (.invokestatic 93, 3) := by decide +kernel
theorem dX11_rule_54 : decode cX11_rule 54 = .ok (.goto 25, 3) := by decide +kernel
theorem dX11_rule_57 : decode cX11_rule 57 = .ok (.iload_n 1, 1) := by decide +kernel
theorem dX11_rule_58 : decode cX11_rule 58 = .ok (.iconst 3, 1) := by decide +kernel
theorem dX11_rule_59 : decode cX11_rule 59 = .ok (.if_icmp .ne 19, 3) := by decide +kernel
theorem dX11_rule_62 : decode cX11_rule 62 = .ok (.iload_n 2, 1) := by decide +kernel
theorem dX11_rule_63 : decode cX11_rule 63 = .ok (.i2l, 1) := by decide +kernel
theorem dX11_rule_64 : decode cX11_rule 64 = .ok (.lconst 0, 1) := by decide +kernel
theorem dX11_rule_65 : decode cX11_rule 65 = .ok (.ldc2_w 133, 3) := by decide +kernel
theorem dX11_rule_68 : decode cX11_rule 68 = .ok (.invokestatic 93, 3) := by decide +kernel
theorem dX11_rule_71 : decode cX11_rule 71 = .ok (.ifCond .eq 7, 3) := by decide +kernel
theorem dX11_rule_74 : decode cX11_rule 74 = .ok (.iconst 1, 1) := by decide +kernel
theorem dX11_rule_75 : decode cX11_rule 75 = .ok (.goto 4, 3) := by decide +kernel
theorem dX11_rule_78 : decode cX11_rule 78 = .ok (.iconst 0, 1) := by decide +kernel
theorem dX11_rule_79 : decode cX11_rule 79 = .ok (.istore_n 3, 1) := by decide +kernel
theorem dX11_rule_80 : decode cX11_rule 80 = .ok (.iload_n 3, 1) := by decide +kernel
theorem dX11_rule_81 : decode cX11_rule 81 = .ok (.ifCond .ne 9, 3) := by decide +kernel
theorem dX11_rule_84 : decode cX11_rule 84 = .ok (.aload_n 0, 1) := by decide +kernel
theorem dX11_rule_85 : decode cX11_rule 85 = .ok (.iconst 0, 1) := by decide +kernel
theorem dX11_rule_86 : decode cX11_rule 86 = .ok (.invokevirtual 122, 3) := by decide +kernel
theorem dX11_rule_89 : decode cX11_rule 89 = .ok (.ireturn, 1) := by decide +kernel
theorem dX11_rule_90 : decode cX11_rule 90 = .ok (.aload_n 0, 1) := by decide +kernel
theorem dX11_rule_91 : decode cX11_rule 91 = .ok (.getfield 9, 3) := by decide +kernel
theorem dX11_rule_94 : decode cX11_rule 94 = .ok (.iconst 0, 1) := by decide +kernel
theorem dX11_rule_95 : decode cX11_rule 95 = .ok (.iload_n 1, 1) := by decide +kernel
theorem dX11_rule_96 : decode cX11_rule 96 = .ok (.iadd, 1) := by decide +kernel
theorem dX11_rule_97 : decode cX11_rule 97 = .ok (.iaload, 1) := by decide +kernel
theorem dX11_rule_98 : decode cX11_rule 98 = .ok (.istore 4, 2) := by decide +kernel
theorem dX11_rule_100 : decode cX11_rule 100 = .ok (.aload_n 0, 1) := by decide +kernel
theorem dX11_rule_101 : decode cX11_rule 101 = .ok (.getfield 9, 3) := by decide +kernel
theorem dX11_rule_104 : decode cX11_rule 104 = .ok (.iconst 0, 1) := by decide +kernel
theorem dX11_rule_105 : decode cX11_rule 105 = .ok (.iload_n 1, 1) := by decide +kernel
theorem dX11_rule_106 : decode cX11_rule 106 = .ok (.iadd, 1) := by decide +kernel
theorem dX11_rule_107 : decode cX11_rule 107 = .ok (.iload_n 2, 1) := by decide +kernel
theorem dX11_rule_108 : decode cX11_rule 108 = .ok (.iastore, 1) := by decide +kernel
theorem dX11_rule_109 : decode cX11_rule 109 = .ok (.iload 4, 2) := by decide +kernel
theorem dX11_rule_111 : decode cX11_rule 111 = .ok (.ireturn, 1) := by decide +kernel
def X11_rule_B79 (σ : Mem) (l1 : Int) (l2 : Int) (k0 : Int) : Option (Int × Mem) :=
  if w32 k0 ≠ 0 then
    ag 766 (0 + l1) fun j1 =>
    lt (σ 112 j1) fun l4_2 =>
    ag 766 (0 + l1) fun j3 =>
    lt (st σ 112 j3 l2) fun s4 =>
    some (l4_2, s4)
  else
  bd2 (X11_finds σ 0) fun r5 s6 =>
  some (r5, s6)
def S_X11_rule_79 (fn : Mem → Int → Int → Int → Option (Int × Mem)) (p : Program) (l : Launch) (e : Env) (R : Room) (s : State) (m : MethodId) (args : Array Value) (below : List Frame) (meth : Method) (c : Code) (G : GT) (τ : Mem) (res : Int) : Prop := ∀ (σ : Mem) (H : Heap) (locs : List Loc) (ls : Array Slot) (l1 : Int) (l2 : Int) (k0 : Int), PW G σ H → va_S (AA G) s.heap H locs → fn σ l1 l2 k0 = some (res, τ) → lv_has ls 5 [(0, .ref (gh G + 111)), (1, .int (i32 l1)), (2, .int (i32 l2))] → W p l e R s m args below meth c H locs 0 0 (MQ below (QM G (some (.int (i32 res))) τ) args s 0 0 (AA G)) (F0 m 79 ls [.int (i32 k0)])
def X11_rule_B78 (σ : Mem) (l1 : Int) (l2 : Int) : Option (Int × Mem) :=
  X11_rule_B79 σ l1 l2 0
def S_X11_rule_78 (fn : Mem → Int → Int → Option (Int × Mem)) (p : Program) (l : Launch) (e : Env) (R : Room) (s : State) (m : MethodId) (args : Array Value) (below : List Frame) (meth : Method) (c : Code) (G : GT) (τ : Mem) (res : Int) : Prop := ∀ (σ : Mem) (H : Heap) (locs : List Loc) (ls : Array Slot) (l1 : Int) (l2 : Int), PW G σ H → va_S (AA G) s.heap H locs → fn σ l1 l2 = some (res, τ) → lv_has ls 5 [(0, .ref (gh G + 111)), (1, .int (i32 l1)), (2, .int (i32 l2))] → W p l e R s m args below meth c H locs 0 0 (MQ below (QM G (some (.int (i32 res))) τ) args s 0 0 (AA G)) (F0 m 78 ls [])
def X11_rule_B45 (σ : Mem) (l1 : Int) (l2 : Int) : Option (Int × Mem) :=
  bd (X11_in σ (w32 l2) 0 999) fun r1 =>
  X11_rule_B79 σ l1 l2 r1
def S_X11_rule_45 (fn : Mem → Int → Int → Option (Int × Mem)) (p : Program) (l : Launch) (e : Env) (R : Room) (s : State) (m : MethodId) (args : Array Value) (below : List Frame) (meth : Method) (c : Code) (G : GT) (τ : Mem) (res : Int) : Prop := ∀ (σ : Mem) (H : Heap) (locs : List Loc) (ls : Array Slot) (l1 : Int) (l2 : Int), PW G σ H → va_S (AA G) s.heap H locs → fn σ l1 l2 = some (res, τ) → lv_has ls 5 [(0, .ref (gh G + 111)), (1, .int (i32 l1)), (2, .int (i32 l2))] → W p l e R s m args below meth c H locs 0 0 (MQ below (QM G (some (.int (i32 res))) τ) args s 0 0 (AA G)) (F0 m 45 ls [])
def X11_rule (σ : Mem) (l1 : Int) (l2 : Int) : Option (Int × Mem) :=
  if w32 l1 ≠ 0 then
    if w32 l1 ≠ w32 1 then
      if w32 l1 = w32 2 then
        X11_rule_B45 σ l1 l2
      else
      if w32 l1 ≠ w32 4 then
        if w32 l1 ≠ w32 3 then
          X11_rule_B78 σ l1 l2
        else
        bd (X11_in σ (w32 l2) 0 99) fun r1 =>
        if w32 r1 = 0 then
          X11_rule_B78 σ l1 l2
        else
        X11_rule_B79 σ l1 l2 1
      else
      X11_rule_B45 σ l1 l2
    else
    bd (X11_in σ (w32 l2) 1 6) fun r2 =>
    X11_rule_B79 σ l1 l2 r2
  else
  bd (X11_in σ (w32 l2) 20 200) fun r3 =>
  X11_rule_B79 σ l1 l2 r3
def S_X11_rule_0 (fn : Mem → Int → Int → Option (Int × Mem)) (p : Program) (l : Launch) (e : Env) (R : Room) (s : State) (m : MethodId) (args : Array Value) (below : List Frame) (meth : Method) (c : Code) (G : GT) (τ : Mem) (res : Int) : Prop := ∀ (σ : Mem) (H : Heap) (locs : List Loc) (ls : Array Slot) (l1 : Int) (l2 : Int), PW G σ H → va_S (AA G) s.heap H locs → fn σ l1 l2 = some (res, τ) → lv_has ls 5 [(0, .ref (gh G + 111)), (1, .int (i32 l1)), (2, .int (i32 l2))] → W p l e R s m args below meth c H locs 0 0 (MQ below (QM G (some (.int (i32 res))) τ) args s 0 0 (AA G)) (F0 m 0 ls [])
set_option maxHeartbeats 4000000 in
theorem a_X11_rule_79 {p : Program} {l : Launch} {e : Env} {R : Room} {s : State} {m : MethodId} {args : Array Value} {below : List Frame} {meth : Method} {c : Code} {G : GT} {τ : Mem} {res : Int} (X : CX p R s m args meth c cX11_rule 5 RX11 (some FieldType.int) 2 85 G) : S_X11_rule_79 (X11_rule_B79) p l e R s m args below meth c G τ res := by
  intro σ H locs ls l1 l2 k0 hP hS hf hl
  unfold X11_rule_B79 at hf
  refine lv_istore_n (lv' := [(3, .int (i32 k0)), (0, .ref (gh G + 111)), (1, .int (i32 l1)), (2, .int (i32 l2))]) X.1 X.2.1 dX11_rule_79 rfl hl (by decide) rfl (fun ls hl => ?_)
  refine lv_iload_n X.1 X.2.1 dX11_rule_80 rfl (lv_at hl 0 rfl) ?_
  refine r_if_ne (tgt := 90) X dX11_rule_81 (by decide) (fun q => ?_) (fun q => ?_)
  · replace hf := it_inv q hf
    refine lv_aload_n X.1 X.2.1 dX11_rule_90 rfl (lv_at hl 1 rfl) ?_
    refine g_11_0 (r := 112) X hP ks_11 rfl (tb t_1087 rfl) dX11_rule_91 ?_
    refine r_iconst X 0 dX11_rule_94 ?_
    refine lv_iload_n X.1 X.2.1 dX11_rule_95 rfl (lv_at hl 2 rfl) ?_
    refine r_iadd X dX11_rule_96 ?_
    obtain ⟨j1, hij1, hjj1, hlj1, hf⟩ := ag_inv hf
    refine r_iald X hP (ch_11_0 ks_11).1 (ch_11_0 ks_11).2 hij1 hjj1 dX11_rule_97 ?_
    obtain ⟨l4_2, el4_2, hf⟩ := lt_inv hf
    refine r_eqi el4_2 ?_
    refine lv_istore (lv' := [(4, .int (i32 l4_2)), (3, .int (i32 k0)), (0, .ref (gh G + 111)), (1, .int (i32 l1)), (2, .int (i32 l2))]) X.1 X.2.1 dX11_rule_98 hl (by decide) rfl (fun ls hl => ?_)
    refine lv_aload_n X.1 X.2.1 dX11_rule_100 rfl (lv_at hl 2 rfl) ?_
    refine g_11_0 (r := 112) X hP ks_11 rfl (tb t_1087 rfl) dX11_rule_101 ?_
    refine r_iconst X 0 dX11_rule_104 ?_
    refine lv_iload_n X.1 X.2.1 dX11_rule_105 rfl (lv_at hl 3 rfl) ?_
    refine r_iadd X dX11_rule_106 ?_
    refine lv_iload_n X.1 X.2.1 dX11_rule_107 rfl (lv_at hl 4 rfl) ?_
    obtain ⟨j3, hij3, hjj3, hlj3, hf⟩ := ag_inv hf
    refine r_iast X hP hS (ch_11_0 ks_11).1 (ch_11_0 ks_11).2 hij3 hjj3 dX11_rule_108 (fun H locs hP hS => ?_)
    obtain ⟨s4, es4, hf⟩ := lt_inv hf
    rw [es4] at hP
    refine lv_iload X.1 X.2.1 dX11_rule_109 (lv_at hl 0 rfl) ?_
    obtain ⟨rfl, rfl⟩ := so2_inv hf
    exact r_iret X hP hS dX11_rule_111
  · replace hf := ie_inv q hf
    refine lv_aload_n X.1 X.2.1 dX11_rule_84 rfl (lv_at hl 1 rfl) ?_
    refine r_iconst X 0 dX11_rule_85 ?_
    obtain ⟨r5, s6, hr5, hf⟩ := bd2_inv hf
    refine k_X11_finds X hP hS hl.1  hr5 (tb t_1219 rfl) (by decide) (Nat.le_of_ble_eq_true rfl) dX11_rule_86 (fun H locs hP hS => ?_)
    obtain ⟨rfl, rfl⟩ := so2_inv hf
    exact r_iret X hP hS dX11_rule_89
set_option maxHeartbeats 4000000 in
theorem a_X11_rule_78 {p : Program} {l : Launch} {e : Env} {R : Room} {s : State} {m : MethodId} {args : Array Value} {below : List Frame} {meth : Method} {c : Code} {G : GT} {τ : Mem} {res : Int} (X : CX p R s m args meth c cX11_rule 5 RX11 (some FieldType.int) 2 85 G) : S_X11_rule_78 (X11_rule_B78) p l e R s m args below meth c G τ res := by
  intro σ H locs ls l1 l2 hP hS hf hl
  unfold X11_rule_B78 at hf
  refine r_iconst X 0 dX11_rule_78 ?_
  exact a_X11_rule_79 X σ H locs ls l1 l2 0 hP hS hf hl
set_option maxHeartbeats 4000000 in
theorem a_X11_rule_45 {p : Program} {l : Launch} {e : Env} {R : Room} {s : State} {m : MethodId} {args : Array Value} {below : List Frame} {meth : Method} {c : Code} {G : GT} {τ : Mem} {res : Int} (X : CX p R s m args meth c cX11_rule 5 RX11 (some FieldType.int) 2 85 G) : S_X11_rule_45 (X11_rule_B45) p l e R s m args below meth c G τ res := by
  intro σ H locs ls l1 l2 hP hS hf hl
  unfold X11_rule_B45 at hf
  refine lv_iload_n X.1 X.2.1 dX11_rule_45 rfl (lv_at hl 2 rfl) ?_
  refine r_i2l X dX11_rule_46 ?_
  refine r_lconst X 0 0 (by decide) dX11_rule_47 ?_
  refine r_ldc2 X 999 (tb t_1231 rfl) (by decide) dX11_rule_48 ?_
  obtain ⟨r1, hr1, hf⟩ := bd_inv hf
  refine k_X11_in X hP hS hl.1  hr1 (tb t_1208 rfl) (by decide) (Nat.le_of_ble_eq_true rfl) dX11_rule_51 (fun H locs hP hS => ?_)
  refine lv_goto (tgt := 79) X.1 X.2.1 dX11_rule_54 (by decide) ?_
  exact a_X11_rule_79 X σ H locs ls l1 l2 r1 hP hS hf hl
set_option maxHeartbeats 4000000 in
theorem a_X11_rule_0 {p : Program} {l : Launch} {e : Env} {R : Room} {s : State} {m : MethodId} {args : Array Value} {below : List Frame} {meth : Method} {c : Code} {G : GT} {τ : Mem} {res : Int} (X : CX p R s m args meth c cX11_rule 5 RX11 (some FieldType.int) 2 85 G) : S_X11_rule_0 (X11_rule) p l e R s m args below meth c G τ res := by
  intro σ H locs ls l1 l2 hP hS hf hl
  unfold X11_rule at hf
  refine lv_iload_n X.1 X.2.1 dX11_rule_0 rfl (lv_at hl 1 rfl) ?_
  refine r_if_ne (tgt := 18) X dX11_rule_1 (by decide) (fun q => ?_) (fun q => ?_)
  · replace hf := it_inv q hf
    refine lv_iload_n X.1 X.2.1 dX11_rule_18 rfl (lv_at hl 1 rfl) ?_
    refine r_iconst X 1 dX11_rule_19 ?_
    refine r_icmp_ne (tgt := 35) X dX11_rule_20 (by decide) (fun q => ?_) (fun q => ?_)
    · replace hf := it_inv q hf
      refine lv_iload_n X.1 X.2.1 dX11_rule_35 rfl (lv_at hl 1 rfl) ?_
      refine r_iconst X 2 dX11_rule_36 ?_
      refine r_icmp_eq (tgt := 45) X dX11_rule_37 (by decide) (fun q => ?_) (fun q => ?_)
      · replace hf := it_inv q hf
        exact a_X11_rule_45 X σ H locs ls l1 l2 hP hS hf hl
      · replace hf := ie_inv q hf
        refine lv_iload_n X.1 X.2.1 dX11_rule_40 rfl (lv_at hl 1 rfl) ?_
        refine r_iconst X 4 dX11_rule_41 ?_
        refine r_icmp_ne (tgt := 57) X dX11_rule_42 (by decide) (fun q => ?_) (fun q => ?_)
        · replace hf := it_inv q hf
          refine lv_iload_n X.1 X.2.1 dX11_rule_57 rfl (lv_at hl 1 rfl) ?_
          refine r_iconst X 3 dX11_rule_58 ?_
          refine r_icmp_ne (tgt := 78) X dX11_rule_59 (by decide) (fun q => ?_) (fun q => ?_)
          · replace hf := it_inv q hf
            exact a_X11_rule_78 X σ H locs ls l1 l2 hP hS hf hl
          · replace hf := ie_inv q hf
            refine lv_iload_n X.1 X.2.1 dX11_rule_62 rfl (lv_at hl 2 rfl) ?_
            refine r_i2l X dX11_rule_63 ?_
            refine r_lconst X 0 0 (by decide) dX11_rule_64 ?_
            refine r_ldc2 X 99 (tb t_1232 rfl) (by decide) dX11_rule_65 ?_
            obtain ⟨r1, hr1, hf⟩ := bd_inv hf
            refine k_X11_in X hP hS hl.1  hr1 (tb t_1208 rfl) (by decide) (Nat.le_of_ble_eq_true rfl) dX11_rule_68 (fun H locs hP hS => ?_)
            refine r_if_eq (tgt := 78) X dX11_rule_71 (by decide) (fun q => ?_) (fun q => ?_)
            · replace hf := it_inv q hf
              exact a_X11_rule_78 X σ H locs ls l1 l2 hP hS hf hl
            · replace hf := ie_inv q hf
              refine r_iconst X 1 dX11_rule_74 ?_
              refine lv_goto (tgt := 79) X.1 X.2.1 dX11_rule_75 (by decide) ?_
              exact a_X11_rule_79 X σ H locs ls l1 l2 1 hP hS hf hl
        · replace hf := ie_inv q hf
          exact a_X11_rule_45 X σ H locs ls l1 l2 hP hS hf hl
    · replace hf := ie_inv q hf
      refine lv_iload_n X.1 X.2.1 dX11_rule_23 rfl (lv_at hl 2 rfl) ?_
      refine r_i2l X dX11_rule_24 ?_
      refine r_lconst X 1 1 (by decide) dX11_rule_25 ?_
      refine r_ldc2 X 6 (tb t_1230 rfl) (by decide) dX11_rule_26 ?_
      obtain ⟨r2, hr2, hf⟩ := bd_inv hf
      refine k_X11_in X hP hS hl.1  hr2 (tb t_1208 rfl) (by decide) (Nat.le_of_ble_eq_true rfl) dX11_rule_29 (fun H locs hP hS => ?_)
      refine lv_goto (tgt := 79) X.1 X.2.1 dX11_rule_32 (by decide) ?_
      exact a_X11_rule_79 X σ H locs ls l1 l2 r2 hP hS hf hl
  · replace hf := ie_inv q hf
    refine lv_iload_n X.1 X.2.1 dX11_rule_4 rfl (lv_at hl 2 rfl) ?_
    refine r_i2l X dX11_rule_5 ?_
    refine r_ldc2 X 20 (tb t_1228 rfl) (by decide) dX11_rule_6 ?_
    refine r_ldc2 X 200 (tb t_1229 rfl) (by decide) dX11_rule_9 ?_
    obtain ⟨r3, hr3, hf⟩ := bd_inv hf
    refine k_X11_in X hP hS hl.1  hr3 (tb t_1208 rfl) (by decide) (Nat.le_of_ble_eq_true rfl) dX11_rule_12 (fun H locs hP hS => ?_)
    refine lv_goto (tgt := 79) X.1 X.2.1 dX11_rule_15 (by decide) ?_
    exact a_X11_rule_79 X σ H locs ls l1 l2 r3 hP hS hf hl
set_option maxHeartbeats 4000000 in
theorem c_X11_rule {l : Launch} {G : GT} {σ τ : Mem} {res : Int} {l1 : Int} {l2 : Int} (hf : X11_rule σ l1 l2 = some (res, τ)) : CT l yX11_rule cX11_rule 5 (some FieldType.int) 2 85 G [.ref (gh G + 111), .int (i32 l1), .int (i32 l2)] σ τ (some (.int (i32 res))) := by
  refine CT.mk (own := RX11) (by decide) rfl (Nat.le_of_ble_eq_true rfl) ?_
  intro p e s m below meth c ls X hP hS hl
  have hl : lv_has ls 5 [(0, .ref (gh G + 111)), (1, .int (i32 l1)), (2, .int (i32 l2))] := hl
  exact a_X11_rule_0 X σ s.heap [] ls l1 l2 hP hS hf hl
theorem k_X11_rule {p : Program} {l : Launch} {e : Env} {R : Room} {s : State} {m : MethodId} {args : Array Value} {below : List Frame} {meth : Method} {c : Code} {H : Heap} {locs : List Loc} {Q : State → Prop} {cc : ByteArray} {nL : Nat} {own : String} {ret : Option FieldType} {fF fL : Nat} {G : GT} {pc idx : Nat} {ls : Array Slot} {rest : List Value} {σ τ : Mem} {res : Int} {l1 : Int} {l2 : Int} (X : CX p R s m args meth c cc nL own ret fF fL G) (hP : PW G σ H) (hS : va_S (AA G) s.heap H locs) (hls : ls.size = nL) (hf : X11_rule σ l1 l2 = some (res, τ)) (h1 : Cond.methodLink own idx yX11_rule ∈ TB) (hR : 2 + 1 ≤ fF ∧ 8 + (5 + 11) + 85 ≤ fL) (hW : (rest.map fun v => v.category).sum ≤ 8) (hd : decode cc pc = .ok (.invokevirtual idx, 3)) (kk : ∀ (H1 : Heap) (locs1 : List Loc), PW G τ H1 → va_S (AA G) s.heap H1 locs1 → W p l e R s m args below meth c H1 locs1 0 0 Q (F0 m (pc + 3) ls (.int (i32 res) :: rest))) : W p l e R s m args below meth c H locs 0 0 Q (F0 m pc ls (.int (i32 l2) :: .int (i32 l1) :: .ref (gh G + 111) :: rest)) := r_callV (n := 2) X hP hS hls (c_X11_rule hf) h1 (tb t_1225 rfl) (tb t_1226 rfl) (tb t_87 rfl) (tb t_1227 rfl) (by decide +kernel) hR (r_recv X hP (kd_lt ks_11 (by decide)) (cE_11 ks_11) rfl) rfl rfl hW hd kk
/-! X11_set -/
theorem dX11_set_0 : decode cX11_set 0 = .ok (.iload_n 1, 1) := by decide +kernel
theorem dX11_set_1 : decode cX11_set 1 = .ok (.invokestatic 97, 3) := by decide +kernel
theorem dX11_set_4 : decode cX11_set 4 = .ok (.ifCond .eq 24, 3) := by decide +kernel
theorem dX11_set_7 : decode cX11_set 7 = .ok (.iload_n 2, 1) := by decide +kernel
theorem dX11_set_8 : decode cX11_set 8 = .ok (.i2l, 1) := by decide +kernel
theorem dX11_set_9 : decode cX11_set 9 = .ok (.lconst 0, 1) := by decide +kernel
theorem dX11_set_10 : decode cX11_set 10 = .ok (.ldc2_w 91, 3) := by decide +kernel
theorem dX11_set_13 : decode cX11_set 13 = .ok (.invokestatic 93, 3) := by decide +kernel
theorem dX11_set_16 : decode cX11_set 16 = .ok (.ifCond .eq 12, 3) := by decide +kernel
theorem dX11_set_19 : decode cX11_set 19 = .ok (.iload_n 1, 1) := by decide +kernel
theorem dX11_set_20 : decode cX11_set 20 = .ok (.iload_n 2, 1) := by decide +kernel
theorem dX11_set_21 : decode cX11_set 21 = .ok (.iload_n 3, 1) := by decide +kernel
theorem dX11_set_22 : decode cX11_set 22 = .ok (.invokestatic 118, 3) := by decide +kernel
theorem dX11_set_25 : decode cX11_set 25 = .ok (.ifCond .ne 9, 3) := by decide +kernel
theorem dX11_set_28 : decode cX11_set 28 = .ok (.aload_n 0, 1) := by decide +kernel
theorem dX11_set_29 : decode cX11_set 29 = .ok (.iconst 0, 1) := by decide +kernel
theorem dX11_set_30 : decode cX11_set 30 = .ok (.invokevirtual 122, 3) := by decide +kernel
theorem dX11_set_33 : decode cX11_set 33 = .ok (.ireturn, 1) := by decide +kernel
theorem dX11_set_34 : decode cX11_set 34 = .ok (.aload_n 0, 1) := by decide +kernel
theorem dX11_set_35 : decode cX11_set 35 = .ok (.getfield 9, 3) := by decide +kernel
theorem dX11_set_38 : decode cX11_set 38 = .ok (.iload_n 1, 1) := by decide +kernel
theorem dX11_set_39 : decode cX11_set 39 = .ok (.invokestatic 86, 3) := by decide +kernel
theorem dX11_set_42 : decode cX11_set 42 = .ok (.iload_n 2, 1) := by decide +kernel
theorem dX11_set_43 : decode cX11_set 43 = .ok (.iadd, 1) := by decide +kernel
theorem dX11_set_44 : decode cX11_set 44 = .ok (.iaload, 1) := by decide +kernel
theorem dX11_set_45 : decode cX11_set 45 = .ok (.istore 4, 2) := by decide +kernel
theorem dX11_set_47 : decode cX11_set 47 = .ok (.aload_n 0, 1) := by decide +kernel
theorem dX11_set_48 : decode cX11_set 48 = .ok (.getfield 9, 3) := by decide +kernel
theorem dX11_set_51 : decode cX11_set 51 = .ok (.iload_n 1, 1) := by decide +kernel
theorem dX11_set_52 : decode cX11_set 52 = .ok (.invokestatic 86, 3) := by decide +kernel
theorem dX11_set_55 : decode cX11_set 55 = .ok (.iload_n 2, 1) := by decide +kernel
theorem dX11_set_56 : decode cX11_set 56 = .ok (.iadd, 1) := by decide +kernel
theorem dX11_set_57 : decode cX11_set 57 = .ok (.iload_n 3, 1) := by decide +kernel
theorem dX11_set_58 : decode cX11_set 58 = .ok (.iastore, 1) := by decide +kernel
theorem dX11_set_59 : decode cX11_set 59 = .ok (.iload 4, 2) := by decide +kernel
theorem dX11_set_61 : decode cX11_set 61 = .ok (.ireturn, 1) := by decide +kernel
def X11_set_B28 (σ : Mem) : Option (Int × Mem) :=
  bd2 (X11_finds σ 0) fun r1 s2 =>
  some (r1, s2)
def S_X11_set_28 (fn : Mem → Option (Int × Mem)) (p : Program) (l : Launch) (e : Env) (R : Room) (s : State) (m : MethodId) (args : Array Value) (below : List Frame) (meth : Method) (c : Code) (G : GT) (τ : Mem) (res : Int) : Prop := ∀ (σ : Mem) (H : Heap) (locs : List Loc) (ls : Array Slot), PW G σ H → va_S (AA G) s.heap H locs → fn σ = some (res, τ) → lv_has ls 5 [(0, .ref (gh G + 111))] → W p l e R s m args below meth c H locs 0 0 (MQ below (QM G (some (.int (i32 res))) τ) args s 0 0 (AA G)) (F0 m 28 ls [])
def X11_set (σ : Mem) (l1 : Int) (l2 : Int) (l3 : Int) : Option (Int × Mem) :=
  bd (X11_isPart σ l1) fun r1 =>
  if w32 r1 = 0 then
    X11_set_B28 σ
  else
  bd (X11_in σ (w32 l2) 0 3) fun r2 =>
  if w32 r2 = 0 then
    X11_set_B28 σ
  else
  bd (X11_maySet σ l1 l2 l3) fun r3 =>
  if w32 r3 ≠ 0 then
    bd (X11_part σ l1) fun r4 =>
    ag 766 (r4 + l2) fun j5 =>
    lt (σ 112 j5) fun l4_6 =>
    bd (X11_part σ l1) fun r7 =>
    ag 766 (r7 + l2) fun j8 =>
    lt (st σ 112 j8 l3) fun s9 =>
    some (l4_6, s9)
  else
  X11_set_B28 σ
def S_X11_set_0 (fn : Mem → Int → Int → Int → Option (Int × Mem)) (p : Program) (l : Launch) (e : Env) (R : Room) (s : State) (m : MethodId) (args : Array Value) (below : List Frame) (meth : Method) (c : Code) (G : GT) (τ : Mem) (res : Int) : Prop := ∀ (σ : Mem) (H : Heap) (locs : List Loc) (ls : Array Slot) (l1 : Int) (l2 : Int) (l3 : Int), PW G σ H → va_S (AA G) s.heap H locs → fn σ l1 l2 l3 = some (res, τ) → lv_has ls 5 [(0, .ref (gh G + 111)), (1, .int (i32 l1)), (2, .int (i32 l2)), (3, .int (i32 l3))] → W p l e R s m args below meth c H locs 0 0 (MQ below (QM G (some (.int (i32 res))) τ) args s 0 0 (AA G)) (F0 m 0 ls [])
set_option maxHeartbeats 4000000 in
theorem a_X11_set_28 {p : Program} {l : Launch} {e : Env} {R : Room} {s : State} {m : MethodId} {args : Array Value} {below : List Frame} {meth : Method} {c : Code} {G : GT} {τ : Mem} {res : Int} (X : CX p R s m args meth c cX11_set 5 RX11 (some FieldType.int) 3 107 G) : S_X11_set_28 (X11_set_B28) p l e R s m args below meth c G τ res := by
  intro σ H locs ls hP hS hf hl
  unfold X11_set_B28 at hf
  refine lv_aload_n X.1 X.2.1 dX11_set_28 rfl (lv_at hl 0 rfl) ?_
  refine r_iconst X 0 dX11_set_29 ?_
  obtain ⟨r1, s2, hr1, hf⟩ := bd2_inv hf
  refine k_X11_finds X hP hS hl.1  hr1 (tb t_1219 rfl) (by decide) (Nat.le_of_ble_eq_true rfl) dX11_set_30 (fun H locs hP hS => ?_)
  obtain ⟨rfl, rfl⟩ := so2_inv hf
  exact r_iret X hP hS dX11_set_33
set_option maxHeartbeats 4000000 in
theorem a_X11_set_0 {p : Program} {l : Launch} {e : Env} {R : Room} {s : State} {m : MethodId} {args : Array Value} {below : List Frame} {meth : Method} {c : Code} {G : GT} {τ : Mem} {res : Int} (X : CX p R s m args meth c cX11_set 5 RX11 (some FieldType.int) 3 107 G) : S_X11_set_0 (X11_set) p l e R s m args below meth c G τ res := by
  intro σ H locs ls l1 l2 l3 hP hS hf hl
  unfold X11_set at hf
  refine lv_iload_n X.1 X.2.1 dX11_set_0 rfl (lv_at hl 1 rfl) ?_
  obtain ⟨r1, hr1, hf⟩ := bd_inv hf
  refine k_X11_isPart X hP hS hl.1  hr1 (tb t_1204 rfl) (by decide) (Nat.le_of_ble_eq_true rfl) dX11_set_1 (fun H locs hP hS => ?_)
  refine r_if_eq (tgt := 28) X dX11_set_4 (by decide) (fun q => ?_) (fun q => ?_)
  · replace hf := it_inv q hf
    exact a_X11_set_28 X σ H locs ls  hP hS hf (lv_sub hl [0] rfl)
  · replace hf := ie_inv q hf
    refine lv_iload_n X.1 X.2.1 dX11_set_7 rfl (lv_at hl 2 rfl) ?_
    refine r_i2l X dX11_set_8 ?_
    refine r_lconst X 0 0 (by decide) dX11_set_9 ?_
    refine r_ldc2 X 3 (tb t_1207 rfl) (by decide) dX11_set_10 ?_
    obtain ⟨r2, hr2, hf⟩ := bd_inv hf
    refine k_X11_in X hP hS hl.1  hr2 (tb t_1208 rfl) (by decide) (Nat.le_of_ble_eq_true rfl) dX11_set_13 (fun H locs hP hS => ?_)
    refine r_if_eq (tgt := 28) X dX11_set_16 (by decide) (fun q => ?_) (fun q => ?_)
    · replace hf := it_inv q hf
      exact a_X11_set_28 X σ H locs ls  hP hS hf (lv_sub hl [0] rfl)
    · replace hf := ie_inv q hf
      refine lv_iload_n X.1 X.2.1 dX11_set_19 rfl (lv_at hl 1 rfl) ?_
      refine lv_iload_n X.1 X.2.1 dX11_set_20 rfl (lv_at hl 2 rfl) ?_
      refine lv_iload_n X.1 X.2.1 dX11_set_21 rfl (lv_at hl 3 rfl) ?_
      obtain ⟨r3, hr3, hf⟩ := bd_inv hf
      refine k_X11_maySet X hP hS hl.1  hr3 (tb t_1211 rfl) (by decide) (Nat.le_of_ble_eq_true rfl) dX11_set_22 (fun H locs hP hS => ?_)
      refine r_if_ne (tgt := 34) X dX11_set_25 (by decide) (fun q => ?_) (fun q => ?_)
      · replace hf := it_inv q hf
        refine lv_aload_n X.1 X.2.1 dX11_set_34 rfl (lv_at hl 0 rfl) ?_
        refine g_11_0 (r := 112) X hP ks_11 rfl (tb t_1087 rfl) dX11_set_35 ?_
        refine lv_iload_n X.1 X.2.1 dX11_set_38 rfl (lv_at hl 1 rfl) ?_
        obtain ⟨r4, hr4, hf⟩ := bd_inv hf
        refine k_X11_part X hP hS hl.1  hr4 (tb t_1084 rfl) (by decide) (Nat.le_of_ble_eq_true rfl) dX11_set_39 (fun H locs hP hS => ?_)
        refine lv_iload_n X.1 X.2.1 dX11_set_42 rfl (lv_at hl 2 rfl) ?_
        refine r_iadd X dX11_set_43 ?_
        obtain ⟨j5, hij5, hjj5, hlj5, hf⟩ := ag_inv hf
        refine r_iald X hP (ch_11_0 ks_11).1 (ch_11_0 ks_11).2 hij5 hjj5 dX11_set_44 ?_
        obtain ⟨l4_6, el4_6, hf⟩ := lt_inv hf
        refine r_eqi el4_6 ?_
        refine lv_istore (lv' := [(4, .int (i32 l4_6)), (0, .ref (gh G + 111)), (1, .int (i32 l1)), (2, .int (i32 l2)), (3, .int (i32 l3))]) X.1 X.2.1 dX11_set_45 hl (by decide) rfl (fun ls hl => ?_)
        refine lv_aload_n X.1 X.2.1 dX11_set_47 rfl (lv_at hl 1 rfl) ?_
        refine g_11_0 (r := 112) X hP ks_11 rfl (tb t_1087 rfl) dX11_set_48 ?_
        refine lv_iload_n X.1 X.2.1 dX11_set_51 rfl (lv_at hl 2 rfl) ?_
        obtain ⟨r7, hr7, hf⟩ := bd_inv hf
        refine k_X11_part X hP hS hl.1  hr7 (tb t_1084 rfl) (by decide) (Nat.le_of_ble_eq_true rfl) dX11_set_52 (fun H locs hP hS => ?_)
        refine lv_iload_n X.1 X.2.1 dX11_set_55 rfl (lv_at hl 3 rfl) ?_
        refine r_iadd X dX11_set_56 ?_
        refine lv_iload_n X.1 X.2.1 dX11_set_57 rfl (lv_at hl 4 rfl) ?_
        obtain ⟨j8, hij8, hjj8, hlj8, hf⟩ := ag_inv hf
        refine r_iast X hP hS (ch_11_0 ks_11).1 (ch_11_0 ks_11).2 hij8 hjj8 dX11_set_58 (fun H locs hP hS => ?_)
        obtain ⟨s9, es9, hf⟩ := lt_inv hf
        rw [es9] at hP
        refine lv_iload X.1 X.2.1 dX11_set_59 (lv_at hl 0 rfl) ?_
        obtain ⟨rfl, rfl⟩ := so2_inv hf
        exact r_iret X hP hS dX11_set_61
      · replace hf := ie_inv q hf
        exact a_X11_set_28 X σ H locs ls  hP hS hf (lv_sub hl [0] rfl)
set_option maxHeartbeats 4000000 in
theorem c_X11_set {l : Launch} {G : GT} {σ τ : Mem} {res : Int} {l1 : Int} {l2 : Int} {l3 : Int} (hf : X11_set σ l1 l2 l3 = some (res, τ)) : CT l yX11_set cX11_set 5 (some FieldType.int) 3 107 G [.ref (gh G + 111), .int (i32 l1), .int (i32 l2), .int (i32 l3)] σ τ (some (.int (i32 res))) := by
  refine CT.mk (own := RX11) (by decide) rfl (Nat.le_of_ble_eq_true rfl) ?_
  intro p e s m below meth c ls X hP hS hl
  have hl : lv_has ls 5 [(0, .ref (gh G + 111)), (1, .int (i32 l1)), (2, .int (i32 l2)), (3, .int (i32 l3))] := hl
  exact a_X11_set_0 X σ s.heap [] ls l1 l2 l3 hP hS hf hl
theorem k_X11_set {p : Program} {l : Launch} {e : Env} {R : Room} {s : State} {m : MethodId} {args : Array Value} {below : List Frame} {meth : Method} {c : Code} {H : Heap} {locs : List Loc} {Q : State → Prop} {cc : ByteArray} {nL : Nat} {own : String} {ret : Option FieldType} {fF fL : Nat} {G : GT} {pc idx : Nat} {ls : Array Slot} {rest : List Value} {σ τ : Mem} {res : Int} {l1 : Int} {l2 : Int} {l3 : Int} (X : CX p R s m args meth c cc nL own ret fF fL G) (hP : PW G σ H) (hS : va_S (AA G) s.heap H locs) (hls : ls.size = nL) (hf : X11_set σ l1 l2 l3 = some (res, τ)) (h1 : Cond.methodLink own idx yX11_set ∈ TB) (hR : 3 + 1 ≤ fF ∧ 8 + (5 + 11) + 107 ≤ fL) (hW : (rest.map fun v => v.category).sum ≤ 8) (hd : decode cc pc = .ok (.invokevirtual idx, 3)) (kk : ∀ (H1 : Heap) (locs1 : List Loc), PW G τ H1 → va_S (AA G) s.heap H1 locs1 → W p l e R s m args below meth c H1 locs1 0 0 Q (F0 m (pc + 3) ls (.int (i32 res) :: rest))) : W p l e R s m args below meth c H locs 0 0 Q (F0 m pc ls (.int (i32 l3) :: .int (i32 l2) :: .int (i32 l1) :: .ref (gh G + 111) :: rest)) := r_callV (n := 3) X hP hS hls (c_X11_set hf) h1 (tb t_1201 rfl) (tb t_1202 rfl) (tb t_87 rfl) (tb t_1203 rfl) (by decide +kernel) hR (r_recv X hP (kd_lt ks_11 (by decide)) (cE_11 ks_11) rfl) rfl rfl hW hd kk
/-! X11_sheet -/
theorem dX11_sheet_0 : decode cX11_sheet 0 = .ok (.iload_n 1, 1) := by decide +kernel
theorem dX11_sheet_1 : decode cX11_sheet 1 = .ok (.invokestatic 338, 3) := by decide +kernel
theorem dX11_sheet_4 : decode cX11_sheet 4 = .ok (.ifCond .eq 25, 3) := by decide +kernel
theorem dX11_sheet_7 : decode cX11_sheet 7 = .ok (.iload_n 2, 1) := by decide +kernel
theorem dX11_sheet_8 : decode cX11_sheet 8 = .ok (.ifCond .eq 27, 3) := by decide +kernel
theorem dX11_sheet_11 : decode cX11_sheet 11 = .ok (.iload_n 2, 1) := by decide +kernel
theorem dX11_sheet_12 : decode cX11_sheet 12 = .ok (.bipush 8, 2) := by decide +kernel
theorem dX11_sheet_14 : decode cX11_sheet 14 = .ok (.if_icmp .eq 21, 3) := by decide +kernel
theorem dX11_sheet_17 : decode cX11_sheet 17 = .ok (.iload_n 2, 1) := by decide +kernel
theorem dX11_sheet_18 : decode cX11_sheet 18 = .ok (.bipush 16, 2) := by decide +kernel
theorem dX11_sheet_20 : decode cX11_sheet 20 = .ok (.if_icmp .eq 15, 3) := by decide +kernel
theorem dX11_sheet_23 : decode cX11_sheet 23 = .ok (.iload_n 2, 1) := by decide +kernel
theorem dX11_sheet_24 : decode cX11_sheet 24 = .ok (.bipush 32, 2) := by decide +kernel
theorem dX11_sheet_26 : decode cX11_sheet 26 = .ok (.if_icmp .eq 9, 3) := by decide +kernel
theorem dX11_sheet_29 : decode cX11_sheet 29 = .ok (.aload_n 0, 1) := by decide +kernel
theorem dX11_sheet_30 : decode cX11_sheet 30 = .ok (.iconst 0, 1) := by decide +kernel
theorem dX11_sheet_31 : decode cX11_sheet 31 = .ok (.invokevirtual 122, 3) := by decide +kernel
theorem dX11_sheet_34 : decode cX11_sheet 34 = .ok (.ireturn, 1) := by decide +kernel
theorem dX11_sheet_35 : decode cX11_sheet 35 = .ok (.iload_n 3, 1) := by decide +kernel
theorem dX11_sheet_36 : decode cX11_sheet 36 = .ok (.ifCond .ge 10, 3) := by decide +kernel
theorem dX11_sheet_39 : decode cX11_sheet 39 = .ok (.aload_n 0, 1) := by decide +kernel
theorem dX11_sheet_40 : decode cX11_sheet 40 = .ok (.bipush 6, 2) := by decide +kernel
theorem dX11_sheet_42 : decode cX11_sheet 42 = .ok (.invokevirtual 122, 3) := by decide +kernel
theorem dX11_sheet_45 : decode cX11_sheet 45 = .ok (.ireturn, 1) := by decide +kernel
theorem dX11_sheet_46 : decode cX11_sheet 46 = .ok (.iload_n 3, 1) := by decide +kernel
theorem dX11_sheet_47 : decode cX11_sheet 47 = .ok (.bipush 40, 2) := by decide +kernel
theorem dX11_sheet_49 : decode cX11_sheet 49 = .ok (.if_icmp .le 9, 3) := by decide +kernel
theorem dX11_sheet_52 : decode cX11_sheet 52 = .ok (.aload_n 0, 1) := by decide +kernel
theorem dX11_sheet_53 : decode cX11_sheet 53 = .ok (.iconst 0, 1) := by decide +kernel
theorem dX11_sheet_54 : decode cX11_sheet 54 = .ok (.invokevirtual 122, 3) := by decide +kernel
theorem dX11_sheet_57 : decode cX11_sheet 57 = .ok (.ireturn, 1) := by decide +kernel
theorem dX11_sheet_58 : decode cX11_sheet 58 = .ok (.aload_n 0, 1) := by decide +kernel
theorem dX11_sheet_59 : decode cX11_sheet 59 = .ok (.getfield 77, 3) := by decide +kernel
theorem dX11_sheet_62 : decode cX11_sheet 62 = .ok (.iload_n 1, 1) := by decide +kernel
theorem dX11_sheet_63 : decode cX11_sheet 63 = .ok (.iload_n 2, 1) := by decide +kernel
theorem dX11_sheet_64 : decode cX11_sheet 64 = .ok (.iastore, 1) := by decide +kernel
theorem dX11_sheet_65 : decode cX11_sheet 65 = .ok (.aload_n 0, 1) := by decide +kernel
theorem dX11_sheet_66 : decode cX11_sheet 66 = .ok (.getfield 80, 3) := by decide +kernel
theorem dX11_sheet_69 : decode cX11_sheet 69 = .ok (.iload_n 1, 1) := by decide +kernel
theorem dX11_sheet_70 : decode cX11_sheet 70 = .ok (.iload_n 2, 1) := by decide +kernel
theorem dX11_sheet_71 : decode cX11_sheet 71 = .ok (.ifCond .ne 7, 3) := by decide +kernel
theorem dX11_sheet_74 : decode cX11_sheet 74 = .ok (.iconst 0, 1) := by decide +kernel
theorem dX11_sheet_75 : decode cX11_sheet 75 = .ok (.goto 4, 3) := by decide +kernel
theorem dX11_sheet_78 : decode cX11_sheet 78 = .ok (.iload_n 3, 1) := by decide +kernel
theorem dX11_sheet_79 : decode cX11_sheet 79 = .ok (.iastore, 1) := by decide +kernel
theorem dX11_sheet_80 : decode cX11_sheet 80 = .ok (.iconst 0, 1) := by decide +kernel
theorem dX11_sheet_81 : decode cX11_sheet 81 = .ok (.istore 4, 2) := by decide +kernel
theorem dX11_sheet_83 : decode cX11_sheet 83 = .ok (.iload 4, 2) := by decide +kernel
theorem dX11_sheet_85 : decode cX11_sheet 85 = .ok (.bipush 40, 2) := by decide +kernel
theorem dX11_sheet_87 : decode cX11_sheet 87 = .ok (.if_icmp .ge 22, 3) := by decide +kernel
theorem dX11_sheet_90 : decode cX11_sheet 90 = .ok (.aload_n 0, 1) := by decide +kernel
theorem dX11_sheet_91 : decode cX11_sheet 91 = .ok (.getfield 83, 3) := by decide +kernel
theorem dX11_sheet_94 : decode cX11_sheet 94 = .ok (.bipush 40, 2) := by decide +kernel
theorem dX11_sheet_96 : decode cX11_sheet 96 = .ok (.iload_n 1, 1) := by decide +kernel
theorem dX11_sheet_97 : decode cX11_sheet 97 = .ok (.imul, 1) := by decide +kernel
theorem dX11_sheet_98 : decode cX11_sheet 98 = .ok (.iload 4, 2) := by decide +kernel
theorem dX11_sheet_100 : decode cX11_sheet 100 = .ok (.iadd, 1) := by decide +kernel
theorem dX11_sheet_101 : decode cX11_sheet 101 = .ok (.iconst 0, 1) := by decide +kernel
theorem dX11_sheet_102 : decode cX11_sheet 102 = .ok (.iastore, 1) := by decide +kernel
theorem dX11_sheet_103 : decode cX11_sheet 103 = .ok (.iinc 4 1, 3) := by decide +kernel
theorem dX11_sheet_106 : decode cX11_sheet 106 = .ok (.goto (-23), 3) := by decide +kernel
theorem dX11_sheet_109 : decode cX11_sheet 109 = .ok (.aload_n 0, 1) := by decide +kernel
theorem dX11_sheet_110 : decode cX11_sheet 110 = .ok (.getfield 80, 3) := by decide +kernel
theorem dX11_sheet_113 : decode cX11_sheet 113 = .ok (.iload_n 1, 1) := by decide +kernel
theorem dX11_sheet_114 : decode cX11_sheet 114 = .ok (.iaload, 1) := by decide +kernel
theorem dX11_sheet_115 : decode cX11_sheet 115 = .ok (.ireturn, 1) := by decide +kernel
def S_X11_sheet_83 (fn : Mem → Int → Int → Option (Int × Mem)) (p : Program) (l : Launch) (e : Env) (R : Room) (s : State) (m : MethodId) (args : Array Value) (below : List Frame) (meth : Method) (c : Code) (G : GT) (τ : Mem) (res : Int) : Prop := ∀ (σ : Mem) (H : Heap) (locs : List Loc) (ls : Array Slot) (l1 : Int) (l4 : Int), PW G σ H → va_S (AA G) s.heap H locs → fn σ l1 l4 = some (res, τ) → lv_has ls 5 [(0, .ref (gh G + 111)), (1, .int (i32 l1)), (4, .int (i32 l4))] → W p l e R s m args below meth c H locs 0 0 (MQ below (QM G (some (.int (i32 res))) τ) args s 0 0 (AA G)) (F0 m 83 ls [])
def X11_sheet_B83 (rec83 : Mem → Int → Int → Option (Int × Mem)) (σ : Mem) (l1 : Int) (l4 : Int) : Option (Int × Mem) :=
  if w32 40 ≤ w32 l4 then
    ag 4 l1 fun j1 =>
    some (σ 135 j1, σ)
  else
  ag 160 ((40 * l1) + l4) fun j2 =>
  lt (st σ 136 j2 0) fun s3 =>
  lt (l4 + 1) fun l4_4 =>
  rec83 s3 l1 l4_4
def X11_sheet_L83 : Nat → Mem → Int → Int → Option (Int × Mem)
  | 0 => fun _ _ _ => none
  | n + 1 => X11_sheet_B83 (X11_sheet_L83 n)
def X11_sheet_B79 (σ : Mem) (l1 : Int) (k0 : Nat) (k1 : Int) (k2 : Int) : Option (Int × Mem) :=
  ag 4 k1 fun j1 =>
  lt (st σ k0 j1 k2) fun s2 =>
  X11_sheet_L83 5000 s2 l1 0
def S_X11_sheet_79 (fn : Mem → Int → Nat → Int → Int → Option (Int × Mem)) (p : Program) (l : Launch) (e : Env) (R : Room) (s : State) (m : MethodId) (args : Array Value) (below : List Frame) (meth : Method) (c : Code) (G : GT) (τ : Mem) (res : Int) : Prop := ∀ (σ : Mem) (H : Heap) (locs : List Loc) (ls : Array Slot) (l1 : Int) (k0 : Nat) (k1 : Int) (k2 : Int), kd k0 = 13 → ln k0 = 4 → PW G σ H → va_S (AA G) s.heap H locs → fn σ l1 k0 k1 k2 = some (res, τ) → lv_has ls 5 [(0, .ref (gh G + 111)), (1, .int (i32 l1))] → W p l e R s m args below meth c H locs 0 0 (MQ below (QM G (some (.int (i32 res))) τ) args s 0 0 (AA G)) (F0 m 79 ls [.int (i32 k2), .int (i32 k1), .ref (gh G + k0)])
def X11_sheet_B35 (σ : Mem) (l1 : Int) (l2 : Int) (l3 : Int) : Option (Int × Mem) :=
  if 0 ≤ w32 l3 then
    if w32 l3 ≤ w32 40 then
      ag 4 l1 fun j1 =>
      lt (st σ 134 j1 l2) fun s2 =>
      if w32 l2 ≠ 0 then
        X11_sheet_B79 s2 l1 135 l1 l3
      else
      X11_sheet_B79 s2 l1 135 l1 0
    else
    bd2 (X11_finds σ 0) fun r3 s4 =>
    some (r3, s4)
  else
  bd2 (X11_finds σ 6) fun r5 s6 =>
  some (r5, s6)
def S_X11_sheet_35 (fn : Mem → Int → Int → Int → Option (Int × Mem)) (p : Program) (l : Launch) (e : Env) (R : Room) (s : State) (m : MethodId) (args : Array Value) (below : List Frame) (meth : Method) (c : Code) (G : GT) (τ : Mem) (res : Int) : Prop := ∀ (σ : Mem) (H : Heap) (locs : List Loc) (ls : Array Slot) (l1 : Int) (l2 : Int) (l3 : Int), PW G σ H → va_S (AA G) s.heap H locs → fn σ l1 l2 l3 = some (res, τ) → lv_has ls 5 [(0, .ref (gh G + 111)), (1, .int (i32 l1)), (2, .int (i32 l2)), (3, .int (i32 l3))] → W p l e R s m args below meth c H locs 0 0 (MQ below (QM G (some (.int (i32 res))) τ) args s 0 0 (AA G)) (F0 m 35 ls [])
def X11_sheet_B29 (σ : Mem) : Option (Int × Mem) :=
  bd2 (X11_finds σ 0) fun r1 s2 =>
  some (r1, s2)
def S_X11_sheet_29 (fn : Mem → Option (Int × Mem)) (p : Program) (l : Launch) (e : Env) (R : Room) (s : State) (m : MethodId) (args : Array Value) (below : List Frame) (meth : Method) (c : Code) (G : GT) (τ : Mem) (res : Int) : Prop := ∀ (σ : Mem) (H : Heap) (locs : List Loc) (ls : Array Slot), PW G σ H → va_S (AA G) s.heap H locs → fn σ = some (res, τ) → lv_has ls 5 [(0, .ref (gh G + 111))] → W p l e R s m args below meth c H locs 0 0 (MQ below (QM G (some (.int (i32 res))) τ) args s 0 0 (AA G)) (F0 m 29 ls [])
def X11_sheet (σ : Mem) (l1 : Int) (l2 : Int) (l3 : Int) : Option (Int × Mem) :=
  bd (X11_isSheet σ l1) fun r1 =>
  if w32 r1 = 0 then
    X11_sheet_B29 σ
  else
  if w32 l2 = 0 then
    X11_sheet_B35 σ l1 l2 l3
  else
  if w32 l2 = w32 8 then
    X11_sheet_B35 σ l1 l2 l3
  else
  if w32 l2 = w32 16 then
    X11_sheet_B35 σ l1 l2 l3
  else
  if w32 l2 = w32 32 then
    X11_sheet_B35 σ l1 l2 l3
  else
  X11_sheet_B29 σ
def S_X11_sheet_0 (fn : Mem → Int → Int → Int → Option (Int × Mem)) (p : Program) (l : Launch) (e : Env) (R : Room) (s : State) (m : MethodId) (args : Array Value) (below : List Frame) (meth : Method) (c : Code) (G : GT) (τ : Mem) (res : Int) : Prop := ∀ (σ : Mem) (H : Heap) (locs : List Loc) (ls : Array Slot) (l1 : Int) (l2 : Int) (l3 : Int), PW G σ H → va_S (AA G) s.heap H locs → fn σ l1 l2 l3 = some (res, τ) → lv_has ls 5 [(0, .ref (gh G + 111)), (1, .int (i32 l1)), (2, .int (i32 l2)), (3, .int (i32 l3))] → W p l e R s m args below meth c H locs 0 0 (MQ below (QM G (some (.int (i32 res))) τ) args s 0 0 (AA G)) (F0 m 0 ls [])
set_option maxHeartbeats 4000000 in
theorem a_X11_sheet_83 {p : Program} {l : Launch} {e : Env} {R : Room} {s : State} {m : MethodId} {args : Array Value} {below : List Frame} {meth : Method} {c : Code} {G : GT} {τ : Mem} {res : Int} {rec83 : Mem → Int → Int → Option (Int × Mem)} (X : CX p R s m args meth c cX11_sheet 5 RX11 (some FieldType.int) 3 105 G) (h83 : S_X11_sheet_83 rec83 p l e R s m args below meth c G τ res) : S_X11_sheet_83 (X11_sheet_B83 rec83) p l e R s m args below meth c G τ res := by
  intro σ H locs ls l1 l4 hP hS hf hl
  unfold X11_sheet_B83 at hf
  refine lv_iload X.1 X.2.1 dX11_sheet_83 (lv_at hl 2 rfl) ?_
  refine r_bipush X 40 (by decide) dX11_sheet_85 ?_
  refine r_icmp_ge (tgt := 109) X dX11_sheet_87 (by decide) (fun q => ?_) (fun q => ?_)
  · replace hf := it_inv q hf
    refine lv_aload_n X.1 X.2.1 dX11_sheet_109 rfl (lv_at hl 0 rfl) ?_
    refine g_11_35 (r := 135) X hP ks_11 rfl (tb t_1122 rfl) dX11_sheet_110 ?_
    refine lv_iload_n X.1 X.2.1 dX11_sheet_113 rfl (lv_at hl 1 rfl) ?_
    obtain ⟨j1, hij1, hjj1, hlj1, hf⟩ := ag_inv hf
    refine r_iald X hP (ch_11_35 ks_11).1 (ch_11_35 ks_11).2 hij1 hjj1 dX11_sheet_114 ?_
    obtain ⟨rfl, rfl⟩ := so2_inv hf
    exact r_iret X hP hS dX11_sheet_115
  · replace hf := ie_inv q hf
    refine lv_aload_n X.1 X.2.1 dX11_sheet_90 rfl (lv_at hl 0 rfl) ?_
    refine g_11_36 (r := 136) X hP ks_11 rfl (tb t_1123 rfl) dX11_sheet_91 ?_
    refine r_bipush X 40 (by decide) dX11_sheet_94 ?_
    refine lv_iload_n X.1 X.2.1 dX11_sheet_96 rfl (lv_at hl 1 rfl) ?_
    refine r_imul X dX11_sheet_97 ?_
    refine lv_iload X.1 X.2.1 dX11_sheet_98 (lv_at hl 2 rfl) ?_
    refine r_iadd X dX11_sheet_100 ?_
    refine r_iconst X 0 dX11_sheet_101 ?_
    obtain ⟨j2, hij2, hjj2, hlj2, hf⟩ := ag_inv hf
    refine r_iast X hP hS (ch_11_36 ks_11).1 (ch_11_36 ks_11).2 hij2 hjj2 dX11_sheet_102 (fun H locs hP hS => ?_)
    obtain ⟨s3, es3, hf⟩ := lt_inv hf
    rw [es3] at hP
    obtain ⟨l4_4, el4_4, hf⟩ := lt_inv hf
    refine lv_iinc (v := i32 l4_4) (lv' := [(4, .int (i32 l4_4)), (0, .ref (gh G + 111)), (1, .int (i32 l1))]) X.1 X.2.1 dX11_sheet_103 hl (k := 2) rfl (by rw [← el4_4]; exact i32_add _ _) (by decide) rfl (fun ls hl => ?_)
    refine lv_goto (tgt := 83) X.1 X.2.1 dX11_sheet_106 (by decide) ?_
    exact h83 s3 H locs ls l1 l4_4 hP hS hf (lv_sub hl [1, 2, 0] rfl)
theorem al_X11_sheet_83 {p : Program} {l : Launch} {e : Env} {R : Room} {s : State} {m : MethodId} {args : Array Value} {below : List Frame} {meth : Method} {c : Code} {G : GT} {τ : Mem} {res : Int} (X : CX p R s m args meth c cX11_sheet 5 RX11 (some FieldType.int) 3 105 G) : ∀ n, S_X11_sheet_83 (X11_sheet_L83 n) p l e R s m args below meth c G τ res := by
  intro n
  induction n with
  | zero =>
    intro σ H locs ls l1 l4 hP hS hf hl
    cases hf
  | succ n ih => exact a_X11_sheet_83 X ih
set_option maxHeartbeats 4000000 in
theorem a_X11_sheet_79 {p : Program} {l : Launch} {e : Env} {R : Room} {s : State} {m : MethodId} {args : Array Value} {below : List Frame} {meth : Method} {c : Code} {G : GT} {τ : Mem} {res : Int} (X : CX p R s m args meth c cX11_sheet 5 RX11 (some FieldType.int) 3 105 G) : S_X11_sheet_79 (X11_sheet_B79) p l e R s m args below meth c G τ res := by
  intro σ H locs ls l1 k0 k1 k2 hk_k0 hn_k0 hP hS hf hl
  unfold X11_sheet_B79 at hf
  obtain ⟨j1, hij1, hjj1, hlj1, hf⟩ := ag_inv hf
  refine r_iast X hP hS hk_k0 hn_k0 hij1 hjj1 dX11_sheet_79 (fun H locs hP hS => ?_)
  obtain ⟨s2, es2, hf⟩ := lt_inv hf
  rw [es2] at hP
  refine r_iconst X 0 dX11_sheet_80 ?_
  refine lv_istore (lv' := [(4, .int (i32 0)), (0, .ref (gh G + 111)), (1, .int (i32 l1))]) X.1 X.2.1 dX11_sheet_81 hl (by decide) rfl (fun ls hl => ?_)
  exact al_X11_sheet_83 X 5000 s2 H locs ls l1 0 hP hS hf (lv_sub hl [1, 2, 0] rfl)
set_option maxHeartbeats 4000000 in
theorem a_X11_sheet_35 {p : Program} {l : Launch} {e : Env} {R : Room} {s : State} {m : MethodId} {args : Array Value} {below : List Frame} {meth : Method} {c : Code} {G : GT} {τ : Mem} {res : Int} (X : CX p R s m args meth c cX11_sheet 5 RX11 (some FieldType.int) 3 105 G) : S_X11_sheet_35 (X11_sheet_B35) p l e R s m args below meth c G τ res := by
  intro σ H locs ls l1 l2 l3 hP hS hf hl
  unfold X11_sheet_B35 at hf
  refine lv_iload_n X.1 X.2.1 dX11_sheet_35 rfl (lv_at hl 3 rfl) ?_
  refine r_if_ge (tgt := 46) X dX11_sheet_36 (by decide) (fun q => ?_) (fun q => ?_)
  · replace hf := it_inv q hf
    refine lv_iload_n X.1 X.2.1 dX11_sheet_46 rfl (lv_at hl 3 rfl) ?_
    refine r_bipush X 40 (by decide) dX11_sheet_47 ?_
    refine r_icmp_le (tgt := 58) X dX11_sheet_49 (by decide) (fun q => ?_) (fun q => ?_)
    · replace hf := it_inv q hf
      refine lv_aload_n X.1 X.2.1 dX11_sheet_58 rfl (lv_at hl 0 rfl) ?_
      refine g_11_34 (r := 134) X hP ks_11 rfl (tb t_1121 rfl) dX11_sheet_59 ?_
      refine lv_iload_n X.1 X.2.1 dX11_sheet_62 rfl (lv_at hl 1 rfl) ?_
      refine lv_iload_n X.1 X.2.1 dX11_sheet_63 rfl (lv_at hl 2 rfl) ?_
      obtain ⟨j1, hij1, hjj1, hlj1, hf⟩ := ag_inv hf
      refine r_iast X hP hS (ch_11_34 ks_11).1 (ch_11_34 ks_11).2 hij1 hjj1 dX11_sheet_64 (fun H locs hP hS => ?_)
      obtain ⟨s2, es2, hf⟩ := lt_inv hf
      rw [es2] at hP
      refine lv_aload_n X.1 X.2.1 dX11_sheet_65 rfl (lv_at hl 0 rfl) ?_
      refine g_11_35 (r := 135) X hP ks_11 rfl (tb t_1122 rfl) dX11_sheet_66 ?_
      refine lv_iload_n X.1 X.2.1 dX11_sheet_69 rfl (lv_at hl 1 rfl) ?_
      refine lv_iload_n X.1 X.2.1 dX11_sheet_70 rfl (lv_at hl 2 rfl) ?_
      refine r_if_ne (tgt := 78) X dX11_sheet_71 (by decide) (fun q => ?_) (fun q => ?_)
      · replace hf := it_inv q hf
        refine lv_iload_n X.1 X.2.1 dX11_sheet_78 rfl (lv_at hl 3 rfl) ?_
        exact a_X11_sheet_79 X s2 H locs ls l1 135 l1 l3 (ch_11_35 ks_11).1 (ch_11_35 ks_11).2 hP hS hf (lv_sub hl [0, 1] rfl)
      · replace hf := ie_inv q hf
        refine r_iconst X 0 dX11_sheet_74 ?_
        refine lv_goto (tgt := 79) X.1 X.2.1 dX11_sheet_75 (by decide) ?_
        exact a_X11_sheet_79 X s2 H locs ls l1 135 l1 0 (ch_11_35 ks_11).1 (ch_11_35 ks_11).2 hP hS hf (lv_sub hl [0, 1] rfl)
    · replace hf := ie_inv q hf
      refine lv_aload_n X.1 X.2.1 dX11_sheet_52 rfl (lv_at hl 0 rfl) ?_
      refine r_iconst X 0 dX11_sheet_53 ?_
      obtain ⟨r3, s4, hr3, hf⟩ := bd2_inv hf
      refine k_X11_finds X hP hS hl.1  hr3 (tb t_1219 rfl) (by decide) (Nat.le_of_ble_eq_true rfl) dX11_sheet_54 (fun H locs hP hS => ?_)
      obtain ⟨rfl, rfl⟩ := so2_inv hf
      exact r_iret X hP hS dX11_sheet_57
  · replace hf := ie_inv q hf
    refine lv_aload_n X.1 X.2.1 dX11_sheet_39 rfl (lv_at hl 0 rfl) ?_
    refine r_bipush X 6 (by decide) dX11_sheet_40 ?_
    obtain ⟨r5, s6, hr5, hf⟩ := bd2_inv hf
    refine k_X11_finds X hP hS hl.1  hr5 (tb t_1219 rfl) (by decide) (Nat.le_of_ble_eq_true rfl) dX11_sheet_42 (fun H locs hP hS => ?_)
    obtain ⟨rfl, rfl⟩ := so2_inv hf
    exact r_iret X hP hS dX11_sheet_45
set_option maxHeartbeats 4000000 in
theorem a_X11_sheet_29 {p : Program} {l : Launch} {e : Env} {R : Room} {s : State} {m : MethodId} {args : Array Value} {below : List Frame} {meth : Method} {c : Code} {G : GT} {τ : Mem} {res : Int} (X : CX p R s m args meth c cX11_sheet 5 RX11 (some FieldType.int) 3 105 G) : S_X11_sheet_29 (X11_sheet_B29) p l e R s m args below meth c G τ res := by
  intro σ H locs ls hP hS hf hl
  unfold X11_sheet_B29 at hf
  refine lv_aload_n X.1 X.2.1 dX11_sheet_29 rfl (lv_at hl 0 rfl) ?_
  refine r_iconst X 0 dX11_sheet_30 ?_
  obtain ⟨r1, s2, hr1, hf⟩ := bd2_inv hf
  refine k_X11_finds X hP hS hl.1  hr1 (tb t_1219 rfl) (by decide) (Nat.le_of_ble_eq_true rfl) dX11_sheet_31 (fun H locs hP hS => ?_)
  obtain ⟨rfl, rfl⟩ := so2_inv hf
  exact r_iret X hP hS dX11_sheet_34
set_option maxHeartbeats 4000000 in
theorem a_X11_sheet_0 {p : Program} {l : Launch} {e : Env} {R : Room} {s : State} {m : MethodId} {args : Array Value} {below : List Frame} {meth : Method} {c : Code} {G : GT} {τ : Mem} {res : Int} (X : CX p R s m args meth c cX11_sheet 5 RX11 (some FieldType.int) 3 105 G) : S_X11_sheet_0 (X11_sheet) p l e R s m args below meth c G τ res := by
  intro σ H locs ls l1 l2 l3 hP hS hf hl
  unfold X11_sheet at hf
  refine lv_iload_n X.1 X.2.1 dX11_sheet_0 rfl (lv_at hl 1 rfl) ?_
  obtain ⟨r1, hr1, hf⟩ := bd_inv hf
  refine k_X11_isSheet X hP hS hl.1  hr1 (tb t_1532 rfl) (by decide) (Nat.le_of_ble_eq_true rfl) dX11_sheet_1 (fun H locs hP hS => ?_)
  refine r_if_eq (tgt := 29) X dX11_sheet_4 (by decide) (fun q => ?_) (fun q => ?_)
  · replace hf := it_inv q hf
    exact a_X11_sheet_29 X σ H locs ls  hP hS hf (lv_sub hl [0] rfl)
  · replace hf := ie_inv q hf
    refine lv_iload_n X.1 X.2.1 dX11_sheet_7 rfl (lv_at hl 2 rfl) ?_
    refine r_if_eq (tgt := 35) X dX11_sheet_8 (by decide) (fun q => ?_) (fun q => ?_)
    · replace hf := it_inv q hf
      exact a_X11_sheet_35 X σ H locs ls l1 l2 l3 hP hS hf hl
    · replace hf := ie_inv q hf
      refine lv_iload_n X.1 X.2.1 dX11_sheet_11 rfl (lv_at hl 2 rfl) ?_
      refine r_bipush X 8 (by decide) dX11_sheet_12 ?_
      refine r_icmp_eq (tgt := 35) X dX11_sheet_14 (by decide) (fun q => ?_) (fun q => ?_)
      · replace hf := it_inv q hf
        exact a_X11_sheet_35 X σ H locs ls l1 l2 l3 hP hS hf hl
      · replace hf := ie_inv q hf
        refine lv_iload_n X.1 X.2.1 dX11_sheet_17 rfl (lv_at hl 2 rfl) ?_
        refine r_bipush X 16 (by decide) dX11_sheet_18 ?_
        refine r_icmp_eq (tgt := 35) X dX11_sheet_20 (by decide) (fun q => ?_) (fun q => ?_)
        · replace hf := it_inv q hf
          exact a_X11_sheet_35 X σ H locs ls l1 l2 l3 hP hS hf hl
        · replace hf := ie_inv q hf
          refine lv_iload_n X.1 X.2.1 dX11_sheet_23 rfl (lv_at hl 2 rfl) ?_
          refine r_bipush X 32 (by decide) dX11_sheet_24 ?_
          refine r_icmp_eq (tgt := 35) X dX11_sheet_26 (by decide) (fun q => ?_) (fun q => ?_)
          · replace hf := it_inv q hf
            exact a_X11_sheet_35 X σ H locs ls l1 l2 l3 hP hS hf hl
          · replace hf := ie_inv q hf
            exact a_X11_sheet_29 X σ H locs ls  hP hS hf (lv_sub hl [0] rfl)
set_option maxHeartbeats 4000000 in
theorem c_X11_sheet {l : Launch} {G : GT} {σ τ : Mem} {res : Int} {l1 : Int} {l2 : Int} {l3 : Int} (hf : X11_sheet σ l1 l2 l3 = some (res, τ)) : CT l yX11_sheet cX11_sheet 5 (some FieldType.int) 3 105 G [.ref (gh G + 111), .int (i32 l1), .int (i32 l2), .int (i32 l3)] σ τ (some (.int (i32 res))) := by
  refine CT.mk (own := RX11) (by decide) rfl (Nat.le_of_ble_eq_true rfl) ?_
  intro p e s m below meth c ls X hP hS hl
  have hl : lv_has ls 5 [(0, .ref (gh G + 111)), (1, .int (i32 l1)), (2, .int (i32 l2)), (3, .int (i32 l3))] := hl
  exact a_X11_sheet_0 X σ s.heap [] ls l1 l2 l3 hP hS hf hl
theorem k_X11_sheet {p : Program} {l : Launch} {e : Env} {R : Room} {s : State} {m : MethodId} {args : Array Value} {below : List Frame} {meth : Method} {c : Code} {H : Heap} {locs : List Loc} {Q : State → Prop} {cc : ByteArray} {nL : Nat} {own : String} {ret : Option FieldType} {fF fL : Nat} {G : GT} {pc idx : Nat} {ls : Array Slot} {rest : List Value} {σ τ : Mem} {res : Int} {l1 : Int} {l2 : Int} {l3 : Int} (X : CX p R s m args meth c cc nL own ret fF fL G) (hP : PW G σ H) (hS : va_S (AA G) s.heap H locs) (hls : ls.size = nL) (hf : X11_sheet σ l1 l2 l3 = some (res, τ)) (h1 : Cond.methodLink own idx yX11_sheet ∈ TB) (hR : 3 + 1 ≤ fF ∧ 8 + (5 + 11) + 105 ≤ fL) (hW : (rest.map fun v => v.category).sum ≤ 8) (hd : decode cc pc = .ok (.invokevirtual idx, 3)) (kk : ∀ (H1 : Heap) (locs1 : List Loc), PW G τ H1 → va_S (AA G) s.heap H1 locs1 → W p l e R s m args below meth c H1 locs1 0 0 Q (F0 m (pc + 3) ls (.int (i32 res) :: rest))) : W p l e R s m args below meth c H locs 0 0 Q (F0 m pc ls (.int (i32 l3) :: .int (i32 l2) :: .int (i32 l1) :: .ref (gh G + 111) :: rest)) := r_callV (n := 3) X hP hS hls (c_X11_sheet hf) h1 (tb t_1529 rfl) (tb t_1530 rfl) (tb t_87 rfl) (tb t_1531 rfl) (by decide +kernel) hR (r_recv X hP (kd_lt ks_11 (by decide)) (cE_11 ks_11) rfl) rfl rfl hW hd kk
/-! X11_status -/
theorem dX11_status_0 : decode cX11_status 0 = .ok (.iload_n 1, 1) := by decide +kernel
theorem dX11_status_1 : decode cX11_status 1 = .ok (.i2l, 1) := by decide +kernel
theorem dX11_status_2 : decode cX11_status 2 = .ok (.ldc2_w 114, 3) := by decide +kernel
theorem dX11_status_5 : decode cX11_status 5 = .ok (.ldc2_w 129, 3) := by decide +kernel
theorem dX11_status_8 : decode cX11_status 8 = .ok (.invokestatic 93, 3) := by decide +kernel
theorem dX11_status_11 : decode cX11_status 11 = .ok (.ifCond .ne 9, 3) := by decide +kernel
theorem dX11_status_14 : decode cX11_status 14 = .ok (.aload_n 0, 1) := by decide +kernel
theorem dX11_status_15 : decode cX11_status 15 = .ok (.iconst 0, 1) := by decide +kernel
theorem dX11_status_16 : decode cX11_status 16 = .ok (.invokevirtual 122, 3) := by decide +kernel
theorem dX11_status_19 : decode cX11_status 19 = .ok (.ireturn, 1) := by decide +kernel
theorem dX11_status_20 : decode cX11_status 20 = .ok (.iload_n 1, 1) := by decide +kernel
theorem dX11_status_21 : decode cX11_status 21 = .ok (.ifCond .lt 10, 3) := by decide +kernel
theorem dX11_status_24 : decode cX11_status 24 = .ok (.aload_n 0, 1) := by decide +kernel
theorem dX11_status_25 : decode cX11_status 25 = .ok (.getfield 16, 3) := by decide +kernel
theorem dX11_status_28 : decode cX11_status 28 = .ok (.iload_n 1, 1) := by decide +kernel
theorem dX11_status_29 : decode cX11_status 29 = .ok (.iaload, 1) := by decide +kernel
theorem dX11_status_30 : decode cX11_status 30 = .ok (.ireturn, 1) := by decide +kernel
theorem dX11_status_31 : decode cX11_status 31 = .ok (.iconst 0, 1) := by decide +kernel
theorem dX11_status_32 : decode cX11_status 32 = .ok (.istore_n 2, 1) := by decide +kernel
theorem dX11_status_33 : decode cX11_status 33 = .ok (.iconst 0, 1) := by decide +kernel
theorem dX11_status_34 : decode cX11_status 34 = .ok (.istore_n 3, 1) := by decide +kernel
theorem dX11_status_35 : decode cX11_status 35 = .ok (.iload_n 3, 1) := by decide +kernel
theorem dX11_status_36 : decode cX11_status 36 = .ok (.bipush 7, 2) := by decide +kernel
theorem dX11_status_38 : decode cX11_status 38 = .ok (.if_icmp .ge 18, 3) := by decide +kernel
theorem dX11_status_41 : decode cX11_status 41 = .ok (.iload_n 2, 1) := by decide +kernel
theorem dX11_status_42 : decode cX11_status 42 = .ok (.aload_n 0, 1) := by decide +kernel
theorem dX11_status_43 : decode cX11_status 43 = .ok (.getfield 16, 3) := by decide +kernel
theorem dX11_status_46 : decode cX11_status 46 = .ok (.iload_n 3, 1) := by decide +kernel
theorem dX11_status_47 : decode cX11_status 47 = .ok (.iaload, 1) := by decide +kernel
theorem dX11_status_48 : decode cX11_status 48 = .ok (.iadd, 1) := by decide +kernel
theorem dX11_status_49 : decode cX11_status 49 = .ok (.istore_n 2, 1) := by decide +kernel
theorem dX11_status_50 : decode cX11_status 50 = .ok (.iinc 3 1, 3) := by decide +kernel
theorem dX11_status_53 : decode cX11_status 53 = .ok (.goto (-18), 3) := by decide +kernel
theorem dX11_status_56 : decode cX11_status 56 = .ok (.iload_n 2, 1) := by decide +kernel
theorem dX11_status_57 : decode cX11_status 57 = .ok (.ireturn, 1) := by decide +kernel
def S_X11_status_35 (fn : Mem → Int → Int → Option (Int × Mem)) (p : Program) (l : Launch) (e : Env) (R : Room) (s : State) (m : MethodId) (args : Array Value) (below : List Frame) (meth : Method) (c : Code) (G : GT) (τ : Mem) (res : Int) : Prop := ∀ (σ : Mem) (H : Heap) (locs : List Loc) (ls : Array Slot) (l2 : Int) (l3 : Int), PW G σ H → va_S (AA G) s.heap H locs → fn σ l2 l3 = some (res, τ) → lv_has ls 4 [(0, .ref (gh G + 111)), (2, .int (i32 l2)), (3, .int (i32 l3))] → W p l e R s m args below meth c H locs 0 0 (MQ below (QM G (some (.int (i32 res))) τ) args s 0 0 (AA G)) (F0 m 35 ls [])
def X11_status_B35 (rec35 : Mem → Int → Int → Option (Int × Mem)) (σ : Mem) (l2 : Int) (l3 : Int) : Option (Int × Mem) :=
  if w32 7 ≤ w32 l3 then
    some (l2, σ)
  else
  ag 7 l3 fun j1 =>
  lt (l2 + (σ 114 j1)) fun l2_2 =>
  lt (l3 + 1) fun l3_3 =>
  rec35 σ l2_2 l3_3
def X11_status_L35 : Nat → Mem → Int → Int → Option (Int × Mem)
  | 0 => fun _ _ _ => none
  | n + 1 => X11_status_B35 (X11_status_L35 n)
def X11_status (σ : Mem) (l1 : Int) : Option (Int × Mem) :=
  bd (X11_in σ (w32 l1) (-1) 6) fun r1 =>
  if w32 r1 ≠ 0 then
    if w32 l1 < 0 then
      X11_status_L35 5000 σ 0 0
    else
    ag 7 l1 fun j2 =>
    some (σ 114 j2, σ)
  else
  bd2 (X11_finds σ 0) fun r3 s4 =>
  some (r3, s4)
def S_X11_status_0 (fn : Mem → Int → Option (Int × Mem)) (p : Program) (l : Launch) (e : Env) (R : Room) (s : State) (m : MethodId) (args : Array Value) (below : List Frame) (meth : Method) (c : Code) (G : GT) (τ : Mem) (res : Int) : Prop := ∀ (σ : Mem) (H : Heap) (locs : List Loc) (ls : Array Slot) (l1 : Int), PW G σ H → va_S (AA G) s.heap H locs → fn σ l1 = some (res, τ) → lv_has ls 4 [(0, .ref (gh G + 111)), (1, .int (i32 l1))] → W p l e R s m args below meth c H locs 0 0 (MQ below (QM G (some (.int (i32 res))) τ) args s 0 0 (AA G)) (F0 m 0 ls [])
set_option maxHeartbeats 4000000 in
theorem a_X11_status_35 {p : Program} {l : Launch} {e : Env} {R : Room} {s : State} {m : MethodId} {args : Array Value} {below : List Frame} {meth : Method} {c : Code} {G : GT} {τ : Mem} {res : Int} {rec35 : Mem → Int → Int → Option (Int × Mem)} (X : CX p R s m args meth c cX11_status 4 RX11 (some FieldType.int) 2 85 G) (h35 : S_X11_status_35 rec35 p l e R s m args below meth c G τ res) : S_X11_status_35 (X11_status_B35 rec35) p l e R s m args below meth c G τ res := by
  intro σ H locs ls l2 l3 hP hS hf hl
  unfold X11_status_B35 at hf
  refine lv_iload_n X.1 X.2.1 dX11_status_35 rfl (lv_at hl 2 rfl) ?_
  refine r_bipush X 7 (by decide) dX11_status_36 ?_
  refine r_icmp_ge (tgt := 56) X dX11_status_38 (by decide) (fun q => ?_) (fun q => ?_)
  · replace hf := it_inv q hf
    refine lv_iload_n X.1 X.2.1 dX11_status_56 rfl (lv_at hl 1 rfl) ?_
    obtain ⟨rfl, rfl⟩ := so2_inv hf
    exact r_iret X hP hS dX11_status_57
  · replace hf := ie_inv q hf
    refine lv_iload_n X.1 X.2.1 dX11_status_41 rfl (lv_at hl 1 rfl) ?_
    refine lv_aload_n X.1 X.2.1 dX11_status_42 rfl (lv_at hl 0 rfl) ?_
    refine g_11_3 (r := 114) X hP ks_11 rfl (tb t_1090 rfl) dX11_status_43 ?_
    refine lv_iload_n X.1 X.2.1 dX11_status_46 rfl (lv_at hl 2 rfl) ?_
    obtain ⟨j1, hij1, hjj1, hlj1, hf⟩ := ag_inv hf
    refine r_iald X hP (ch_11_3 ks_11).1 (ch_11_3 ks_11).2 hij1 hjj1 dX11_status_47 ?_
    refine r_iadd X dX11_status_48 ?_
    obtain ⟨l2_2, el2_2, hf⟩ := lt_inv hf
    refine r_eqi el2_2 ?_
    refine lv_istore_n (lv' := [(2, .int (i32 l2_2)), (0, .ref (gh G + 111)), (3, .int (i32 l3))]) X.1 X.2.1 dX11_status_49 rfl hl (by decide) rfl (fun ls hl => ?_)
    obtain ⟨l3_3, el3_3, hf⟩ := lt_inv hf
    refine lv_iinc (v := i32 l3_3) (lv' := [(3, .int (i32 l3_3)), (2, .int (i32 l2_2)), (0, .ref (gh G + 111))]) X.1 X.2.1 dX11_status_50 hl (k := 2) rfl (by rw [← el3_3]; exact i32_add _ _) (by decide) rfl (fun ls hl => ?_)
    refine lv_goto (tgt := 35) X.1 X.2.1 dX11_status_53 (by decide) ?_
    exact h35 σ H locs ls l2_2 l3_3 hP hS hf (lv_sub hl [2, 1, 0] rfl)
theorem al_X11_status_35 {p : Program} {l : Launch} {e : Env} {R : Room} {s : State} {m : MethodId} {args : Array Value} {below : List Frame} {meth : Method} {c : Code} {G : GT} {τ : Mem} {res : Int} (X : CX p R s m args meth c cX11_status 4 RX11 (some FieldType.int) 2 85 G) : ∀ n, S_X11_status_35 (X11_status_L35 n) p l e R s m args below meth c G τ res := by
  intro n
  induction n with
  | zero =>
    intro σ H locs ls l2 l3 hP hS hf hl
    cases hf
  | succ n ih => exact a_X11_status_35 X ih
set_option maxHeartbeats 4000000 in
theorem a_X11_status_0 {p : Program} {l : Launch} {e : Env} {R : Room} {s : State} {m : MethodId} {args : Array Value} {below : List Frame} {meth : Method} {c : Code} {G : GT} {τ : Mem} {res : Int} (X : CX p R s m args meth c cX11_status 4 RX11 (some FieldType.int) 2 85 G) : S_X11_status_0 (X11_status) p l e R s m args below meth c G τ res := by
  intro σ H locs ls l1 hP hS hf hl
  unfold X11_status at hf
  refine lv_iload_n X.1 X.2.1 dX11_status_0 rfl (lv_at hl 1 rfl) ?_
  refine r_i2l X dX11_status_1 ?_
  refine r_ldc2 X (-1) (tb t_1217 rfl) (by decide) dX11_status_2 ?_
  refine r_ldc2 X 6 (tb t_1230 rfl) (by decide) dX11_status_5 ?_
  obtain ⟨r1, hr1, hf⟩ := bd_inv hf
  refine k_X11_in X hP hS hl.1  hr1 (tb t_1208 rfl) (by decide) (Nat.le_of_ble_eq_true rfl) dX11_status_8 (fun H locs hP hS => ?_)
  refine r_if_ne (tgt := 20) X dX11_status_11 (by decide) (fun q => ?_) (fun q => ?_)
  · replace hf := it_inv q hf
    refine lv_iload_n X.1 X.2.1 dX11_status_20 rfl (lv_at hl 1 rfl) ?_
    refine r_if_lt (tgt := 31) X dX11_status_21 (by decide) (fun q => ?_) (fun q => ?_)
    · replace hf := it_inv q hf
      refine r_iconst X 0 dX11_status_31 ?_
      refine lv_istore_n (lv' := [(2, .int (i32 0)), (0, .ref (gh G + 111)), (1, .int (i32 l1))]) X.1 X.2.1 dX11_status_32 rfl hl (by decide) rfl (fun ls hl => ?_)
      refine r_iconst X 0 dX11_status_33 ?_
      refine lv_istore_n (lv' := [(3, .int (i32 0)), (2, .int (i32 0)), (0, .ref (gh G + 111)), (1, .int (i32 l1))]) X.1 X.2.1 dX11_status_34 rfl hl (by decide) rfl (fun ls hl => ?_)
      exact al_X11_status_35 X 5000 σ H locs ls 0 0 hP hS hf (lv_sub hl [2, 1, 0] rfl)
    · replace hf := ie_inv q hf
      refine lv_aload_n X.1 X.2.1 dX11_status_24 rfl (lv_at hl 0 rfl) ?_
      refine g_11_3 (r := 114) X hP ks_11 rfl (tb t_1090 rfl) dX11_status_25 ?_
      refine lv_iload_n X.1 X.2.1 dX11_status_28 rfl (lv_at hl 1 rfl) ?_
      obtain ⟨j2, hij2, hjj2, hlj2, hf⟩ := ag_inv hf
      refine r_iald X hP (ch_11_3 ks_11).1 (ch_11_3 ks_11).2 hij2 hjj2 dX11_status_29 ?_
      obtain ⟨rfl, rfl⟩ := so2_inv hf
      exact r_iret X hP hS dX11_status_30
  · replace hf := ie_inv q hf
    refine lv_aload_n X.1 X.2.1 dX11_status_14 rfl (lv_at hl 0 rfl) ?_
    refine r_iconst X 0 dX11_status_15 ?_
    obtain ⟨r3, s4, hr3, hf⟩ := bd2_inv hf
    refine k_X11_finds X hP hS hl.1  hr3 (tb t_1219 rfl) (by decide) (Nat.le_of_ble_eq_true rfl) dX11_status_16 (fun H locs hP hS => ?_)
    obtain ⟨rfl, rfl⟩ := so2_inv hf
    exact r_iret X hP hS dX11_status_19
set_option maxHeartbeats 4000000 in
theorem c_X11_status {l : Launch} {G : GT} {σ τ : Mem} {res : Int} {l1 : Int} (hf : X11_status σ l1 = some (res, τ)) : CT l yX11_status cX11_status 4 (some FieldType.int) 2 85 G [.ref (gh G + 111), .int (i32 l1)] σ τ (some (.int (i32 res))) := by
  refine CT.mk (own := RX11) (by decide) rfl (Nat.le_of_ble_eq_true rfl) ?_
  intro p e s m below meth c ls X hP hS hl
  have hl : lv_has ls 4 [(0, .ref (gh G + 111)), (1, .int (i32 l1))] := hl
  exact a_X11_status_0 X σ s.heap [] ls l1 hP hS hf hl
theorem k_X11_status {p : Program} {l : Launch} {e : Env} {R : Room} {s : State} {m : MethodId} {args : Array Value} {below : List Frame} {meth : Method} {c : Code} {H : Heap} {locs : List Loc} {Q : State → Prop} {cc : ByteArray} {nL : Nat} {own : String} {ret : Option FieldType} {fF fL : Nat} {G : GT} {pc idx : Nat} {ls : Array Slot} {rest : List Value} {σ τ : Mem} {res : Int} {l1 : Int} (X : CX p R s m args meth c cc nL own ret fF fL G) (hP : PW G σ H) (hS : va_S (AA G) s.heap H locs) (hls : ls.size = nL) (hf : X11_status σ l1 = some (res, τ)) (h1 : Cond.methodLink own idx yX11_status ∈ TB) (hR : 2 + 1 ≤ fF ∧ 8 + (4 + 11) + 85 ≤ fL) (hW : (rest.map fun v => v.category).sum ≤ 8) (hd : decode cc pc = .ok (.invokevirtual idx, 3)) (kk : ∀ (H1 : Heap) (locs1 : List Loc), PW G τ H1 → va_S (AA G) s.heap H1 locs1 → W p l e R s m args below meth c H1 locs1 0 0 Q (F0 m (pc + 3) ls (.int (i32 res) :: rest))) : W p l e R s m args below meth c H locs 0 0 Q (F0 m pc ls (.int (i32 l1) :: .ref (gh G + 111) :: rest)) := r_callV (n := 1) X hP hS hls (c_X11_status hf) h1 (tb t_1573 rfl) (tb t_1574 rfl) (tb t_87 rfl) (tb t_1575 rfl) (by decide +kernel) hR (r_recv X hP (kd_lt ks_11 (by decide)) (cE_11 ks_11) rfl) rfl rfl hW hd kk
/-! X11_stop -/
theorem dX11_stop_0 : decode cX11_stop 0 = .ok (.iload_n 1, 1) := by decide +kernel
theorem dX11_stop_1 : decode cX11_stop 1 = .ok (.invokestatic 97, 3) := by decide +kernel
theorem dX11_stop_4 : decode cX11_stop 4 = .ok (.ifCond .eq 7, 3) := by decide +kernel
theorem dX11_stop_7 : decode cX11_stop 7 = .ok (.iload_n 2, 1) := by decide +kernel
theorem dX11_stop_8 : decode cX11_stop 8 = .ok (.ifCond .ge 9, 3) := by decide +kernel
theorem dX11_stop_11 : decode cX11_stop 11 = .ok (.aload_n 0, 1) := by decide +kernel
theorem dX11_stop_12 : decode cX11_stop 12 = .ok (.iconst 0, 1) := by decide +kernel
theorem dX11_stop_13 : decode cX11_stop 13 = .ok (.invokevirtual 122, 3) := by decide +kernel
theorem dX11_stop_16 : decode cX11_stop 16 = .ok (.ireturn, 1) := by decide +kernel
theorem dX11_stop_17 : decode cX11_stop 17 = .ok (.iload_n 2, 1) := by decide +kernel
theorem dX11_stop_18 : decode cX11_stop 18 = .ok (.istore_n 3, 1) := by decide +kernel
theorem dX11_stop_19 : decode cX11_stop 19 = .ok (.aload_n 0, 1) := by decide +kernel
theorem dX11_stop_20 : decode cX11_stop 20 = .ok (.iload_n 1, 1) := by decide +kernel
theorem dX11_stop_21 : decode cX11_stop 21 = .ok (.invokevirtual 298, 3) := by decide +kernel
theorem dX11_stop_24 : decode cX11_stop 24 = .ok (.istore 4, 2) := by decide +kernel
theorem dX11_stop_26 : decode cX11_stop 26 = .ok (.iconst 0, 1) := by decide +kernel
theorem dX11_stop_27 : decode cX11_stop 27 = .ok (.istore 5, 2) := by decide +kernel
theorem dX11_stop_29 : decode cX11_stop 29 = .ok (.iload 4, 2) := by decide +kernel
theorem dX11_stop_31 : decode cX11_stop 31 = .ok (.ifCond .eq 47, 3) := by decide +kernel
theorem dX11_stop_34 : decode cX11_stop 34 = .ok (.iload 5, 2) := by decide +kernel
theorem dX11_stop_36 : decode cX11_stop 36 = .ok (.aload_n 0, 1) := by decide +kernel
theorem dX11_stop_37 : decode cX11_stop 37 = .ok (.getfield 289, 3) := by decide +kernel
theorem dX11_stop_40 : decode cX11_stop 40 = .ok (.if_icmp .ge 38, 3) := by decide +kernel
theorem dX11_stop_43 : decode cX11_stop 43 = .ok (.aload_n 0, 1) := by decide +kernel
theorem dX11_stop_44 : decode cX11_stop 44 = .ok (.getfield 68, 3) := by decide +kernel
theorem dX11_stop_47 : decode cX11_stop 47 = .ok (.iload 5, 2) := by decide +kernel
theorem dX11_stop_49 : decode cX11_stop 49 = .ok (.iaload, 1) := by decide +kernel
theorem dX11_stop_50 : decode cX11_stop 50 = .ok (.iconst 2, 1) := by decide +kernel
theorem dX11_stop_51 : decode cX11_stop 51 = .ok (.if_icmp .eq 6, 3) := by decide +kernel
theorem dX11_stop_54 : decode cX11_stop 54 = .ok (.goto 18, 3) := by decide +kernel
theorem dX11_stop_57 : decode cX11_stop 57 = .ok (.iload_n 3, 1) := by decide +kernel
theorem dX11_stop_58 : decode cX11_stop 58 = .ok (.ifCond .ne 11, 3) := by decide +kernel
theorem dX11_stop_61 : decode cX11_stop 61 = .ok (.aload_n 0, 1) := by decide +kernel
theorem dX11_stop_62 : decode cX11_stop 62 = .ok (.getfield 56, 3) := by decide +kernel
theorem dX11_stop_65 : decode cX11_stop 65 = .ok (.iload 5, 2) := by decide +kernel
theorem dX11_stop_67 : decode cX11_stop 67 = .ok (.iaload, 1) := by decide +kernel
theorem dX11_stop_68 : decode cX11_stop 68 = .ok (.ireturn, 1) := by decide +kernel
theorem dX11_stop_69 : decode cX11_stop 69 = .ok (.iinc 3 (-1), 3) := by decide +kernel
theorem dX11_stop_72 : decode cX11_stop 72 = .ok (.iinc 5 1, 3) := by decide +kernel
theorem dX11_stop_75 : decode cX11_stop 75 = .ok (.goto (-46), 3) := by decide +kernel
theorem dX11_stop_78 : decode cX11_stop 78 = .ok (.aload_n 0, 1) := by decide +kernel
theorem dX11_stop_79 : decode cX11_stop 79 = .ok (.iconst 3, 1) := by decide +kernel
theorem dX11_stop_80 : decode cX11_stop 80 = .ok (.invokevirtual 122, 3) := by decide +kernel
theorem dX11_stop_83 : decode cX11_stop 83 = .ok (.ireturn, 1) := by decide +kernel
def S_X11_stop_29 (fn : Mem → Int → Int → Int → Option (Int × Mem)) (p : Program) (l : Launch) (e : Env) (R : Room) (s : State) (m : MethodId) (args : Array Value) (below : List Frame) (meth : Method) (c : Code) (G : GT) (τ : Mem) (res : Int) : Prop := ∀ (σ : Mem) (H : Heap) (locs : List Loc) (ls : Array Slot) (l3 : Int) (l4 : Int) (l5 : Int), PW G σ H → va_S (AA G) s.heap H locs → fn σ l3 l4 l5 = some (res, τ) → lv_has ls 6 [(0, .ref (gh G + 111)), (3, .int (i32 l3)), (4, .int (i32 l4)), (5, .int (i32 l5))] → W p l e R s m args below meth c H locs 0 0 (MQ below (QM G (some (.int (i32 res))) τ) args s 0 0 (AA G)) (F0 m 29 ls [])
def X11_stop_B78 (σ : Mem) : Option (Int × Mem) :=
  bd2 (X11_finds σ 3) fun r1 s2 =>
  some (r1, s2)
def S_X11_stop_78 (fn : Mem → Option (Int × Mem)) (p : Program) (l : Launch) (e : Env) (R : Room) (s : State) (m : MethodId) (args : Array Value) (below : List Frame) (meth : Method) (c : Code) (G : GT) (τ : Mem) (res : Int) : Prop := ∀ (σ : Mem) (H : Heap) (locs : List Loc) (ls : Array Slot), PW G σ H → va_S (AA G) s.heap H locs → fn σ = some (res, τ) → lv_has ls 6 [(0, .ref (gh G + 111))] → W p l e R s m args below meth c H locs 0 0 (MQ below (QM G (some (.int (i32 res))) τ) args s 0 0 (AA G)) (F0 m 78 ls [])
def X11_stop_B72 (rec29 : Mem → Int → Int → Int → Option (Int × Mem)) (σ : Mem) (l3 : Int) (l4 : Int) (l5 : Int) : Option (Int × Mem) :=
  lt (l5 + 1) fun l5_1 =>
  rec29 σ l3 l4 l5_1
def S_X11_stop_72 (fn : Mem → Int → Int → Int → Option (Int × Mem)) (p : Program) (l : Launch) (e : Env) (R : Room) (s : State) (m : MethodId) (args : Array Value) (below : List Frame) (meth : Method) (c : Code) (G : GT) (τ : Mem) (res : Int) : Prop := ∀ (σ : Mem) (H : Heap) (locs : List Loc) (ls : Array Slot) (l3 : Int) (l4 : Int) (l5 : Int), PW G σ H → va_S (AA G) s.heap H locs → fn σ l3 l4 l5 = some (res, τ) → lv_has ls 6 [(0, .ref (gh G + 111)), (3, .int (i32 l3)), (4, .int (i32 l4)), (5, .int (i32 l5))] → W p l e R s m args below meth c H locs 0 0 (MQ below (QM G (some (.int (i32 res))) τ) args s 0 0 (AA G)) (F0 m 72 ls [])
def X11_stop_B29 (rec29 : Mem → Int → Int → Int → Option (Int × Mem)) (σ : Mem) (l3 : Int) (l4 : Int) (l5 : Int) : Option (Int × Mem) :=
  if w32 l4 = 0 then
    X11_stop_B78 σ
  else
  if w32 (σ 111 23) ≤ w32 l5 then
    X11_stop_B78 σ
  else
  ag 40 l5 fun j1 =>
  if w32 (σ 131 j1) = w32 2 then
    if w32 l3 ≠ 0 then
      lt (l3 + (-1)) fun l3_2 =>
      X11_stop_B72 rec29 σ l3_2 l4 l5
    else
    ag 40 l5 fun j3 =>
    some (σ 127 j3, σ)
  else
  X11_stop_B72 rec29 σ l3 l4 l5
def X11_stop_L29 : Nat → Mem → Int → Int → Int → Option (Int × Mem)
  | 0 => fun _ _ _ _ => none
  | n + 1 => X11_stop_B29 (X11_stop_L29 n)
def X11_stop_B11 (σ : Mem) : Option (Int × Mem) :=
  bd2 (X11_finds σ 0) fun r1 s2 =>
  some (r1, s2)
def S_X11_stop_11 (fn : Mem → Option (Int × Mem)) (p : Program) (l : Launch) (e : Env) (R : Room) (s : State) (m : MethodId) (args : Array Value) (below : List Frame) (meth : Method) (c : Code) (G : GT) (τ : Mem) (res : Int) : Prop := ∀ (σ : Mem) (H : Heap) (locs : List Loc) (ls : Array Slot), PW G σ H → va_S (AA G) s.heap H locs → fn σ = some (res, τ) → lv_has ls 6 [(0, .ref (gh G + 111))] → W p l e R s m args below meth c H locs 0 0 (MQ below (QM G (some (.int (i32 res))) τ) args s 0 0 (AA G)) (F0 m 11 ls [])
def X11_stop (σ : Mem) (l1 : Int) (l2 : Int) : Option (Int × Mem) :=
  bd (X11_isPart σ l1) fun r1 =>
  if w32 r1 = 0 then
    X11_stop_B11 σ
  else
  if 0 ≤ w32 l2 then
    bd2 (X11_laysOut σ l1) fun r2 s3 =>
    X11_stop_L29 5000 s3 l2 r2 0
  else
  X11_stop_B11 σ
def S_X11_stop_0 (fn : Mem → Int → Int → Option (Int × Mem)) (p : Program) (l : Launch) (e : Env) (R : Room) (s : State) (m : MethodId) (args : Array Value) (below : List Frame) (meth : Method) (c : Code) (G : GT) (τ : Mem) (res : Int) : Prop := ∀ (σ : Mem) (H : Heap) (locs : List Loc) (ls : Array Slot) (l1 : Int) (l2 : Int), PW G σ H → va_S (AA G) s.heap H locs → fn σ l1 l2 = some (res, τ) → lv_has ls 6 [(0, .ref (gh G + 111)), (1, .int (i32 l1)), (2, .int (i32 l2))] → W p l e R s m args below meth c H locs 0 0 (MQ below (QM G (some (.int (i32 res))) τ) args s 0 0 (AA G)) (F0 m 0 ls [])
set_option maxHeartbeats 4000000 in
theorem a_X11_stop_78 {p : Program} {l : Launch} {e : Env} {R : Room} {s : State} {m : MethodId} {args : Array Value} {below : List Frame} {meth : Method} {c : Code} {G : GT} {τ : Mem} {res : Int} (X : CX p R s m args meth c cX11_stop 6 RX11 (some FieldType.int) 10 270 G) : S_X11_stop_78 (X11_stop_B78) p l e R s m args below meth c G τ res := by
  intro σ H locs ls hP hS hf hl
  unfold X11_stop_B78 at hf
  refine lv_aload_n X.1 X.2.1 dX11_stop_78 rfl (lv_at hl 0 rfl) ?_
  refine r_iconst X 3 dX11_stop_79 ?_
  obtain ⟨r1, s2, hr1, hf⟩ := bd2_inv hf
  refine k_X11_finds X hP hS hl.1  hr1 (tb t_1219 rfl) (by decide) (Nat.le_of_ble_eq_true rfl) dX11_stop_80 (fun H locs hP hS => ?_)
  obtain ⟨rfl, rfl⟩ := so2_inv hf
  exact r_iret X hP hS dX11_stop_83
set_option maxHeartbeats 4000000 in
theorem a_X11_stop_72 {p : Program} {l : Launch} {e : Env} {R : Room} {s : State} {m : MethodId} {args : Array Value} {below : List Frame} {meth : Method} {c : Code} {G : GT} {τ : Mem} {res : Int} {rec29 : Mem → Int → Int → Int → Option (Int × Mem)} (X : CX p R s m args meth c cX11_stop 6 RX11 (some FieldType.int) 10 270 G) (h29 : S_X11_stop_29 rec29 p l e R s m args below meth c G τ res) : S_X11_stop_72 (X11_stop_B72 rec29) p l e R s m args below meth c G τ res := by
  intro σ H locs ls l3 l4 l5 hP hS hf hl
  unfold X11_stop_B72 at hf
  obtain ⟨l5_1, el5_1, hf⟩ := lt_inv hf
  refine lv_iinc (v := i32 l5_1) (lv' := [(5, .int (i32 l5_1)), (0, .ref (gh G + 111)), (3, .int (i32 l3)), (4, .int (i32 l4))]) X.1 X.2.1 dX11_stop_72 hl (k := 3) rfl (by rw [← el5_1]; exact i32_add _ _) (by decide) rfl (fun ls hl => ?_)
  refine lv_goto (tgt := 29) X.1 X.2.1 dX11_stop_75 (by decide) ?_
  exact h29 σ H locs ls l3 l4 l5_1 hP hS hf (lv_sub hl [1, 2, 3, 0] rfl)
set_option maxHeartbeats 4000000 in
theorem a_X11_stop_29 {p : Program} {l : Launch} {e : Env} {R : Room} {s : State} {m : MethodId} {args : Array Value} {below : List Frame} {meth : Method} {c : Code} {G : GT} {τ : Mem} {res : Int} {rec29 : Mem → Int → Int → Int → Option (Int × Mem)} (X : CX p R s m args meth c cX11_stop 6 RX11 (some FieldType.int) 10 270 G) (h29 : S_X11_stop_29 rec29 p l e R s m args below meth c G τ res) : S_X11_stop_29 (X11_stop_B29 rec29) p l e R s m args below meth c G τ res := by
  intro σ H locs ls l3 l4 l5 hP hS hf hl
  unfold X11_stop_B29 at hf
  refine lv_iload X.1 X.2.1 dX11_stop_29 (lv_at hl 2 rfl) ?_
  refine r_if_eq (tgt := 78) X dX11_stop_31 (by decide) (fun q => ?_) (fun q => ?_)
  · replace hf := it_inv q hf
    exact a_X11_stop_78 X σ H locs ls  hP hS hf (lv_sub hl [0] rfl)
  · replace hf := ie_inv q hf
    refine lv_iload X.1 X.2.1 dX11_stop_34 (lv_at hl 3 rfl) ?_
    refine lv_aload_n X.1 X.2.1 dX11_stop_36 rfl (lv_at hl 0 rfl) ?_
    refine g_11_23 X hP ks_11 (tb t_1110 rfl) dX11_stop_37 ?_
    refine r_icmp_ge (tgt := 78) X dX11_stop_40 (by decide) (fun q => ?_) (fun q => ?_)
    · replace hf := it_inv q hf
      exact a_X11_stop_78 X σ H locs ls  hP hS hf (lv_sub hl [0] rfl)
    · replace hf := ie_inv q hf
      refine lv_aload_n X.1 X.2.1 dX11_stop_43 rfl (lv_at hl 0 rfl) ?_
      refine g_11_31 (r := 131) X hP ks_11 rfl (tb t_1118 rfl) dX11_stop_44 ?_
      refine lv_iload X.1 X.2.1 dX11_stop_47 (lv_at hl 3 rfl) ?_
      obtain ⟨j1, hij1, hjj1, hlj1, hf⟩ := ag_inv hf
      refine r_iald X hP (ch_11_31 ks_11).1 (ch_11_31 ks_11).2 hij1 hjj1 dX11_stop_49 ?_
      refine r_iconst X 2 dX11_stop_50 ?_
      refine r_icmp_eq (tgt := 57) X dX11_stop_51 (by decide) (fun q => ?_) (fun q => ?_)
      · replace hf := it_inv q hf
        refine lv_iload_n X.1 X.2.1 dX11_stop_57 rfl (lv_at hl 1 rfl) ?_
        refine r_if_ne (tgt := 69) X dX11_stop_58 (by decide) (fun q => ?_) (fun q => ?_)
        · replace hf := it_inv q hf
          obtain ⟨l3_2, el3_2, hf⟩ := lt_inv hf
          refine lv_iinc (v := i32 l3_2) (lv' := [(3, .int (i32 l3_2)), (0, .ref (gh G + 111)), (4, .int (i32 l4)), (5, .int (i32 l5))]) X.1 X.2.1 dX11_stop_69 hl (k := 1) rfl (by rw [← el3_2]; exact i32_add _ _) (by decide) rfl (fun ls hl => ?_)
          exact a_X11_stop_72 X h29 σ H locs ls l3_2 l4 l5 hP hS hf (lv_sub hl [1, 0, 2, 3] rfl)
        · replace hf := ie_inv q hf
          refine lv_aload_n X.1 X.2.1 dX11_stop_61 rfl (lv_at hl 0 rfl) ?_
          refine g_11_27 (r := 127) X hP ks_11 rfl (tb t_1114 rfl) dX11_stop_62 ?_
          refine lv_iload X.1 X.2.1 dX11_stop_65 (lv_at hl 3 rfl) ?_
          obtain ⟨j3, hij3, hjj3, hlj3, hf⟩ := ag_inv hf
          refine r_iald X hP (ch_11_27 ks_11).1 (ch_11_27 ks_11).2 hij3 hjj3 dX11_stop_67 ?_
          obtain ⟨rfl, rfl⟩ := so2_inv hf
          exact r_iret X hP hS dX11_stop_68
      · replace hf := ie_inv q hf
        refine lv_goto (tgt := 72) X.1 X.2.1 dX11_stop_54 (by decide) ?_
        exact a_X11_stop_72 X h29 σ H locs ls l3 l4 l5 hP hS hf hl
theorem al_X11_stop_29 {p : Program} {l : Launch} {e : Env} {R : Room} {s : State} {m : MethodId} {args : Array Value} {below : List Frame} {meth : Method} {c : Code} {G : GT} {τ : Mem} {res : Int} (X : CX p R s m args meth c cX11_stop 6 RX11 (some FieldType.int) 10 270 G) : ∀ n, S_X11_stop_29 (X11_stop_L29 n) p l e R s m args below meth c G τ res := by
  intro n
  induction n with
  | zero =>
    intro σ H locs ls l3 l4 l5 hP hS hf hl
    cases hf
  | succ n ih => exact a_X11_stop_29 X ih
set_option maxHeartbeats 4000000 in
theorem a_X11_stop_11 {p : Program} {l : Launch} {e : Env} {R : Room} {s : State} {m : MethodId} {args : Array Value} {below : List Frame} {meth : Method} {c : Code} {G : GT} {τ : Mem} {res : Int} (X : CX p R s m args meth c cX11_stop 6 RX11 (some FieldType.int) 10 270 G) : S_X11_stop_11 (X11_stop_B11) p l e R s m args below meth c G τ res := by
  intro σ H locs ls hP hS hf hl
  unfold X11_stop_B11 at hf
  refine lv_aload_n X.1 X.2.1 dX11_stop_11 rfl (lv_at hl 0 rfl) ?_
  refine r_iconst X 0 dX11_stop_12 ?_
  obtain ⟨r1, s2, hr1, hf⟩ := bd2_inv hf
  refine k_X11_finds X hP hS hl.1  hr1 (tb t_1219 rfl) (by decide) (Nat.le_of_ble_eq_true rfl) dX11_stop_13 (fun H locs hP hS => ?_)
  obtain ⟨rfl, rfl⟩ := so2_inv hf
  exact r_iret X hP hS dX11_stop_16
set_option maxHeartbeats 4000000 in
theorem a_X11_stop_0 {p : Program} {l : Launch} {e : Env} {R : Room} {s : State} {m : MethodId} {args : Array Value} {below : List Frame} {meth : Method} {c : Code} {G : GT} {τ : Mem} {res : Int} (X : CX p R s m args meth c cX11_stop 6 RX11 (some FieldType.int) 10 270 G) : S_X11_stop_0 (X11_stop) p l e R s m args below meth c G τ res := by
  intro σ H locs ls l1 l2 hP hS hf hl
  unfold X11_stop at hf
  refine lv_iload_n X.1 X.2.1 dX11_stop_0 rfl (lv_at hl 1 rfl) ?_
  obtain ⟨r1, hr1, hf⟩ := bd_inv hf
  refine k_X11_isPart X hP hS hl.1  hr1 (tb t_1204 rfl) (by decide) (Nat.le_of_ble_eq_true rfl) dX11_stop_1 (fun H locs hP hS => ?_)
  refine r_if_eq (tgt := 11) X dX11_stop_4 (by decide) (fun q => ?_) (fun q => ?_)
  · replace hf := it_inv q hf
    exact a_X11_stop_11 X σ H locs ls  hP hS hf (lv_sub hl [0] rfl)
  · replace hf := ie_inv q hf
    refine lv_iload_n X.1 X.2.1 dX11_stop_7 rfl (lv_at hl 2 rfl) ?_
    refine r_if_ge (tgt := 17) X dX11_stop_8 (by decide) (fun q => ?_) (fun q => ?_)
    · replace hf := it_inv q hf
      refine lv_iload_n X.1 X.2.1 dX11_stop_17 rfl (lv_at hl 2 rfl) ?_
      refine lv_istore_n (lv' := [(3, .int (i32 l2)), (0, .ref (gh G + 111)), (1, .int (i32 l1)), (2, .int (i32 l2))]) X.1 X.2.1 dX11_stop_18 rfl hl (by decide) rfl (fun ls hl => ?_)
      refine lv_aload_n X.1 X.2.1 dX11_stop_19 rfl (lv_at hl 1 rfl) ?_
      refine lv_iload_n X.1 X.2.1 dX11_stop_20 rfl (lv_at hl 2 rfl) ?_
      obtain ⟨r2, s3, hr2, hf⟩ := bd2_inv hf
      refine k_X11_laysOut X hP hS hl.1  hr2 (tb t_1393 rfl) (by decide) (Nat.le_of_ble_eq_true rfl) dX11_stop_21 (fun H locs hP hS => ?_)
      refine lv_istore (lv' := [(4, .int (i32 r2)), (3, .int (i32 l2)), (0, .ref (gh G + 111)), (1, .int (i32 l1)), (2, .int (i32 l2))]) X.1 X.2.1 dX11_stop_24 hl (by decide) rfl (fun ls hl => ?_)
      refine r_iconst X 0 dX11_stop_26 ?_
      refine lv_istore (lv' := [(5, .int (i32 0)), (4, .int (i32 r2)), (3, .int (i32 l2)), (0, .ref (gh G + 111)), (1, .int (i32 l1)), (2, .int (i32 l2))]) X.1 X.2.1 dX11_stop_27 hl (by decide) rfl (fun ls hl => ?_)
      exact al_X11_stop_29 X 5000 s3 H locs ls l2 r2 0 hP hS hf (lv_sub hl [3, 2, 1, 0] rfl)
    · replace hf := ie_inv q hf
      exact a_X11_stop_11 X σ H locs ls  hP hS hf (lv_sub hl [0] rfl)
set_option maxHeartbeats 4000000 in
theorem c_X11_stop {l : Launch} {G : GT} {σ τ : Mem} {res : Int} {l1 : Int} {l2 : Int} (hf : X11_stop σ l1 l2 = some (res, τ)) : CT l yX11_stop cX11_stop 6 (some FieldType.int) 10 270 G [.ref (gh G + 111), .int (i32 l1), .int (i32 l2)] σ τ (some (.int (i32 res))) := by
  refine CT.mk (own := RX11) (by decide) rfl (Nat.le_of_ble_eq_true rfl) ?_
  intro p e s m below meth c ls X hP hS hl
  have hl : lv_has ls 6 [(0, .ref (gh G + 111)), (1, .int (i32 l1)), (2, .int (i32 l2))] := hl
  exact a_X11_stop_0 X σ s.heap [] ls l1 l2 hP hS hf hl
theorem k_X11_stop {p : Program} {l : Launch} {e : Env} {R : Room} {s : State} {m : MethodId} {args : Array Value} {below : List Frame} {meth : Method} {c : Code} {H : Heap} {locs : List Loc} {Q : State → Prop} {cc : ByteArray} {nL : Nat} {own : String} {ret : Option FieldType} {fF fL : Nat} {G : GT} {pc idx : Nat} {ls : Array Slot} {rest : List Value} {σ τ : Mem} {res : Int} {l1 : Int} {l2 : Int} (X : CX p R s m args meth c cc nL own ret fF fL G) (hP : PW G σ H) (hS : va_S (AA G) s.heap H locs) (hls : ls.size = nL) (hf : X11_stop σ l1 l2 = some (res, τ)) (h1 : Cond.methodLink own idx yX11_stop ∈ TB) (hR : 10 + 1 ≤ fF ∧ 8 + (6 + 11) + 270 ≤ fL) (hW : (rest.map fun v => v.category).sum ≤ 8) (hd : decode cc pc = .ok (.invokevirtual idx, 3)) (kk : ∀ (H1 : Heap) (locs1 : List Loc), PW G τ H1 → va_S (AA G) s.heap H1 locs1 → W p l e R s m args below meth c H1 locs1 0 0 Q (F0 m (pc + 3) ls (.int (i32 res) :: rest))) : W p l e R s m args below meth c H locs 0 0 Q (F0 m pc ls (.int (i32 l2) :: .int (i32 l1) :: .ref (gh G + 111) :: rest)) := r_callV (n := 2) X hP hS hls (c_X11_stop hf) h1 (tb t_1435 rfl) (tb t_1436 rfl) (tb t_87 rfl) (tb t_1437 rfl) (by decide +kernel) hR (r_recv X hP (kd_lt ks_11 (by decide)) (cE_11 ks_11) rfl) rfl rfl hW hd kk
/-! X11_tear -/
theorem dX11_tear_0 : decode cX11_tear 0 = .ok (.aload_n 0, 1) := by decide +kernel
theorem dX11_tear_1 : decode cX11_tear 1 = .ok (.getfield 343, 3) := by decide +kernel
theorem dX11_tear_4 : decode cX11_tear 4 = .ok (.ifCond .eq 7, 3) := by decide +kernel
theorem dX11_tear_7 : decode cX11_tear 7 = .ok (.iconst 1, 1) := by decide +kernel
theorem dX11_tear_8 : decode cX11_tear 8 = .ok (.goto 4, 3) := by decide +kernel
theorem dX11_tear_11 : decode cX11_tear 11 = .ok (.iconst 0, 1) := by decide +kernel
theorem dX11_tear_12 : decode cX11_tear 12 = .ok (.istore_n 1, 1) := by decide +kernel
theorem dX11_tear_13 : decode cX11_tear 13 = .ok (.aload_n 0, 1) := by decide +kernel
theorem dX11_tear_14 : decode cX11_tear 14 = .ok (.iconst 0, 1) := by decide +kernel
theorem dX11_tear_15 : decode cX11_tear 15 = .ok (.putfield 343, 3) := by decide +kernel
theorem dX11_tear_18 : decode cX11_tear 18 = .ok (.iload_n 1, 1) := by decide +kernel
theorem dX11_tear_19 : decode cX11_tear 19 = .ok (.ireturn, 1) := by decide +kernel
def X11_tear_B12 (σ : Mem) (k0 : Int) : Option (Int × Mem) :=
  lt (st σ 111 2 0) fun s1 =>
  some (k0, s1)
def S_X11_tear_12 (fn : Mem → Int → Option (Int × Mem)) (p : Program) (l : Launch) (e : Env) (R : Room) (s : State) (m : MethodId) (args : Array Value) (below : List Frame) (meth : Method) (c : Code) (G : GT) (τ : Mem) (res : Int) : Prop := ∀ (σ : Mem) (H : Heap) (locs : List Loc) (ls : Array Slot) (k0 : Int), PW G σ H → va_S (AA G) s.heap H locs → fn σ k0 = some (res, τ) → lv_has ls 2 [(0, .ref (gh G + 111))] → W p l e R s m args below meth c H locs 0 0 (MQ below (QM G (some (.int (i32 res))) τ) args s 0 0 (AA G)) (F0 m 12 ls [.int (i32 k0)])
def X11_tear (σ : Mem) : Option (Int × Mem) :=
  if w32 (σ 111 2) = 0 then
    X11_tear_B12 σ 0
  else
  X11_tear_B12 σ 1
def S_X11_tear_0 (fn : Mem → Option (Int × Mem)) (p : Program) (l : Launch) (e : Env) (R : Room) (s : State) (m : MethodId) (args : Array Value) (below : List Frame) (meth : Method) (c : Code) (G : GT) (τ : Mem) (res : Int) : Prop := ∀ (σ : Mem) (H : Heap) (locs : List Loc) (ls : Array Slot), PW G σ H → va_S (AA G) s.heap H locs → fn σ = some (res, τ) → lv_has ls 2 [(0, .ref (gh G + 111))] → W p l e R s m args below meth c H locs 0 0 (MQ below (QM G (some (.int (i32 res))) τ) args s 0 0 (AA G)) (F0 m 0 ls [])
set_option maxHeartbeats 4000000 in
theorem a_X11_tear_12 {p : Program} {l : Launch} {e : Env} {R : Room} {s : State} {m : MethodId} {args : Array Value} {below : List Frame} {meth : Method} {c : Code} {G : GT} {τ : Mem} {res : Int} (X : CX p R s m args meth c cX11_tear 2 RX11 (some FieldType.int) 1 60 G) : S_X11_tear_12 (X11_tear_B12) p l e R s m args below meth c G τ res := by
  intro σ H locs ls k0 hP hS hf hl
  unfold X11_tear_B12 at hf
  refine lv_istore_n (lv' := [(1, .int (i32 k0)), (0, .ref (gh G + 111))]) X.1 X.2.1 dX11_tear_12 rfl hl (by decide) rfl (fun ls hl => ?_)
  refine lv_aload_n X.1 X.2.1 dX11_tear_13 rfl (lv_at hl 1 rfl) ?_
  refine r_iconst X 0 dX11_tear_14 ?_
  refine p_11_2 X hP hS (Or.inl rfl) ks_11 (tb t_1089 rfl) dX11_tear_15 (fun H locs hP hS => ?_)
  obtain ⟨s1, es1, hf⟩ := lt_inv hf
  rw [es1] at hP
  refine lv_iload_n X.1 X.2.1 dX11_tear_18 rfl (lv_at hl 0 rfl) ?_
  obtain ⟨rfl, rfl⟩ := so2_inv hf
  exact r_iret X hP hS dX11_tear_19
set_option maxHeartbeats 4000000 in
theorem a_X11_tear_0 {p : Program} {l : Launch} {e : Env} {R : Room} {s : State} {m : MethodId} {args : Array Value} {below : List Frame} {meth : Method} {c : Code} {G : GT} {τ : Mem} {res : Int} (X : CX p R s m args meth c cX11_tear 2 RX11 (some FieldType.int) 1 60 G) : S_X11_tear_0 (X11_tear) p l e R s m args below meth c G τ res := by
  intro σ H locs ls hP hS hf hl
  unfold X11_tear at hf
  refine lv_aload_n X.1 X.2.1 dX11_tear_0 rfl (lv_at hl 0 rfl) ?_
  refine g_11_2 X hP ks_11 (tb t_1089 rfl) dX11_tear_1 ?_
  refine r_if_eq (tgt := 11) X dX11_tear_4 (by decide) (fun q => ?_) (fun q => ?_)
  · replace hf := it_inv q hf
    refine r_iconst X 0 dX11_tear_11 ?_
    exact a_X11_tear_12 X σ H locs ls 0 hP hS hf hl
  · replace hf := ie_inv q hf
    refine r_iconst X 1 dX11_tear_7 ?_
    refine lv_goto (tgt := 12) X.1 X.2.1 dX11_tear_8 (by decide) ?_
    exact a_X11_tear_12 X σ H locs ls 1 hP hS hf hl
set_option maxHeartbeats 4000000 in
theorem c_X11_tear {l : Launch} {G : GT} {σ τ : Mem} {res : Int} (hf : X11_tear σ = some (res, τ)) : CT l yX11_tear cX11_tear 2 (some FieldType.int) 1 60 G [.ref (gh G + 111)] σ τ (some (.int (i32 res))) := by
  refine CT.mk (own := RX11) (by decide) rfl (Nat.le_of_ble_eq_true rfl) ?_
  intro p e s m below meth c ls X hP hS hl
  have hl : lv_has ls 2 [(0, .ref (gh G + 111))] := hl
  exact a_X11_tear_0 X σ s.heap [] ls hP hS hf hl
theorem k_X11_tear {p : Program} {l : Launch} {e : Env} {R : Room} {s : State} {m : MethodId} {args : Array Value} {below : List Frame} {meth : Method} {c : Code} {H : Heap} {locs : List Loc} {Q : State → Prop} {cc : ByteArray} {nL : Nat} {own : String} {ret : Option FieldType} {fF fL : Nat} {G : GT} {pc idx : Nat} {ls : Array Slot} {rest : List Value} {σ τ : Mem} {res : Int} (X : CX p R s m args meth c cc nL own ret fF fL G) (hP : PW G σ H) (hS : va_S (AA G) s.heap H locs) (hls : ls.size = nL) (hf : X11_tear σ = some (res, τ)) (h1 : Cond.methodLink own idx yX11_tear ∈ TB) (hR : 1 + 1 ≤ fF ∧ 8 + (2 + 11) + 60 ≤ fL) (hW : (rest.map fun v => v.category).sum ≤ 8) (hd : decode cc pc = .ok (.invokevirtual idx, 3)) (kk : ∀ (H1 : Heap) (locs1 : List Loc), PW G τ H1 → va_S (AA G) s.heap H1 locs1 → W p l e R s m args below meth c H1 locs1 0 0 Q (F0 m (pc + 3) ls (.int (i32 res) :: rest))) : W p l e R s m args below meth c H locs 0 0 Q (F0 m pc ls (.ref (gh G + 111) :: rest)) := r_callV (n := 0) X hP hS hls (c_X11_tear hf) h1 (tb t_1565 rfl) (tb t_1566 rfl) (tb t_87 rfl) (tb t_1567 rfl) (by decide +kernel) hR (r_recv X hP (kd_lt ks_11 (by decide)) (cE_11 ks_11) rfl) rfl rfl hW hd kk
/-! X11_together -/
theorem dX11_together_0 : decode cX11_together 0 = .ok (.iload_n 1, 1) := by decide +kernel
theorem dX11_together_1 : decode cX11_together 1 = .ok (.invokestatic 97, 3) := by decide +kernel
theorem dX11_together_4 : decode cX11_together 4 = .ok (.ifCond .eq 15, 3) := by decide +kernel
theorem dX11_together_7 : decode cX11_together 7 = .ok (.iload_n 2, 1) := by decide +kernel
theorem dX11_together_8 : decode cX11_together 8 = .ok (.invokestatic 97, 3) := by decide +kernel
theorem dX11_together_11 : decode cX11_together 11 = .ok (.ifCond .eq 8, 3) := by decide +kernel
theorem dX11_together_14 : decode cX11_together 14 = .ok (.iload_n 1, 1) := by decide +kernel
theorem dX11_together_15 : decode cX11_together 15 = .ok (.iload_n 2, 1) := by decide +kernel
theorem dX11_together_16 : decode cX11_together 16 = .ok (.if_icmp .ne 9, 3) := by decide +kernel
theorem dX11_together_19 : decode cX11_together 19 = .ok (.aload_n 0, 1) := by decide +kernel
theorem dX11_together_20 : decode cX11_together 20 = .ok (.iconst 0, 1) := by decide +kernel
theorem dX11_together_21 : decode cX11_together 21 = .ok (.invokevirtual 122, 3) := by decide +kernel
theorem dX11_together_24 : decode cX11_together 24 = .ok (.ireturn, 1) := by decide +kernel
theorem dX11_together_25 : decode cX11_together 25 = .ok (.aload_n 0, 1) := by decide +kernel
theorem dX11_together_26 : decode cX11_together 26 = .ok (.invokevirtual 309, 3) := by decide +kernel
theorem dX11_together_29 : decode cX11_together 29 = .ok (.aload_n 0, 1) := by decide +kernel
theorem dX11_together_30 : decode cX11_together 30 = .ok (.iload_n 1, 1) := by decide +kernel
theorem dX11_together_31 : decode cX11_together 31 = .ok (.invokevirtual 312, 3) := by decide +kernel
theorem dX11_together_34 : decode cX11_together 34 = .ok (.ifCond .eq 19, 3) := by decide +kernel
theorem dX11_together_37 : decode cX11_together 37 = .ok (.aload_n 0, 1) := by decide +kernel
theorem dX11_together_38 : decode cX11_together 38 = .ok (.iload_n 2, 1) := by decide +kernel
theorem dX11_together_39 : decode cX11_together 39 = .ok (.invokevirtual 312, 3) := by decide +kernel
theorem dX11_together_42 : decode cX11_together 42 = .ok (.ifCond .eq 11, 3) := by decide +kernel
theorem dX11_together_45 : decode cX11_together 45 = .ok (.aload_n 0, 1) := by decide +kernel
theorem dX11_together_46 : decode cX11_together 46 = .ok (.iconst 2, 1) := by decide +kernel
theorem dX11_together_47 : decode cX11_together 47 = .ok (.invokevirtual 315, 3) := by decide +kernel
theorem dX11_together_50 : decode cX11_together 50 = .ok (.goto 8, 3) := by decide +kernel
theorem dX11_together_53 : decode cX11_together 53 = .ok (.aload_n 0, 1) := by decide +kernel
theorem dX11_together_54 : decode cX11_together 54 = .ok (.iconst 3, 1) := by decide +kernel
theorem dX11_together_55 : decode cX11_together 55 = .ok (.invokevirtual 122, 3) := by decide +kernel
theorem dX11_together_58 : decode cX11_together 58 = .ok (.ireturn, 1) := by decide +kernel
def X11_together_B53 (σ : Mem) : Option (Int × Mem) :=
  bd2 (X11_finds σ 3) fun r1 s2 =>
  some (r1, s2)
def S_X11_together_53 (fn : Mem → Option (Int × Mem)) (p : Program) (l : Launch) (e : Env) (R : Room) (s : State) (m : MethodId) (args : Array Value) (below : List Frame) (meth : Method) (c : Code) (G : GT) (τ : Mem) (res : Int) : Prop := ∀ (σ : Mem) (H : Heap) (locs : List Loc) (ls : Array Slot), PW G σ H → va_S (AA G) s.heap H locs → fn σ = some (res, τ) → lv_has ls 3 [(0, .ref (gh G + 111))] → W p l e R s m args below meth c H locs 0 0 (MQ below (QM G (some (.int (i32 res))) τ) args s 0 0 (AA G)) (F0 m 53 ls [])
def X11_together_B19 (σ : Mem) : Option (Int × Mem) :=
  bd2 (X11_finds σ 0) fun r1 s2 =>
  some (r1, s2)
def S_X11_together_19 (fn : Mem → Option (Int × Mem)) (p : Program) (l : Launch) (e : Env) (R : Room) (s : State) (m : MethodId) (args : Array Value) (below : List Frame) (meth : Method) (c : Code) (G : GT) (τ : Mem) (res : Int) : Prop := ∀ (σ : Mem) (H : Heap) (locs : List Loc) (ls : Array Slot), PW G σ H → va_S (AA G) s.heap H locs → fn σ = some (res, τ) → lv_has ls 3 [(0, .ref (gh G + 111))] → W p l e R s m args below meth c H locs 0 0 (MQ below (QM G (some (.int (i32 res))) τ) args s 0 0 (AA G)) (F0 m 19 ls [])
def X11_together (σ : Mem) (l1 : Int) (l2 : Int) : Option (Int × Mem) :=
  bd (X11_isPart σ l1) fun r1 =>
  if w32 r1 = 0 then
    X11_together_B19 σ
  else
  bd (X11_isPart σ l2) fun r2 =>
  if w32 r2 = 0 then
    X11_together_B19 σ
  else
  if w32 l1 ≠ w32 l2 then
    bd (X11_noTurns σ) fun s4 =>
    bd2 (X11_countsTurns s4 l1) fun r5 s6 =>
    if w32 r5 = 0 then
      X11_together_B53 s6
    else
    bd2 (X11_countsTurns s6 l2) fun r7 s8 =>
    if w32 r7 = 0 then
      X11_together_B53 s8
    else
    bd (X11_turnsFrom s8 2) fun r9 =>
    some (r9, s8)
  else
  X11_together_B19 σ
def S_X11_together_0 (fn : Mem → Int → Int → Option (Int × Mem)) (p : Program) (l : Launch) (e : Env) (R : Room) (s : State) (m : MethodId) (args : Array Value) (below : List Frame) (meth : Method) (c : Code) (G : GT) (τ : Mem) (res : Int) : Prop := ∀ (σ : Mem) (H : Heap) (locs : List Loc) (ls : Array Slot) (l1 : Int) (l2 : Int), PW G σ H → va_S (AA G) s.heap H locs → fn σ l1 l2 = some (res, τ) → lv_has ls 3 [(0, .ref (gh G + 111)), (1, .int (i32 l1)), (2, .int (i32 l2))] → W p l e R s m args below meth c H locs 0 0 (MQ below (QM G (some (.int (i32 res))) τ) args s 0 0 (AA G)) (F0 m 0 ls [])
set_option maxHeartbeats 4000000 in
theorem a_X11_together_53 {p : Program} {l : Launch} {e : Env} {R : Room} {s : State} {m : MethodId} {args : Array Value} {below : List Frame} {meth : Method} {c : Code} {G : GT} {τ : Mem} {res : Int} (X : CX p R s m args meth c cX11_together 3 RX11 (some FieldType.int) 11 292 G) : S_X11_together_53 (X11_together_B53) p l e R s m args below meth c G τ res := by
  intro σ H locs ls hP hS hf hl
  unfold X11_together_B53 at hf
  refine lv_aload_n X.1 X.2.1 dX11_together_53 rfl (lv_at hl 0 rfl) ?_
  refine r_iconst X 3 dX11_together_54 ?_
  obtain ⟨r1, s2, hr1, hf⟩ := bd2_inv hf
  refine k_X11_finds X hP hS hl.1  hr1 (tb t_1219 rfl) (by decide) (Nat.le_of_ble_eq_true rfl) dX11_together_55 (fun H locs hP hS => ?_)
  obtain ⟨rfl, rfl⟩ := so2_inv hf
  exact r_iret X hP hS dX11_together_58
set_option maxHeartbeats 4000000 in
theorem a_X11_together_19 {p : Program} {l : Launch} {e : Env} {R : Room} {s : State} {m : MethodId} {args : Array Value} {below : List Frame} {meth : Method} {c : Code} {G : GT} {τ : Mem} {res : Int} (X : CX p R s m args meth c cX11_together 3 RX11 (some FieldType.int) 11 292 G) : S_X11_together_19 (X11_together_B19) p l e R s m args below meth c G τ res := by
  intro σ H locs ls hP hS hf hl
  unfold X11_together_B19 at hf
  refine lv_aload_n X.1 X.2.1 dX11_together_19 rfl (lv_at hl 0 rfl) ?_
  refine r_iconst X 0 dX11_together_20 ?_
  obtain ⟨r1, s2, hr1, hf⟩ := bd2_inv hf
  refine k_X11_finds X hP hS hl.1  hr1 (tb t_1219 rfl) (by decide) (Nat.le_of_ble_eq_true rfl) dX11_together_21 (fun H locs hP hS => ?_)
  obtain ⟨rfl, rfl⟩ := so2_inv hf
  exact r_iret X hP hS dX11_together_24
set_option maxHeartbeats 4000000 in
theorem a_X11_together_0 {p : Program} {l : Launch} {e : Env} {R : Room} {s : State} {m : MethodId} {args : Array Value} {below : List Frame} {meth : Method} {c : Code} {G : GT} {τ : Mem} {res : Int} (X : CX p R s m args meth c cX11_together 3 RX11 (some FieldType.int) 11 292 G) : S_X11_together_0 (X11_together) p l e R s m args below meth c G τ res := by
  intro σ H locs ls l1 l2 hP hS hf hl
  unfold X11_together at hf
  refine lv_iload_n X.1 X.2.1 dX11_together_0 rfl (lv_at hl 1 rfl) ?_
  obtain ⟨r1, hr1, hf⟩ := bd_inv hf
  refine k_X11_isPart X hP hS hl.1  hr1 (tb t_1204 rfl) (by decide) (Nat.le_of_ble_eq_true rfl) dX11_together_1 (fun H locs hP hS => ?_)
  refine r_if_eq (tgt := 19) X dX11_together_4 (by decide) (fun q => ?_) (fun q => ?_)
  · replace hf := it_inv q hf
    exact a_X11_together_19 X σ H locs ls  hP hS hf (lv_sub hl [0] rfl)
  · replace hf := ie_inv q hf
    refine lv_iload_n X.1 X.2.1 dX11_together_7 rfl (lv_at hl 2 rfl) ?_
    obtain ⟨r2, hr2, hf⟩ := bd_inv hf
    refine k_X11_isPart X hP hS hl.1  hr2 (tb t_1204 rfl) (by decide) (Nat.le_of_ble_eq_true rfl) dX11_together_8 (fun H locs hP hS => ?_)
    refine r_if_eq (tgt := 19) X dX11_together_11 (by decide) (fun q => ?_) (fun q => ?_)
    · replace hf := it_inv q hf
      exact a_X11_together_19 X σ H locs ls  hP hS hf (lv_sub hl [0] rfl)
    · replace hf := ie_inv q hf
      refine lv_iload_n X.1 X.2.1 dX11_together_14 rfl (lv_at hl 1 rfl) ?_
      refine lv_iload_n X.1 X.2.1 dX11_together_15 rfl (lv_at hl 2 rfl) ?_
      refine r_icmp_ne (tgt := 25) X dX11_together_16 (by decide) (fun q => ?_) (fun q => ?_)
      · replace hf := it_inv q hf
        refine lv_aload_n X.1 X.2.1 dX11_together_25 rfl (lv_at hl 0 rfl) ?_
        obtain ⟨s4, hr3, hf⟩ := bd_inv hf
        refine k_X11_noTurns X hP hS hl.1  hr3 (tb t_1461 rfl) (by decide) (Nat.le_of_ble_eq_true rfl) dX11_together_26 (fun H locs hP hS => ?_)
        refine lv_aload_n X.1 X.2.1 dX11_together_29 rfl (lv_at hl 0 rfl) ?_
        refine lv_iload_n X.1 X.2.1 dX11_together_30 rfl (lv_at hl 1 rfl) ?_
        obtain ⟨r5, s6, hr5, hf⟩ := bd2_inv hf
        refine k_X11_countsTurns X hP hS hl.1  hr5 (tb t_1465 rfl) (by decide) (Nat.le_of_ble_eq_true rfl) dX11_together_31 (fun H locs hP hS => ?_)
        refine r_if_eq (tgt := 53) X dX11_together_34 (by decide) (fun q => ?_) (fun q => ?_)
        · replace hf := it_inv q hf
          exact a_X11_together_53 X s6 H locs ls  hP hS hf (lv_sub hl [0] rfl)
        · replace hf := ie_inv q hf
          refine lv_aload_n X.1 X.2.1 dX11_together_37 rfl (lv_at hl 0 rfl) ?_
          refine lv_iload_n X.1 X.2.1 dX11_together_38 rfl (lv_at hl 2 rfl) ?_
          obtain ⟨r7, s8, hr7, hf⟩ := bd2_inv hf
          refine k_X11_countsTurns X hP hS hl.1  hr7 (tb t_1465 rfl) (by decide) (Nat.le_of_ble_eq_true rfl) dX11_together_39 (fun H locs hP hS => ?_)
          refine r_if_eq (tgt := 53) X dX11_together_42 (by decide) (fun q => ?_) (fun q => ?_)
          · replace hf := it_inv q hf
            exact a_X11_together_53 X s8 H locs ls  hP hS hf (lv_sub hl [0] rfl)
          · replace hf := ie_inv q hf
            refine lv_aload_n X.1 X.2.1 dX11_together_45 rfl (lv_at hl 0 rfl) ?_
            refine r_iconst X 2 dX11_together_46 ?_
            obtain ⟨r9, hr9, hf⟩ := bd_inv hf
            refine k_X11_turnsFrom X hP hS hl.1  hr9 (tb t_1469 rfl) (by decide) (Nat.le_of_ble_eq_true rfl) dX11_together_47 (fun H locs hP hS => ?_)
            refine lv_goto (tgt := 58) X.1 X.2.1 dX11_together_50 (by decide) ?_
            obtain ⟨rfl, rfl⟩ := so2_inv hf
            exact r_iret X hP hS dX11_together_58
      · replace hf := ie_inv q hf
        exact a_X11_together_19 X σ H locs ls  hP hS hf (lv_sub hl [0] rfl)
set_option maxHeartbeats 4000000 in
theorem c_X11_together {l : Launch} {G : GT} {σ τ : Mem} {res : Int} {l1 : Int} {l2 : Int} (hf : X11_together σ l1 l2 = some (res, τ)) : CT l yX11_together cX11_together 3 (some FieldType.int) 11 292 G [.ref (gh G + 111), .int (i32 l1), .int (i32 l2)] σ τ (some (.int (i32 res))) := by
  refine CT.mk (own := RX11) (by decide) rfl (Nat.le_of_ble_eq_true rfl) ?_
  intro p e s m below meth c ls X hP hS hl
  have hl : lv_has ls 3 [(0, .ref (gh G + 111)), (1, .int (i32 l1)), (2, .int (i32 l2))] := hl
  exact a_X11_together_0 X σ s.heap [] ls l1 l2 hP hS hf hl
theorem k_X11_together {p : Program} {l : Launch} {e : Env} {R : Room} {s : State} {m : MethodId} {args : Array Value} {below : List Frame} {meth : Method} {c : Code} {H : Heap} {locs : List Loc} {Q : State → Prop} {cc : ByteArray} {nL : Nat} {own : String} {ret : Option FieldType} {fF fL : Nat} {G : GT} {pc idx : Nat} {ls : Array Slot} {rest : List Value} {σ τ : Mem} {res : Int} {l1 : Int} {l2 : Int} (X : CX p R s m args meth c cc nL own ret fF fL G) (hP : PW G σ H) (hS : va_S (AA G) s.heap H locs) (hls : ls.size = nL) (hf : X11_together σ l1 l2 = some (res, τ)) (h1 : Cond.methodLink own idx yX11_together ∈ TB) (hR : 11 + 1 ≤ fF ∧ 8 + (3 + 11) + 292 ≤ fL) (hW : (rest.map fun v => v.category).sum ≤ 8) (hd : decode cc pc = .ok (.invokevirtual idx, 3)) (kk : ∀ (H1 : Heap) (locs1 : List Loc), PW G τ H1 → va_S (AA G) s.heap H1 locs1 → W p l e R s m args below meth c H1 locs1 0 0 Q (F0 m (pc + 3) ls (.int (i32 res) :: rest))) : W p l e R s m args below meth c H locs 0 0 Q (F0 m pc ls (.int (i32 l2) :: .int (i32 l1) :: .ref (gh G + 111) :: rest)) := r_callV (n := 2) X hP hS hls (c_X11_together hf) h1 (tb t_1458 rfl) (tb t_1459 rfl) (tb t_87 rfl) (tb t_1460 rfl) (by decide +kernel) hR (r_recv X hP (kd_lt ks_11 (by decide)) (cE_11 ks_11) rfl) rfl rfl hW hd kk
/-! X11_undo -/
theorem dX11_undo_0 : decode cX11_undo 0 = .ok (.aload_n 0, 1) := by decide +kernel
theorem dX11_undo_1 : decode cX11_undo 1 = .ok (.getfield 343, 3) := by decide +kernel
theorem dX11_undo_4 : decode cX11_undo 4 = .ok (.ifCond .ne 9, 3) := by decide +kernel
theorem dX11_undo_7 : decode cX11_undo 7 = .ok (.aload_n 0, 1) := by decide +kernel
theorem dX11_undo_8 : decode cX11_undo 8 = .ok (.iconst 3, 1) := by decide +kernel
theorem dX11_undo_9 : decode cX11_undo 9 = .ok (.invokevirtual 122, 3) := by decide +kernel
theorem dX11_undo_12 : decode cX11_undo 12 = .ok (.ireturn, 1) := by decide +kernel
theorem dX11_undo_13 : decode cX11_undo 13 = .ok (.iconst 0, 1) := by decide +kernel
theorem dX11_undo_14 : decode cX11_undo 14 = .ok (.istore_n 1, 1) := by decide +kernel
theorem dX11_undo_15 : decode cX11_undo 15 = .ok (.iload_n 1, 1) := by decide +kernel
theorem dX11_undo_16 : decode cX11_undo 16 = .ok (.sipush 766, 3) := by decide +kernel
theorem dX11_undo_19 : decode cX11_undo 19 = .ok (.if_icmp .ge 21, 3) := by decide +kernel
theorem dX11_undo_22 : decode cX11_undo 22 = .ok (.aload_n 0, 1) := by decide +kernel
theorem dX11_undo_23 : decode cX11_undo 23 = .ok (.getfield 9, 3) := by decide +kernel
theorem dX11_undo_26 : decode cX11_undo 26 = .ok (.iload_n 1, 1) := by decide +kernel
theorem dX11_undo_27 : decode cX11_undo 27 = .ok (.aload_n 0, 1) := by decide +kernel
theorem dX11_undo_28 : decode cX11_undo 28 = .ok (.getfield 13, 3) := by decide +kernel
theorem dX11_undo_31 : decode cX11_undo 31 = .ok (.iload_n 1, 1) := by decide +kernel
theorem dX11_undo_32 : decode cX11_undo 32 = .ok (.iaload, 1) := by decide +kernel
theorem dX11_undo_33 : decode cX11_undo 33 = .ok (.iastore, 1) := by decide +kernel
theorem dX11_undo_34 : decode cX11_undo 34 = .ok (.iinc 1 1, 3) := by decide +kernel
theorem dX11_undo_37 : decode cX11_undo 37 = .ok (.goto (-22), 3) := by decide +kernel
theorem dX11_undo_40 : decode cX11_undo 40 = .ok (.aload_n 0, 1) := by decide +kernel
theorem dX11_undo_41 : decode cX11_undo 41 = .ok (.invokevirtual 346, 3) := by decide +kernel
theorem dX11_undo_44 : decode cX11_undo 44 = .ok (.ireturn, 1) := by decide +kernel
def S_X11_undo_15 (fn : Mem → Int → Option (Int × Mem)) (p : Program) (l : Launch) (e : Env) (R : Room) (s : State) (m : MethodId) (args : Array Value) (below : List Frame) (meth : Method) (c : Code) (G : GT) (τ : Mem) (res : Int) : Prop := ∀ (σ : Mem) (H : Heap) (locs : List Loc) (ls : Array Slot) (l1 : Int), PW G σ H → va_S (AA G) s.heap H locs → fn σ l1 = some (res, τ) → lv_has ls 2 [(0, .ref (gh G + 111)), (1, .int (i32 l1))] → W p l e R s m args below meth c H locs 0 0 (MQ below (QM G (some (.int (i32 res))) τ) args s 0 0 (AA G)) (F0 m 15 ls [])
def X11_undo_B15 (rec15 : Mem → Int → Option (Int × Mem)) (σ : Mem) (l1 : Int) : Option (Int × Mem) :=
  if w32 766 ≤ w32 l1 then
    bd (X11_barsInAll σ) fun r1 =>
    some (r1, σ)
  else
  ag 766 l1 fun j2 =>
  ag 766 l1 fun j3 =>
  lt (st σ 112 j3 (σ 113 j2)) fun s4 =>
  lt (l1 + 1) fun l1_5 =>
  rec15 s4 l1_5
def X11_undo_L15 : Nat → Mem → Int → Option (Int × Mem)
  | 0 => fun _ _ => none
  | n + 1 => X11_undo_B15 (X11_undo_L15 n)
def X11_undo (σ : Mem) : Option (Int × Mem) :=
  if w32 (σ 111 2) ≠ 0 then
    X11_undo_L15 5000 σ 0
  else
  bd2 (X11_finds σ 3) fun r1 s2 =>
  some (r1, s2)
def S_X11_undo_0 (fn : Mem → Option (Int × Mem)) (p : Program) (l : Launch) (e : Env) (R : Room) (s : State) (m : MethodId) (args : Array Value) (below : List Frame) (meth : Method) (c : Code) (G : GT) (τ : Mem) (res : Int) : Prop := ∀ (σ : Mem) (H : Heap) (locs : List Loc) (ls : Array Slot), PW G σ H → va_S (AA G) s.heap H locs → fn σ = some (res, τ) → lv_has ls 2 [(0, .ref (gh G + 111))] → W p l e R s m args below meth c H locs 0 0 (MQ below (QM G (some (.int (i32 res))) τ) args s 0 0 (AA G)) (F0 m 0 ls [])
set_option maxHeartbeats 4000000 in
theorem a_X11_undo_15 {p : Program} {l : Launch} {e : Env} {R : Room} {s : State} {m : MethodId} {args : Array Value} {below : List Frame} {meth : Method} {c : Code} {G : GT} {τ : Mem} {res : Int} {rec15 : Mem → Int → Option (Int × Mem)} (X : CX p R s m args meth c cX11_undo 2 RX11 (some FieldType.int) 4 123 G) (h15 : S_X11_undo_15 rec15 p l e R s m args below meth c G τ res) : S_X11_undo_15 (X11_undo_B15 rec15) p l e R s m args below meth c G τ res := by
  intro σ H locs ls l1 hP hS hf hl
  unfold X11_undo_B15 at hf
  refine lv_iload_n X.1 X.2.1 dX11_undo_15 rfl (lv_at hl 1 rfl) ?_
  refine r_sipush X 766 (by decide) dX11_undo_16 ?_
  refine r_icmp_ge (tgt := 40) X dX11_undo_19 (by decide) (fun q => ?_) (fun q => ?_)
  · replace hf := it_inv q hf
    refine lv_aload_n X.1 X.2.1 dX11_undo_40 rfl (lv_at hl 0 rfl) ?_
    obtain ⟨r1, hr1, hf⟩ := bd_inv hf
    refine k_X11_barsInAll X hP hS hl.1  hr1 (tb t_1560 rfl) (by decide) (Nat.le_of_ble_eq_true rfl) dX11_undo_41 (fun H locs hP hS => ?_)
    obtain ⟨rfl, rfl⟩ := so2_inv hf
    exact r_iret X hP hS dX11_undo_44
  · replace hf := ie_inv q hf
    refine lv_aload_n X.1 X.2.1 dX11_undo_22 rfl (lv_at hl 0 rfl) ?_
    refine g_11_0 (r := 112) X hP ks_11 rfl (tb t_1087 rfl) dX11_undo_23 ?_
    refine lv_iload_n X.1 X.2.1 dX11_undo_26 rfl (lv_at hl 1 rfl) ?_
    refine lv_aload_n X.1 X.2.1 dX11_undo_27 rfl (lv_at hl 0 rfl) ?_
    refine g_11_1 (r := 113) X hP ks_11 rfl (tb t_1088 rfl) dX11_undo_28 ?_
    refine lv_iload_n X.1 X.2.1 dX11_undo_31 rfl (lv_at hl 1 rfl) ?_
    obtain ⟨j2, hij2, hjj2, hlj2, hf⟩ := ag_inv hf
    refine r_iald X hP (ch_11_1 ks_11).1 (ch_11_1 ks_11).2 hij2 hjj2 dX11_undo_32 ?_
    obtain ⟨j3, hij3, hjj3, hlj3, hf⟩ := ag_inv hf
    refine r_iast X hP hS (ch_11_0 ks_11).1 (ch_11_0 ks_11).2 hij3 hjj3 dX11_undo_33 (fun H locs hP hS => ?_)
    obtain ⟨s4, es4, hf⟩ := lt_inv hf
    rw [es4] at hP
    obtain ⟨l1_5, el1_5, hf⟩ := lt_inv hf
    refine lv_iinc (v := i32 l1_5) (lv' := [(1, .int (i32 l1_5)), (0, .ref (gh G + 111))]) X.1 X.2.1 dX11_undo_34 hl (k := 1) rfl (by rw [← el1_5]; exact i32_add _ _) (by decide) rfl (fun ls hl => ?_)
    refine lv_goto (tgt := 15) X.1 X.2.1 dX11_undo_37 (by decide) ?_
    exact h15 s4 H locs ls l1_5 hP hS hf (lv_sub hl [1, 0] rfl)
theorem al_X11_undo_15 {p : Program} {l : Launch} {e : Env} {R : Room} {s : State} {m : MethodId} {args : Array Value} {below : List Frame} {meth : Method} {c : Code} {G : GT} {τ : Mem} {res : Int} (X : CX p R s m args meth c cX11_undo 2 RX11 (some FieldType.int) 4 123 G) : ∀ n, S_X11_undo_15 (X11_undo_L15 n) p l e R s m args below meth c G τ res := by
  intro n
  induction n with
  | zero =>
    intro σ H locs ls l1 hP hS hf hl
    cases hf
  | succ n ih => exact a_X11_undo_15 X ih
set_option maxHeartbeats 4000000 in
theorem a_X11_undo_0 {p : Program} {l : Launch} {e : Env} {R : Room} {s : State} {m : MethodId} {args : Array Value} {below : List Frame} {meth : Method} {c : Code} {G : GT} {τ : Mem} {res : Int} (X : CX p R s m args meth c cX11_undo 2 RX11 (some FieldType.int) 4 123 G) : S_X11_undo_0 (X11_undo) p l e R s m args below meth c G τ res := by
  intro σ H locs ls hP hS hf hl
  unfold X11_undo at hf
  refine lv_aload_n X.1 X.2.1 dX11_undo_0 rfl (lv_at hl 0 rfl) ?_
  refine g_11_2 X hP ks_11 (tb t_1089 rfl) dX11_undo_1 ?_
  refine r_if_ne (tgt := 13) X dX11_undo_4 (by decide) (fun q => ?_) (fun q => ?_)
  · replace hf := it_inv q hf
    refine r_iconst X 0 dX11_undo_13 ?_
    refine lv_istore_n (lv' := [(1, .int (i32 0)), (0, .ref (gh G + 111))]) X.1 X.2.1 dX11_undo_14 rfl hl (by decide) rfl (fun ls hl => ?_)
    exact al_X11_undo_15 X 5000 σ H locs ls 0 hP hS hf (lv_sub hl [1, 0] rfl)
  · replace hf := ie_inv q hf
    refine lv_aload_n X.1 X.2.1 dX11_undo_7 rfl (lv_at hl 0 rfl) ?_
    refine r_iconst X 3 dX11_undo_8 ?_
    obtain ⟨r1, s2, hr1, hf⟩ := bd2_inv hf
    refine k_X11_finds X hP hS hl.1  hr1 (tb t_1219 rfl) (by decide) (Nat.le_of_ble_eq_true rfl) dX11_undo_9 (fun H locs hP hS => ?_)
    obtain ⟨rfl, rfl⟩ := so2_inv hf
    exact r_iret X hP hS dX11_undo_12
set_option maxHeartbeats 4000000 in
theorem c_X11_undo {l : Launch} {G : GT} {σ τ : Mem} {res : Int} (hf : X11_undo σ = some (res, τ)) : CT l yX11_undo cX11_undo 2 (some FieldType.int) 4 123 G [.ref (gh G + 111)] σ τ (some (.int (i32 res))) := by
  refine CT.mk (own := RX11) (by decide) rfl (Nat.le_of_ble_eq_true rfl) ?_
  intro p e s m below meth c ls X hP hS hl
  have hl : lv_has ls 2 [(0, .ref (gh G + 111))] := hl
  exact a_X11_undo_0 X σ s.heap [] ls hP hS hf hl
theorem k_X11_undo {p : Program} {l : Launch} {e : Env} {R : Room} {s : State} {m : MethodId} {args : Array Value} {below : List Frame} {meth : Method} {c : Code} {H : Heap} {locs : List Loc} {Q : State → Prop} {cc : ByteArray} {nL : Nat} {own : String} {ret : Option FieldType} {fF fL : Nat} {G : GT} {pc idx : Nat} {ls : Array Slot} {rest : List Value} {σ τ : Mem} {res : Int} (X : CX p R s m args meth c cc nL own ret fF fL G) (hP : PW G σ H) (hS : va_S (AA G) s.heap H locs) (hls : ls.size = nL) (hf : X11_undo σ = some (res, τ)) (h1 : Cond.methodLink own idx yX11_undo ∈ TB) (hR : 4 + 1 ≤ fF ∧ 8 + (2 + 11) + 123 ≤ fL) (hW : (rest.map fun v => v.category).sum ≤ 8) (hd : decode cc pc = .ok (.invokevirtual idx, 3)) (kk : ∀ (H1 : Heap) (locs1 : List Loc), PW G τ H1 → va_S (AA G) s.heap H1 locs1 → W p l e R s m args below meth c H1 locs1 0 0 Q (F0 m (pc + 3) ls (.int (i32 res) :: rest))) : W p l e R s m args below meth c H locs 0 0 Q (F0 m pc ls (.ref (gh G + 111) :: rest)) := r_callV (n := 0) X hP hS hls (c_X11_undo hf) h1 (tb t_1557 rfl) (tb t_1558 rfl) (tb t_87 rfl) (tb t_1559 rfl) (by decide +kernel) hR (r_recv X hP (kd_lt ks_11 (by decide)) (cE_11 ks_11) rfl) rfl rfl hW hd kk
/-! X11_wipe -/
theorem dX11_wipe_0 : decode cX11_wipe 0 = .ok (.aload_n 0, 1) := by decide +kernel
theorem dX11_wipe_1 : decode cX11_wipe 1 = .ok (.getfield 137, 3) := by decide +kernel
theorem dX11_wipe_4 : decode cX11_wipe 4 = .ok (.istore_n 1, 1) := by decide +kernel
theorem dX11_wipe_5 : decode cX11_wipe 5 = .ok (.aload_n 0, 1) := by decide +kernel
theorem dX11_wipe_6 : decode cX11_wipe 6 = .ok (.iconst 0, 1) := by decide +kernel
theorem dX11_wipe_7 : decode cX11_wipe 7 = .ok (.putfield 137, 3) := by decide +kernel
theorem dX11_wipe_10 : decode cX11_wipe 10 = .ok (.iload_n 1, 1) := by decide +kernel
theorem dX11_wipe_11 : decode cX11_wipe 11 = .ok (.ireturn, 1) := by decide +kernel
def X11_wipe (σ : Mem) : Option (Int × Mem) :=
  lt (σ 111 5) fun l1_1 =>
  lt (st σ 111 5 0) fun s2 =>
  some (l1_1, s2)
def S_X11_wipe_0 (fn : Mem → Option (Int × Mem)) (p : Program) (l : Launch) (e : Env) (R : Room) (s : State) (m : MethodId) (args : Array Value) (below : List Frame) (meth : Method) (c : Code) (G : GT) (τ : Mem) (res : Int) : Prop := ∀ (σ : Mem) (H : Heap) (locs : List Loc) (ls : Array Slot), PW G σ H → va_S (AA G) s.heap H locs → fn σ = some (res, τ) → lv_has ls 2 [(0, .ref (gh G + 111))] → W p l e R s m args below meth c H locs 0 0 (MQ below (QM G (some (.int (i32 res))) τ) args s 0 0 (AA G)) (F0 m 0 ls [])
set_option maxHeartbeats 4000000 in
theorem a_X11_wipe_0 {p : Program} {l : Launch} {e : Env} {R : Room} {s : State} {m : MethodId} {args : Array Value} {below : List Frame} {meth : Method} {c : Code} {G : GT} {τ : Mem} {res : Int} (X : CX p R s m args meth c cX11_wipe 2 RX11 (some FieldType.int) 1 60 G) : S_X11_wipe_0 (X11_wipe) p l e R s m args below meth c G τ res := by
  intro σ H locs ls hP hS hf hl
  unfold X11_wipe at hf
  refine lv_aload_n X.1 X.2.1 dX11_wipe_0 rfl (lv_at hl 0 rfl) ?_
  refine g_11_5 X hP ks_11 (tb t_1092 rfl) dX11_wipe_1 ?_
  obtain ⟨l1_1, el1_1, hf⟩ := lt_inv hf
  refine r_eqi el1_1 ?_
  refine lv_istore_n (lv' := [(1, .int (i32 l1_1)), (0, .ref (gh G + 111))]) X.1 X.2.1 dX11_wipe_4 rfl hl (by decide) rfl (fun ls hl => ?_)
  refine lv_aload_n X.1 X.2.1 dX11_wipe_5 rfl (lv_at hl 1 rfl) ?_
  refine r_iconst X 0 dX11_wipe_6 ?_
  refine p_11_5 X hP hS ks_11 (tb t_1092 rfl) dX11_wipe_7 (fun H locs hP hS => ?_)
  obtain ⟨s2, es2, hf⟩ := lt_inv hf
  rw [es2] at hP
  refine lv_iload_n X.1 X.2.1 dX11_wipe_10 rfl (lv_at hl 0 rfl) ?_
  obtain ⟨rfl, rfl⟩ := so2_inv hf
  exact r_iret X hP hS dX11_wipe_11
set_option maxHeartbeats 4000000 in
theorem c_X11_wipe {l : Launch} {G : GT} {σ τ : Mem} {res : Int} (hf : X11_wipe σ = some (res, τ)) : CT l yX11_wipe cX11_wipe 2 (some FieldType.int) 1 60 G [.ref (gh G + 111)] σ τ (some (.int (i32 res))) := by
  refine CT.mk (own := RX11) (by decide) rfl (Nat.le_of_ble_eq_true rfl) ?_
  intro p e s m below meth c ls X hP hS hl
  have hl : lv_has ls 2 [(0, .ref (gh G + 111))] := hl
  exact a_X11_wipe_0 X σ s.heap [] ls hP hS hf hl
theorem k_X11_wipe {p : Program} {l : Launch} {e : Env} {R : Room} {s : State} {m : MethodId} {args : Array Value} {below : List Frame} {meth : Method} {c : Code} {H : Heap} {locs : List Loc} {Q : State → Prop} {cc : ByteArray} {nL : Nat} {own : String} {ret : Option FieldType} {fF fL : Nat} {G : GT} {pc idx : Nat} {ls : Array Slot} {rest : List Value} {σ τ : Mem} {res : Int} (X : CX p R s m args meth c cc nL own ret fF fL G) (hP : PW G σ H) (hS : va_S (AA G) s.heap H locs) (hls : ls.size = nL) (hf : X11_wipe σ = some (res, τ)) (h1 : Cond.methodLink own idx yX11_wipe ∈ TB) (hR : 1 + 1 ≤ fF ∧ 8 + (2 + 11) + 60 ≤ fL) (hW : (rest.map fun v => v.category).sum ≤ 8) (hd : decode cc pc = .ok (.invokevirtual idx, 3)) (kk : ∀ (H1 : Heap) (locs1 : List Loc), PW G τ H1 → va_S (AA G) s.heap H1 locs1 → W p l e R s m args below meth c H1 locs1 0 0 Q (F0 m (pc + 3) ls (.int (i32 res) :: rest))) : W p l e R s m args below meth c H locs 0 0 Q (F0 m pc ls (.ref (gh G + 111) :: rest)) := r_callV (n := 0) X hP hS hls (c_X11_wipe hf) h1 (tb t_1239 rfl) (tb t_1240 rfl) (tb t_87 rfl) (tb t_1241 rfl) (by decide +kernel) hR (r_recv X hP (kd_lt ks_11 (by decide)) (cE_11 ks_11) rfl) rfl rfl hW hd kk
/-! X11_write -/
theorem dX11_write_0 : decode cX11_write 0 = .ok (.iload_n 1, 1) := by decide +kernel
theorem dX11_write_1 : decode cX11_write 1 = .ok (.invokestatic 338, 3) := by decide +kernel
theorem dX11_write_4 : decode cX11_write 4 = .ok (.ifCond .ne 9, 3) := by decide +kernel
theorem dX11_write_7 : decode cX11_write 7 = .ok (.aload_n 0, 1) := by decide +kernel
theorem dX11_write_8 : decode cX11_write 8 = .ok (.iconst 0, 1) := by decide +kernel
theorem dX11_write_9 : decode cX11_write 9 = .ok (.invokevirtual 122, 3) := by decide +kernel
theorem dX11_write_12 : decode cX11_write 12 = .ok (.ireturn, 1) := by decide +kernel
theorem dX11_write_13 : decode cX11_write 13 = .ok (.aload_n 0, 1) := by decide +kernel
theorem dX11_write_14 : decode cX11_write 14 = .ok (.getfield 77, 3) := by decide +kernel
theorem dX11_write_17 : decode cX11_write 17 = .ok (.iload_n 1, 1) := by decide +kernel
theorem dX11_write_18 : decode cX11_write 18 = .ok (.iaload, 1) := by decide +kernel
theorem dX11_write_19 : decode cX11_write 19 = .ok (.ifCond .ne 9, 3) := by decide +kernel
theorem dX11_write_22 : decode cX11_write 22 = .ok (.aload_n 0, 1) := by decide +kernel
theorem dX11_write_23 : decode cX11_write 23 = .ok (.iconst 5, 1) := by decide +kernel
theorem dX11_write_24 : decode cX11_write 24 = .ok (.invokevirtual 122, 3) := by decide +kernel
theorem dX11_write_27 : decode cX11_write 27 = .ok (.ireturn, 1) := by decide +kernel
theorem dX11_write_28 : decode cX11_write 28 = .ok (.iload_n 2, 1) := by decide +kernel
theorem dX11_write_29 : decode cX11_write 29 = .ok (.i2l, 1) := by decide +kernel
theorem dX11_write_30 : decode cX11_write 30 = .ok (.lconst 0, 1) := by decide +kernel
theorem dX11_write_31 : decode cX11_write 31 = .ok (.aload_n 0, 1) := by decide +kernel
theorem dX11_write_32 : decode cX11_write 32 = .ok (.getfield 80, 3) := by decide +kernel
theorem dX11_write_35 : decode cX11_write 35 = .ok (.iload_n 1, 1) := by decide +kernel
theorem dX11_write_36 : decode cX11_write 36 = .ok (.iaload, 1) := by decide +kernel
theorem dX11_write_37 : decode cX11_write 37 = .ok (.iconst 1, 1) := by decide +kernel
theorem dX11_write_38 : decode cX11_write 38 = .ok (.isub, 1) := by decide +kernel
theorem dX11_write_39 : decode cX11_write 39 = .ok (.i2l, 1) := by decide +kernel
theorem dX11_write_40 : decode cX11_write 40 = .ok (.invokestatic 93, 3) := by decide +kernel
theorem dX11_write_43 : decode cX11_write 43 = .ok (.ifCond .ne 9, 3) := by decide +kernel
theorem dX11_write_46 : decode cX11_write 46 = .ok (.aload_n 0, 1) := by decide +kernel
theorem dX11_write_47 : decode cX11_write 47 = .ok (.iconst 0, 1) := by decide +kernel
theorem dX11_write_48 : decode cX11_write 48 = .ok (.invokevirtual 122, 3) := by decide +kernel
theorem dX11_write_51 : decode cX11_write 51 = .ok (.ireturn, 1) := by decide +kernel
theorem dX11_write_52 : decode cX11_write 52 = .ok (.aload_n 0, 1) := by decide +kernel
theorem dX11_write_53 : decode cX11_write 53 = .ok (.getfield 83, 3) := by decide +kernel
theorem dX11_write_56 : decode cX11_write 56 = .ok (.bipush 40, 2) := by decide +kernel
theorem dX11_write_58 : decode cX11_write 58 = .ok (.iload_n 1, 1) := by decide +kernel
theorem dX11_write_59 : decode cX11_write 59 = .ok (.imul, 1) := by decide +kernel
theorem dX11_write_60 : decode cX11_write 60 = .ok (.iload_n 2, 1) := by decide +kernel
theorem dX11_write_61 : decode cX11_write 61 = .ok (.iadd, 1) := by decide +kernel
theorem dX11_write_62 : decode cX11_write 62 = .ok (.aload_n 0, 1) := by decide +kernel
theorem dX11_write_63 : decode cX11_write 63 = .ok (.getfield 77, 3) := by decide +kernel
theorem dX11_write_66 : decode cX11_write 66 = .ok (.iload_n 1, 1) := by decide +kernel
theorem dX11_write_67 : decode cX11_write 67 = .ok (.iaload, 1) := by decide +kernel
theorem dX11_write_68 : decode cX11_write 68 = .ok (.bipush 8, 2) := by decide +kernel
theorem dX11_write_70 : decode cX11_write 70 = .ok (.if_icmp .ne 8, 3) := by decide +kernel
theorem dX11_write_73 : decode cX11_write 73 = .ok (.iload_n 3, 1) := by decide +kernel
theorem dX11_write_74 : decode cX11_write 74 = .ok (.i2b, 1) := by decide +kernel
theorem dX11_write_75 : decode cX11_write 75 = .ok (.goto 20, 3) := by decide +kernel
theorem dX11_write_78 : decode cX11_write 78 = .ok (.aload_n 0, 1) := by decide +kernel
theorem dX11_write_79 : decode cX11_write 79 = .ok (.getfield 77, 3) := by decide +kernel
theorem dX11_write_82 : decode cX11_write 82 = .ok (.iload_n 1, 1) := by decide +kernel
theorem dX11_write_83 : decode cX11_write 83 = .ok (.iaload, 1) := by decide +kernel
theorem dX11_write_84 : decode cX11_write 84 = .ok (.bipush 16, 2) := by decide +kernel
theorem dX11_write_86 : decode cX11_write 86 = .ok (.if_icmp .ne 8, 3) := by decide +kernel
theorem dX11_write_89 : decode cX11_write 89 = .ok (.iload_n 3, 1) := by decide +kernel
theorem dX11_write_90 : decode cX11_write 90 = .ok (.i2s, 1) := by decide +kernel
theorem dX11_write_91 : decode cX11_write 91 = .ok (.goto 4, 3) := by decide +kernel
theorem dX11_write_94 : decode cX11_write 94 = .ok (.iload_n 3, 1) := by decide +kernel
theorem dX11_write_95 : decode cX11_write 95 = .ok (.iastore, 1) := by decide +kernel
theorem dX11_write_96 : decode cX11_write 96 = .ok (.iconst 1, 1) := by decide +kernel
theorem dX11_write_97 : decode cX11_write 97 = .ok (.ireturn, 1) := by decide +kernel
def X11_write (σ : Mem) (l1 : Int) (l2 : Int) (l3 : Int) : Option (Int × Mem) :=
  bd (X11_isSheet σ l1) fun r1 =>
  if w32 r1 ≠ 0 then
    ag 4 l1 fun j2 =>
    if w32 (σ 134 j2) ≠ 0 then
      ag 4 l1 fun j3 =>
      bd (X11_in σ (w32 l2) 0 (w32 ((σ 135 j3) - 1))) fun r4 =>
      if w32 r4 ≠ 0 then
        ag 4 l1 fun j5 =>
        if w32 (σ 134 j5) ≠ w32 8 then
          ag 4 l1 fun j6 =>
          if w32 (σ 134 j6) ≠ w32 16 then
            ag 160 ((40 * l1) + l2) fun j7 =>
            lt (st σ 136 j7 l3) fun s8 =>
            some (1, s8)
          else
          ag 160 ((40 * l1) + l2) fun j9 =>
          lt (st σ 136 j9 (is16 l3)) fun s10 =>
          some (1, s10)
        else
        ag 160 ((40 * l1) + l2) fun j11 =>
        lt (st σ 136 j11 (ib8 l3)) fun s12 =>
        some (1, s12)
      else
      bd2 (X11_finds σ 0) fun r13 s14 =>
      some (r13, s14)
    else
    bd2 (X11_finds σ 5) fun r15 s16 =>
    some (r15, s16)
  else
  bd2 (X11_finds σ 0) fun r17 s18 =>
  some (r17, s18)
def S_X11_write_0 (fn : Mem → Int → Int → Int → Option (Int × Mem)) (p : Program) (l : Launch) (e : Env) (R : Room) (s : State) (m : MethodId) (args : Array Value) (below : List Frame) (meth : Method) (c : Code) (G : GT) (τ : Mem) (res : Int) : Prop := ∀ (σ : Mem) (H : Heap) (locs : List Loc) (ls : Array Slot) (l1 : Int) (l2 : Int) (l3 : Int), PW G σ H → va_S (AA G) s.heap H locs → fn σ l1 l2 l3 = some (res, τ) → lv_has ls 4 [(0, .ref (gh G + 111)), (1, .int (i32 l1)), (2, .int (i32 l2)), (3, .int (i32 l3))] → W p l e R s m args below meth c H locs 0 0 (MQ below (QM G (some (.int (i32 res))) τ) args s 0 0 (AA G)) (F0 m 0 ls [])
set_option maxHeartbeats 4000000 in
theorem a_X11_write_0 {p : Program} {l : Launch} {e : Env} {R : Room} {s : State} {m : MethodId} {args : Array Value} {below : List Frame} {meth : Method} {c : Code} {G : GT} {τ : Mem} {res : Int} (X : CX p R s m args meth c cX11_write 4 RX11 (some FieldType.int) 3 105 G) : S_X11_write_0 (X11_write) p l e R s m args below meth c G τ res := by
  intro σ H locs ls l1 l2 l3 hP hS hf hl
  unfold X11_write at hf
  refine lv_iload_n X.1 X.2.1 dX11_write_0 rfl (lv_at hl 1 rfl) ?_
  obtain ⟨r1, hr1, hf⟩ := bd_inv hf
  refine k_X11_isSheet X hP hS hl.1  hr1 (tb t_1532 rfl) (by decide) (Nat.le_of_ble_eq_true rfl) dX11_write_1 (fun H locs hP hS => ?_)
  refine r_if_ne (tgt := 13) X dX11_write_4 (by decide) (fun q => ?_) (fun q => ?_)
  · replace hf := it_inv q hf
    refine lv_aload_n X.1 X.2.1 dX11_write_13 rfl (lv_at hl 0 rfl) ?_
    refine g_11_34 (r := 134) X hP ks_11 rfl (tb t_1121 rfl) dX11_write_14 ?_
    refine lv_iload_n X.1 X.2.1 dX11_write_17 rfl (lv_at hl 1 rfl) ?_
    obtain ⟨j2, hij2, hjj2, hlj2, hf⟩ := ag_inv hf
    refine r_iald X hP (ch_11_34 ks_11).1 (ch_11_34 ks_11).2 hij2 hjj2 dX11_write_18 ?_
    refine r_if_ne (tgt := 28) X dX11_write_19 (by decide) (fun q => ?_) (fun q => ?_)
    · replace hf := it_inv q hf
      refine lv_iload_n X.1 X.2.1 dX11_write_28 rfl (lv_at hl 2 rfl) ?_
      refine r_i2l X dX11_write_29 ?_
      refine r_lconst X 0 0 (by decide) dX11_write_30 ?_
      refine lv_aload_n X.1 X.2.1 dX11_write_31 rfl (lv_at hl 0 rfl) ?_
      refine g_11_35 (r := 135) X hP ks_11 rfl (tb t_1122 rfl) dX11_write_32 ?_
      refine lv_iload_n X.1 X.2.1 dX11_write_35 rfl (lv_at hl 1 rfl) ?_
      obtain ⟨j3, hij3, hjj3, hlj3, hf⟩ := ag_inv hf
      refine r_iald X hP (ch_11_35 ks_11).1 (ch_11_35 ks_11).2 hij3 hjj3 dX11_write_36 ?_
      refine r_iconst X 1 dX11_write_37 ?_
      refine r_isub X dX11_write_38 ?_
      refine r_i2l X dX11_write_39 ?_
      obtain ⟨r4, hr4, hf⟩ := bd_inv hf
      refine k_X11_in X hP hS hl.1  hr4 (tb t_1208 rfl) (by decide) (Nat.le_of_ble_eq_true rfl) dX11_write_40 (fun H locs hP hS => ?_)
      refine r_if_ne (tgt := 52) X dX11_write_43 (by decide) (fun q => ?_) (fun q => ?_)
      · replace hf := it_inv q hf
        refine lv_aload_n X.1 X.2.1 dX11_write_52 rfl (lv_at hl 0 rfl) ?_
        refine g_11_36 (r := 136) X hP ks_11 rfl (tb t_1123 rfl) dX11_write_53 ?_
        refine r_bipush X 40 (by decide) dX11_write_56 ?_
        refine lv_iload_n X.1 X.2.1 dX11_write_58 rfl (lv_at hl 1 rfl) ?_
        refine r_imul X dX11_write_59 ?_
        refine lv_iload_n X.1 X.2.1 dX11_write_60 rfl (lv_at hl 2 rfl) ?_
        refine r_iadd X dX11_write_61 ?_
        refine lv_aload_n X.1 X.2.1 dX11_write_62 rfl (lv_at hl 0 rfl) ?_
        refine g_11_34 (r := 134) X hP ks_11 rfl (tb t_1121 rfl) dX11_write_63 ?_
        refine lv_iload_n X.1 X.2.1 dX11_write_66 rfl (lv_at hl 1 rfl) ?_
        obtain ⟨j5, hij5, hjj5, hlj5, hf⟩ := ag_inv hf
        refine r_iald X hP (ch_11_34 ks_11).1 (ch_11_34 ks_11).2 hij5 hjj5 dX11_write_67 ?_
        refine r_bipush X 8 (by decide) dX11_write_68 ?_
        refine r_icmp_ne (tgt := 78) X dX11_write_70 (by decide) (fun q => ?_) (fun q => ?_)
        · replace hf := it_inv q hf
          refine lv_aload_n X.1 X.2.1 dX11_write_78 rfl (lv_at hl 0 rfl) ?_
          refine g_11_34 (r := 134) X hP ks_11 rfl (tb t_1121 rfl) dX11_write_79 ?_
          refine lv_iload_n X.1 X.2.1 dX11_write_82 rfl (lv_at hl 1 rfl) ?_
          obtain ⟨j6, hij6, hjj6, hlj6, hf⟩ := ag_inv hf
          refine r_iald X hP (ch_11_34 ks_11).1 (ch_11_34 ks_11).2 hij6 hjj6 dX11_write_83 ?_
          refine r_bipush X 16 (by decide) dX11_write_84 ?_
          refine r_icmp_ne (tgt := 94) X dX11_write_86 (by decide) (fun q => ?_) (fun q => ?_)
          · replace hf := it_inv q hf
            refine lv_iload_n X.1 X.2.1 dX11_write_94 rfl (lv_at hl 3 rfl) ?_
            obtain ⟨j7, hij7, hjj7, hlj7, hf⟩ := ag_inv hf
            refine r_iast X hP hS (ch_11_36 ks_11).1 (ch_11_36 ks_11).2 hij7 hjj7 dX11_write_95 (fun H locs hP hS => ?_)
            obtain ⟨s8, es8, hf⟩ := lt_inv hf
            rw [es8] at hP
            refine r_iconst X 1 dX11_write_96 ?_
            obtain ⟨rfl, rfl⟩ := so2_inv hf
            exact r_iret X hP hS dX11_write_97
          · replace hf := ie_inv q hf
            refine lv_iload_n X.1 X.2.1 dX11_write_89 rfl (lv_at hl 3 rfl) ?_
            refine r_i2s X dX11_write_90 ?_
            refine lv_goto (tgt := 95) X.1 X.2.1 dX11_write_91 (by decide) ?_
            obtain ⟨j9, hij9, hjj9, hlj9, hf⟩ := ag_inv hf
            refine r_iast X hP hS (ch_11_36 ks_11).1 (ch_11_36 ks_11).2 hij9 hjj9 dX11_write_95 (fun H locs hP hS => ?_)
            obtain ⟨s10, es10, hf⟩ := lt_inv hf
            rw [es10] at hP
            refine r_iconst X 1 dX11_write_96 ?_
            obtain ⟨rfl, rfl⟩ := so2_inv hf
            exact r_iret X hP hS dX11_write_97
        · replace hf := ie_inv q hf
          refine lv_iload_n X.1 X.2.1 dX11_write_73 rfl (lv_at hl 3 rfl) ?_
          refine r_i2b X dX11_write_74 ?_
          refine lv_goto (tgt := 95) X.1 X.2.1 dX11_write_75 (by decide) ?_
          obtain ⟨j11, hij11, hjj11, hlj11, hf⟩ := ag_inv hf
          refine r_iast X hP hS (ch_11_36 ks_11).1 (ch_11_36 ks_11).2 hij11 hjj11 dX11_write_95 (fun H locs hP hS => ?_)
          obtain ⟨s12, es12, hf⟩ := lt_inv hf
          rw [es12] at hP
          refine r_iconst X 1 dX11_write_96 ?_
          obtain ⟨rfl, rfl⟩ := so2_inv hf
          exact r_iret X hP hS dX11_write_97
      · replace hf := ie_inv q hf
        refine lv_aload_n X.1 X.2.1 dX11_write_46 rfl (lv_at hl 0 rfl) ?_
        refine r_iconst X 0 dX11_write_47 ?_
        obtain ⟨r13, s14, hr13, hf⟩ := bd2_inv hf
        refine k_X11_finds X hP hS hl.1  hr13 (tb t_1219 rfl) (by decide) (Nat.le_of_ble_eq_true rfl) dX11_write_48 (fun H locs hP hS => ?_)
        obtain ⟨rfl, rfl⟩ := so2_inv hf
        exact r_iret X hP hS dX11_write_51
    · replace hf := ie_inv q hf
      refine lv_aload_n X.1 X.2.1 dX11_write_22 rfl (lv_at hl 0 rfl) ?_
      refine r_iconst X 5 dX11_write_23 ?_
      obtain ⟨r15, s16, hr15, hf⟩ := bd2_inv hf
      refine k_X11_finds X hP hS hl.1  hr15 (tb t_1219 rfl) (by decide) (Nat.le_of_ble_eq_true rfl) dX11_write_24 (fun H locs hP hS => ?_)
      obtain ⟨rfl, rfl⟩ := so2_inv hf
      exact r_iret X hP hS dX11_write_27
  · replace hf := ie_inv q hf
    refine lv_aload_n X.1 X.2.1 dX11_write_7 rfl (lv_at hl 0 rfl) ?_
    refine r_iconst X 0 dX11_write_8 ?_
    obtain ⟨r17, s18, hr17, hf⟩ := bd2_inv hf
    refine k_X11_finds X hP hS hl.1  hr17 (tb t_1219 rfl) (by decide) (Nat.le_of_ble_eq_true rfl) dX11_write_9 (fun H locs hP hS => ?_)
    obtain ⟨rfl, rfl⟩ := so2_inv hf
    exact r_iret X hP hS dX11_write_12
set_option maxHeartbeats 4000000 in
theorem c_X11_write {l : Launch} {G : GT} {σ τ : Mem} {res : Int} {l1 : Int} {l2 : Int} {l3 : Int} (hf : X11_write σ l1 l2 l3 = some (res, τ)) : CT l yX11_write cX11_write 4 (some FieldType.int) 3 105 G [.ref (gh G + 111), .int (i32 l1), .int (i32 l2), .int (i32 l3)] σ τ (some (.int (i32 res))) := by
  refine CT.mk (own := RX11) (by decide) rfl (Nat.le_of_ble_eq_true rfl) ?_
  intro p e s m below meth c ls X hP hS hl
  have hl : lv_has ls 4 [(0, .ref (gh G + 111)), (1, .int (i32 l1)), (2, .int (i32 l2)), (3, .int (i32 l3))] := hl
  exact a_X11_write_0 X σ s.heap [] ls l1 l2 l3 hP hS hf hl
theorem k_X11_write {p : Program} {l : Launch} {e : Env} {R : Room} {s : State} {m : MethodId} {args : Array Value} {below : List Frame} {meth : Method} {c : Code} {H : Heap} {locs : List Loc} {Q : State → Prop} {cc : ByteArray} {nL : Nat} {own : String} {ret : Option FieldType} {fF fL : Nat} {G : GT} {pc idx : Nat} {ls : Array Slot} {rest : List Value} {σ τ : Mem} {res : Int} {l1 : Int} {l2 : Int} {l3 : Int} (X : CX p R s m args meth c cc nL own ret fF fL G) (hP : PW G σ H) (hS : va_S (AA G) s.heap H locs) (hls : ls.size = nL) (hf : X11_write σ l1 l2 l3 = some (res, τ)) (h1 : Cond.methodLink own idx yX11_write ∈ TB) (hR : 3 + 1 ≤ fF ∧ 8 + (4 + 11) + 105 ≤ fL) (hW : (rest.map fun v => v.category).sum ≤ 8) (hd : decode cc pc = .ok (.invokevirtual idx, 3)) (kk : ∀ (H1 : Heap) (locs1 : List Loc), PW G τ H1 → va_S (AA G) s.heap H1 locs1 → W p l e R s m args below meth c H1 locs1 0 0 Q (F0 m (pc + 3) ls (.int (i32 res) :: rest))) : W p l e R s m args below meth c H locs 0 0 Q (F0 m pc ls (.int (i32 l3) :: .int (i32 l2) :: .int (i32 l1) :: .ref (gh G + 111) :: rest)) := r_callV (n := 3) X hP hS hls (c_X11_write hf) h1 (tb t_1536 rfl) (tb t_1537 rfl) (tb t_87 rfl) (tb t_1538 rfl) (by decide +kernel) hR (r_recv X hP (kd_lt ks_11 (by decide)) (cE_11 ks_11) rfl) rfl rfl hW hd kk
