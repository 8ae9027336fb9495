/-! THE CLAIM OUT OF ONE WALK OF THE LAW'S BODY. Your part is whole_start (and what it stands on); all else here is the same for every law, but numbers. -/
def R_law : String := "PageTurnsLaw"
def lw_P (b : Addr) (xs : List Int32) (args : Array Value) (s : State) : Prop := args = #[.ref b] ∧ s.IntsAt b xs ∧ xs.length ≤ 384 ∧ (Jvm.Cond.and given_1 narrow_1).before args s = true
def lw_Q (_ : Array Value) (s : State) (o : Outcome) (t : State) : Prop := o = .returned (some (.int 1)) ∧ Framed s o t [] 600000 7302250
def lw_Z (below : List Frame) (a : Array Value) (s : State) : State → Prop := fun t => ∃ o, t.status = .running ∧ Ended t below o ∧ lw_Q a s o t
/-- the law's own end, with 1 on the stack, nothing written that was there before, its room as the claim has it -/
theorem lw_ret {p : Program} {l : Launch} {e : Env} {s : State} {m : MethodId} {below : List Frame} {meth : Method} {c : Code} {b : Nat} (hx : p.tables.exec = Jvm.exec) (hb : c.code = code) (hr : meth.sig.returnType = ret) (hlocks : meth.locks = false) {pc : Nat} {H : Heap} {ls : Array Slot} (hdg : decode code pc = .ok (.ireturn, 1)) : W p l e room_1 s m #[Value.ref b] below meth c H [] 600000 7302250 (lw_Z below #[Value.ref b] s) (F0 m pc ls [.int 1]) := by
  intro T hT X
  obtain ⟨fs, hret, hrun, hended, hW, hframe⟩ := X.leave (v := some (.int 1)) (hlocks := hlocks) (fun h => by rw [hr] at h; cases h)
  have hmeth' : T.vm.method? m = some meth := X.method'
  refine ⟨T.setFrames fs, ?_, .returned (some (.int 1)), hrun, hended, rfl, ⟨_, rfl⟩, hW, hframe⟩
  jvm_step X.here [X.here.top, hx, hb, hdg, hmeth', hr, ret, narrow_b1]
  (try refine ⟨rfl, ?_⟩); (try refine ⟨rfl, ?_⟩)
  first | (intro acts; rw [hret _ acts rfl rfl rfl]) | rw [hret _ _ rfl rfl rfl]
  exact Steps.refl _
/-- what holds at the law's entry: the machine, the code, the tables' words (any of lw_tbl by 'hts w (by decide +kernel)'), the script of L ints xs at the cell b, what the Statement gives of the start (any of its parts by flat_of_before) -/
def lw_At (p : Program) (s : State) (m : MethodId) (meth : Method) (c : Code) (b L : Nat) (xs : Nat → Int32) : Prop :=
  p.tables.exec = Jvm.exec ∧ c.code = code ∧ meth.sig.returnType = ret ∧ c.maxLocals = 4 ∧ s.vm.findClass R_law = some m.cls ∧ (∀ w ∈ lw_tbl, w.before #[Value.ref b] s = true) ∧ va_X b L xs s s.heap ∧ b < s.heap.size ∧ meth.locks = false ∧ (Jvm.Cond.and given_1 narrow_1).before #[Value.ref b] s = true
def inR (x : Int) : Prop := -2147483648 ≤ x ∧ x < 2147483648
theorem inR_w {x : Int} (h : inR x) : w32 x = x := w32_id h.1 h.2
def ax (xs : Nat → Int32) (j : Nat) : Int := (xs j).toInt
theorem ax_in (xs : Nat → Int32) (j : Nat) : inR (ax xs j) := ⟨Int32.le_toInt _, Int32.toInt_lt _⟩
def Step0 (Inv : Mem → Prop) (σ : Mem) : Prop := (∀ a b c : Int, inR a → inR b → inR c → ∃ (r : Int) (σ1 σ2 : Mem), X10_set σ a b c = some (r, σ1) ∧ X11_set σ1 a b c = some (r, σ2) ∧ Inv σ2)
def Step1 (Inv : Mem → Prop) (σ : Mem) : Prop := (∀ a b : Int, inR a → inR b → ∃ (r : Int) (σ1 σ2 : Mem), X10_rule σ a b = some (r, σ1) ∧ X11_rule σ1 a b = some (r, σ2) ∧ Inv σ2)
def Step2 (Inv : Mem → Prop) (σ : Mem) : Prop := (∀ a b : Int, inR a → inR b → ∃ (r : Int) (σ1 σ2 : Mem), X10_feed σ a b = some (r, σ1) ∧ X11_feed σ1 a b = some (r, σ2) ∧ Inv σ2)
def Step3 (Inv : Mem → Prop) (σ : Mem) : Prop := (∃ (r : Int) (σ1 σ2 : Mem), X10_wipe σ = some (r, σ1) ∧ X11_wipe σ1 = some (r, σ2) ∧ Inv σ2)
def Step4 (Inv : Mem → Prop) (σ : Mem) : Prop := (∀ a : Int, inR a → ∃ (r : Int) (σ1 σ2 : Mem), X10_read σ a = some (r, σ1) ∧ X11_read σ1 a = some (r, σ2) ∧ Inv σ2)
def Step5 (Inv : Mem → Prop) (σ : Mem) : Prop := (∀ a b c : Int, inR a → inR b → inR c → ∃ (r : Int) (σ1 σ2 : Mem), X10_bar σ a b c = some (r, σ1) ∧ X11_bar σ1 a b c = some (r, σ2) ∧ Inv σ2)
def Step6 (Inv : Mem → Prop) (σ : Mem) : Prop := (∀ a b c d : Int, inR a → inR b → inR c → inR d → ∃ (r : Int) (σ1 σ2 : Mem), X10_change σ a b c d = some (r, σ1) ∧ X11_change σ1 a b c d = some (r, σ2) ∧ Inv σ2)
def Step7 (Inv : Mem → Prop) (σ : Mem) : Prop := (∀ a b c : Int, inR a → inR b → inR c → ∃ (r : Int) (σ1 σ2 : Mem), X10_cut σ a b c = some (r, σ1) ∧ X11_cut σ1 a b c = some (r, σ2) ∧ Inv σ2)
def Step8 (Inv : Mem → Prop) (σ : Mem) : Prop := (∀ a b c : Int, inR a → inR b → inR c → ∃ (r : Int) (σ1 σ2 : Mem), X10_free σ a b c = some (r, σ1) ∧ X11_free_ σ1 a b c = some (r, σ2) ∧ Inv σ2)
def Step9 (Inv : Mem → Prop) (σ : Mem) : Prop := (∀ a b c : Int, inR a → inR b → inR c → ∃ (r : Int) (σ1 σ2 : Mem), X10_room σ a b c = some (r, σ1) ∧ X11_room_ σ1 a b c = some (r, σ2) ∧ Inv σ2)
def Step10 (Inv : Mem → Prop) (σ : Mem) : Prop := (∀ a b c d : Int, inR a → inR b → inR c → inR d → ∃ (r : Int) (σ1 σ2 : Mem), X10_line σ a b c d = some (r, σ1) ∧ X11_line σ1 a b c d = some (r, σ2) ∧ Inv σ2)
def Step11 (Inv : Mem → Prop) (σ : Mem) : Prop := (∀ a b c d : Int, inR a → inR b → inR c → inR d → ∃ (r : Int) (σ1 σ2 : Mem), X10_page σ a b c d = some (r, σ1) ∧ X11_page σ1 a b c d = some (r, σ2) ∧ Inv σ2)
def Step12 (Inv : Mem → Prop) (σ : Mem) : Prop := (∀ a b : Int, inR a → inR b → ∃ (r : Int) (σ1 σ2 : Mem), X10_best σ a b = some (r, σ1) ∧ X11_best σ1 a b = some (r, σ2) ∧ Inv σ2)
def Step13 (Inv : Mem → Prop) (σ : Mem) : Prop := (∀ a b c : Int, inR a → inR b → inR c → ∃ (r : Int) (σ1 σ2 : Mem), X10_laid σ a b c = some (r, σ1) ∧ X11_laid σ1 a b c = some (r, σ2) ∧ Inv σ2)
def Step14 (Inv : Mem → Prop) (σ : Mem) : Prop := (∀ a b : Int, inR a → inR b → ∃ (r : Int) (σ1 σ2 : Mem), X10_ends σ a b = some (r, σ1) ∧ X11_ends σ1 a b = some (r, σ2) ∧ Inv σ2)
def Step15 (Inv : Mem → Prop) (σ : Mem) : Prop := (∀ a b : Int, inR a → inR b → ∃ (r : Int) (σ1 σ2 : Mem), X10_stop σ a b = some (r, σ1) ∧ X11_stop σ1 a b = some (r, σ2) ∧ Inv σ2)
def Step16 (Inv : Mem → Prop) (σ : Mem) : Prop := (∀ a : Int, inR a → ∃ (r : Int) (σ1 σ2 : Mem), X10_hearts σ a = some (r, σ1) ∧ X11_hearts σ1 a = some (r, σ2) ∧ Inv σ2)
def Step17 (Inv : Mem → Prop) (σ : Mem) : Prop := (∀ a : Int, inR a → ∃ (r : Int) (σ1 σ2 : Mem), X10_folds σ a = some (r, σ1) ∧ X11_folds σ1 a = some (r, σ2) ∧ Inv σ2)
def Step18 (Inv : Mem → Prop) (σ : Mem) : Prop := (∀ a : Int, inR a → ∃ (r : Int) (σ1 σ2 : Mem), X10_needs σ a = some (r, σ1) ∧ X11_needs σ1 a = some (r, σ2) ∧ Inv σ2)
def Step19 (Inv : Mem → Prop) (σ : Mem) : Prop := (∀ a b : Int, inR a → inR b → ∃ (r : Int) (σ1 σ2 : Mem), X10_together σ a b = some (r, σ1) ∧ X11_together σ1 a b = some (r, σ2) ∧ Inv σ2)
def Step20 (Inv : Mem → Prop) (σ : Mem) : Prop := (∀ a : Int, inR a → ∃ (r : Int) (σ1 σ2 : Mem), X10_all σ a = some (r, σ1) ∧ X11_all σ1 a = some (r, σ2) ∧ Inv σ2)
def Step21 (Inv : Mem → Prop) (σ : Mem) : Prop := (∀ a b c : Int, inR a → inR b → inR c → ∃ (r : Int) (σ1 σ2 : Mem), X10_lay σ a b c = some (r, σ1) ∧ X11_lay σ1 a b c = some (r, σ2) ∧ Inv σ2)
def Step22 (Inv : Mem → Prop) (σ : Mem) : Prop := (∀ a b : Int, inR a → inR b → ∃ (r : Int) (σ1 σ2 : Mem), X10_breakOf σ a b = some (r, σ1) ∧ X11_breakOf σ1 a b = some (r, σ2) ∧ Inv σ2)
def Step23 (Inv : Mem → Prop) (σ : Mem) : Prop := (∀ a : Int, inR a → ∃ (r : Int) (σ1 σ2 : Mem), X10_clear σ a = some (r, σ1) ∧ X11_clear σ1 a = some (r, σ2) ∧ Inv σ2)
def Step24 (Inv : Mem → Prop) (σ : Mem) : Prop := (∀ a : Int, inR a → ∃ (r : Int) (σ1 σ2 : Mem), X10_price σ a = some (r, σ1) ∧ X11_price σ1 a = some (r, σ2) ∧ Inv σ2)
def Step25 (Inv : Mem → Prop) (σ : Mem) : Prop := (∀ a : Int, inR a → ∃ (r : Int) (σ1 σ2 : Mem), X10_judge σ a = some (r, σ1) ∧ X11_judge σ1 a = some (r, σ2) ∧ Inv σ2)
def Step26 (Inv : Mem → Prop) (σ : Mem) : Prop := (∀ a b : Int, inR a → inR b → ∃ (r : Int) (σ1 σ2 : Mem), X10_hold σ a b = some (r, σ1) ∧ X11_hold σ1 a b = some (r, σ2) ∧ Inv σ2)
def Step27 (Inv : Mem → Prop) (σ : Mem) : Prop := (∀ a b : Int, inR a → inR b → ∃ (r : Int) (σ1 σ2 : Mem), X10_as σ a b = some (r, σ1) ∧ X11_as σ1 a b = some (r, σ2) ∧ Inv σ2)
def Step28 (Inv : Mem → Prop) (σ : Mem) : Prop := (∀ a b c : Int, inR a → inR b → inR c → ∃ (r : Int) (σ1 σ2 : Mem), X10_sheet σ a b c = some (r, σ1) ∧ X11_sheet σ1 a b c = some (r, σ2) ∧ Inv σ2)
def Step29 (Inv : Mem → Prop) (σ : Mem) : Prop := (∀ a b c : Int, inR a → inR b → inR c → ∃ (r : Int) (σ1 σ2 : Mem), X10_write σ a b c = some (r, σ1) ∧ X11_write σ1 a b c = some (r, σ2) ∧ Inv σ2)
def Step30 (Inv : Mem → Prop) (σ : Mem) : Prop := (∀ a b c d g : Int, inR a → inR b → inR c → inR d → inR g → ∃ (r : Int) (σ1 σ2 : Mem), X10_copy σ a b c d g = some (r, σ1) ∧ X11_copy σ1 a b c d g = some (r, σ2) ∧ Inv σ2)
def Step31 (Inv : Mem → Prop) (σ : Mem) : Prop := (∀ a b : Int, inR a → inR b → ∃ (r : Int) (σ1 σ2 : Mem), X10_rooms σ a b = some (r, σ1) ∧ X11_rooms_ σ1 a b = some (r, σ2) ∧ Inv σ2)
def Step32 (Inv : Mem → Prop) (σ : Mem) : Prop := (∀ a b : Int, inR a → inR b → ∃ (r : Int) (σ1 σ2 : Mem), X10_pages σ a b = some (r, σ1) ∧ X11_pages σ1 a b = some (r, σ2) ∧ Inv σ2)
def Step33 (Inv : Mem → Prop) (σ : Mem) : Prop := (∃ (r : Int) (σ1 σ2 : Mem), X10_image σ = some (r, σ1) ∧ X11_image σ1 = some (r, σ2) ∧ Inv σ2)
def Step34 (Inv : Mem → Prop) (σ : Mem) : Prop := (∃ (r : Int) (σ1 σ2 : Mem), X10_undo σ = some (r, σ1) ∧ X11_undo σ1 = some (r, σ2) ∧ Inv σ2)
def Step35 (Inv : Mem → Prop) (σ : Mem) : Prop := (∃ (r : Int) (σ1 σ2 : Mem), X10_tear σ = some (r, σ1) ∧ X11_tear σ1 = some (r, σ2) ∧ Inv σ2)
def Step36 (Inv : Mem → Prop) (σ : Mem) : Prop := (∀ a : Int, inR a → ∃ (r : Int) (σ1 σ2 : Mem), X10_count σ a = some (r, σ1) ∧ X11_count σ1 a = some (r, σ2) ∧ Inv σ2)
def Step37 (Inv : Mem → Prop) (σ : Mem) : Prop := (∀ a : Int, inR a → ∃ (r : Int) (σ1 σ2 : Mem), X10_status σ a = some (r, σ1) ∧ X11_status σ1 a = some (r, σ2) ∧ Inv σ2)
def StepsOk (Inv : Mem → Prop) : Prop := Inv z0 ∧ ∀ σ, Inv σ → Step0 Inv σ ∧ Step1 Inv σ ∧ Step2 Inv σ ∧ Step3 Inv σ ∧ Step4 Inv σ ∧ Step5 Inv σ ∧ Step6 Inv σ ∧ Step7 Inv σ ∧ Step8 Inv σ ∧ Step9 Inv σ ∧ Step10 Inv σ ∧ Step11 Inv σ ∧ Step12 Inv σ ∧ Step13 Inv σ ∧ Step14 Inv σ ∧ Step15 Inv σ ∧ Step16 Inv σ ∧ Step17 Inv σ ∧ Step18 Inv σ ∧ Step19 Inv σ ∧ Step20 Inv σ ∧ Step21 Inv σ ∧ Step22 Inv σ ∧ Step23 Inv σ ∧ Step24 Inv σ ∧ Step25 Inv σ ∧ Step26 Inv σ ∧ Step27 Inv σ ∧ Step28 Inv σ ∧ Step29 Inv σ ∧ Step30 Inv σ ∧ Step31 Inv σ ∧ Step32 Inv σ ∧ Step33 Inv σ ∧ Step34 Inv σ ∧ Step35 Inv σ ∧ Step36 Inv σ ∧ Step37 Inv σ
section LawRows
variable {p : Program} {l : Launch} {e : Env} {R : Room} {s : State} {m : MethodId} {args : Array Value} {below : List Frame} {meth : Method} {c : Code} {H : Heap} {locs : List Loc} {cells slots : Nat} {Q : State → Prop}
variable {cc : ByteArray} {nL : Nat} {own : String} {ret : Option FieldType} {fF fL : Nat} {G : GT} {pc : Nat} {ls : Array Slot} {rest : List Value} {σ : Mem}
theorem l_call {v : Option Value} {τ : Mem} {a : Array Value} {st0 : List Value} (hr : va_Run p l e R s m args below meth c H locs cells slots 0 0 (F0 m pc ls st0) rest (QM G v τ a) (AA G)) (hS : va_S (AA G) s.heap H locs) (kk : ∀ (H1 : Heap) (locs1 : List Loc), PW G τ H1 → va_S (AA G) s.heap H1 locs1 → W p l e R s m args below meth c H1 locs1 cells slots Q (F0 m (pc + 3) ls (v.toList ++ rest))) : W p l e R s m args below meth c H locs cells slots Q (F0 m (pc) ls (st0)) := by
  intro T hT X
  obtain ⟨v', st₀, t, T', L, h0, X', hL, e1, e2, ⟨hv, hP1, hz, hk⟩, hst⟩ := hr T hT X
  cases hv
  rw [h0] at hz hk
  obtain ⟨t2, a1, b1⟩ := kk T'.heap (locs ++ L) (by rw [e1]; exact hP1) ⟨Nat.le_trans hS.1 (by rw [e1]; exact hz), fun q h1 h2 => by rw [e1, hk q (Nat.lt_of_lt_of_le h1 hS.1) h2]; exact hS.2.1 q h1 h2, fun q hq => by
      rcases List.mem_append.mp hq with h | h
      · exact hS.2.2 q h
      · exact hL q h⟩ T' rfl X'
  exact ⟨t2, hst t2 a1, b1⟩
theorem l_callV (X : CX p R s m args meth c cc nL own ret fF fL G) (hP : PW G σ H) (hS : va_S (AA G) s.heap H locs) (hls : ls.size = nL) {y : MethodName} {cc' : ByteArray} {nL' f' l' idx n b : Nat} {ret' : Option FieldType} {C : String} {As : List Value} {τ : Mem} {v : Option Value} (hM : CT l y cc' nL' ret' f' l' G (.ref b :: As) σ τ v) (h1 : Cond.methodLink own idx y ∈ TB) (h2 : Cond.instanceMethod y ∈ TB) (h3 : Cond.selects C y y ∈ TB) (h4 : Cond.initialized C ∈ TB) (h5 : Cond.code y cc' nL' ret' ∈ TB) (hy : y.cls = C ∧ y.cls ≠ "java/lang/invoke/MethodHandle" ∧ y.cls ≠ "java/lang/invoke/VarHandle" ∧ (parseMethodDescriptor y.desc).map (fun d => d.parameters.length) = some n) (hR : f' + 1 ≤ fF ∧ 8 + (nL' + 11) + l' ≤ fL) (hrecv : ∃ cellB : Cell, H[b]? = some cellB ∧ cellB.vm.isStatics = false ∧ s.vm.findClass C = some cellB.cls) (hn : As.length = n) {st0 : List Value} (hst : st0 = As.reverse ++ .ref b :: rest) (hW : (rest.map fun v => v.category).sum ≤ 8) (hd : decode cc pc = .ok (.invokevirtual idx, 3)) (hcs : cells ≤ R.cells ∧ slots ≤ R.slots) (kk : ∀ (H1 : Heap) (locs1 : List Loc), PW G τ H1 → va_S (AA G) s.heap H1 locs1 → W p l e R s m args below meth c H1 locs1 cells slots Q (F0 m (pc + 3) ls (v.toList ++ rest))) : W p l e R s m args below meth c H locs cells slots Q (F0 m (pc) ls (st0)) := by
  refine l_call (va_runV (As := As) (rest := rest) (Ts := TB) ⟨X.1, X.2.1, X.2.2.1, X.ow, X.ts⟩ hM (cwV n X.ts (goodIn_s ?_ (TB_self h5)) rfl rfl rfl hy ⟨Nat.le_trans hR.1 X.2.2.2.2.2.2.2.1.1, Nat.le_trans hR.2 X.2.2.2.2.2.2.2.1.2⟩) ⟨pc_blind, hrecv, pc_at X.S hP hS⟩ rfl hn hls hst (lv_room hW) hd ⟨hcs.1, hcs.2⟩) hS kk
  intro w hw
  simp only [List.mem_cons, List.not_mem_nil, or_false] at hw
  rcases hw with rfl | rfl | rfl | rfl
  · exact ⟨h1, TB_good h1⟩
  · exact ⟨h2, TB_good h2⟩
  · exact ⟨h3, TB_good h3⟩
  · exact ⟨h4, TB_good h4⟩
theorem l_ld (X : CX p R s m args meth c cc nL own ret fF fL G) {b L : Nat} {xs : Nat → Int32} (hX : va_X b L xs s s.heap) (hbl : b < s.heap.size) (hgh : gh G = s.heap.size) (hS : va_S (AA G) s.heap H locs) {x : Int32} {j : Nat} (hx : x = i32 (j : Int)) (hj : j < L) (hL : L ≤ 384) (hd : decode cc pc = .ok (.iaload, 1)) (kk : W p l e R s m args below meth c H locs (cells) (slots) Q (F0 m (pc + 1) ls (.int (i32 (ax xs j)) :: rest))) : W p l e R s m args below meth c H locs (cells) (slots) Q (F0 m (pc) ls (.int x :: .ref b :: rest)) := by
  have hw : w32 (j : Int) = (j : Int) := w32_id (by omega) (by omega)
  subst hx
  refine va_sld (A := AA G) X.1 X.2.1 hX hbl (by show ¬ gh G ≤ b; omega) hS (i32_in.mpr (by rw [hw]; omega)) hd ?_
  rw [i32_nat, hw]
  have kk2 := kk
  unfold ax at kk2
  rw [i32_of] at kk2
  exact kk2
end LawRows
set_option maxHeartbeats 4000000 in
theorem law_case_0 {p : Program} {l : Launch} {e : Env} {s : State} {m : MethodId} {below : List Frame} {meth : Method} {c : Code} {G : GT} {b L : Nat} {xs : Nat → Int32} {Inv : Mem → Prop} (X : CX p room_1 s m #[Value.ref b] meth c code 4 RL ret 2048 84000 G) (hX : va_X b L xs s s.heap) (hbl : b < s.heap.size) (hgh : gh G = s.heap.size) (hL : L ≤ 384) {t : Nat} (ht : 6 * t + 6 ≤ L) (next : ∀ (σ : Mem) (H : Heap) (locs : List Loc) (ls : Array Slot), PW G σ H → Inv σ → va_S (AA G) s.heap H locs → lv_has ls 4 [(3, .int (i32 ((6 * (t + 1) : Nat) : Int))), (0, .ref b), (1, .ref (gh G + 0)), (2, .ref (gh G + 111))] → W p l e room_1 s m #[Value.ref b] below meth c H locs 137 33782 (lw_Z below #[Value.ref b] s) (F0 m 18 ls [])) {σ : Mem} {H : Heap} {locs : List Loc} {ls : Array Slot} (hP : PW G σ H) (hstep : Step0 Inv σ) (hS : va_S (AA G) s.heap H locs) (hl : lv_has ls 4 [(3, .int (i32 ((6 * t : Nat) : Int))), (0, .ref b), (1, .ref (gh G + 0)), (2, .ref (gh G + 111))]) : W p l e room_1 s m #[Value.ref b] below meth c H locs 137 33782 (lw_Z below #[Value.ref b] s) (F0 m 200 ls []) := by
  obtain ⟨r, σ1, σ2, hf1, hf2, hI⟩ := hstep (ax xs (6 * t + 1)) (ax xs (6 * t + 2)) (ax xs (6 * t + 3)) (ax_in xs _) (ax_in xs _) (ax_in xs _)
  refine lv_aload_n X.1 X.2.1 dL_law_200 rfl (lv_at hl 2 rfl) ?_
  refine lv_aload_n X.1 X.2.1 dL_law_201 rfl (lv_at hl 1 rfl) ?_
  refine lv_iload_n X.1 X.2.1 dL_law_202 rfl (lv_at hl 0 rfl) ?_
  refine lv_iconst (v := i32 1) X.1 X.2.1 dL_law_203 rfl ?_
  refine lv_iadd X.1 X.2.1 dL_law_204 ?_
  refine l_ld (j := 6 * t + 1) X hX hbl hgh hS (i32_add _ _) (by omega) hL dL_law_205 ?_
  refine lv_aload_n X.1 X.2.1 dL_law_206 rfl (lv_at hl 1 rfl) ?_
  refine lv_iload_n X.1 X.2.1 dL_law_207 rfl (lv_at hl 0 rfl) ?_
  refine lv_iconst (v := i32 2) X.1 X.2.1 dL_law_208 rfl ?_
  refine lv_iadd X.1 X.2.1 dL_law_209 ?_
  refine l_ld (j := 6 * t + 2) X hX hbl hgh hS (i32_add _ _) (by omega) hL dL_law_210 ?_
  refine lv_aload_n X.1 X.2.1 dL_law_211 rfl (lv_at hl 1 rfl) ?_
  refine lv_iload_n X.1 X.2.1 dL_law_212 rfl (lv_at hl 0 rfl) ?_
  refine lv_iconst (v := i32 3) X.1 X.2.1 dL_law_213 rfl ?_
  refine lv_iadd X.1 X.2.1 dL_law_214 ?_
  refine l_ld (j := 6 * t + 3) X hX hbl hgh hS (i32_add _ _) (by omega) hL dL_law_215 ?_
  refine l_callV (n := 3) (As := [.int (i32 (ax xs (6 * t + 1))), .int (i32 (ax xs (6 * t + 2))), .int (i32 (ax xs (6 * t + 3)))]) X hP hS hl.1 (c_X10_set hf1) (tb t_416 rfl) (tb t_417 rfl) (tb t_418 rfl) (tb t_75 rfl) (tb t_419 rfl) (by decide +kernel) ⟨Nat.le_of_ble_eq_true rfl, Nat.le_of_ble_eq_true rfl⟩ (r_recv X hP (kd_lt ks_10 (by decide)) (cE_10 ks_10) rfl) rfl rfl (Nat.le_of_ble_eq_true rfl) dL_law_216 ⟨Nat.le_of_ble_eq_true rfl, Nat.le_of_ble_eq_true rfl⟩ (fun H locs hP hS => ?_)
  refine lv_aload_n X.1 X.2.1 dL_law_219 rfl (lv_at hl 3 rfl) ?_
  refine lv_aload_n X.1 X.2.1 dL_law_220 rfl (lv_at hl 1 rfl) ?_
  refine lv_iload_n X.1 X.2.1 dL_law_221 rfl (lv_at hl 0 rfl) ?_
  refine lv_iconst (v := i32 1) X.1 X.2.1 dL_law_222 rfl ?_
  refine lv_iadd X.1 X.2.1 dL_law_223 ?_
  refine l_ld (j := 6 * t + 1) X hX hbl hgh hS (i32_add _ _) (by omega) hL dL_law_224 ?_
  refine lv_aload_n X.1 X.2.1 dL_law_225 rfl (lv_at hl 1 rfl) ?_
  refine lv_iload_n X.1 X.2.1 dL_law_226 rfl (lv_at hl 0 rfl) ?_
  refine lv_iconst (v := i32 2) X.1 X.2.1 dL_law_227 rfl ?_
  refine lv_iadd X.1 X.2.1 dL_law_228 ?_
  refine l_ld (j := 6 * t + 2) X hX hbl hgh hS (i32_add _ _) (by omega) hL dL_law_229 ?_
  refine lv_aload_n X.1 X.2.1 dL_law_230 rfl (lv_at hl 1 rfl) ?_
  refine lv_iload_n X.1 X.2.1 dL_law_231 rfl (lv_at hl 0 rfl) ?_
  refine lv_iconst (v := i32 3) X.1 X.2.1 dL_law_232 rfl ?_
  refine lv_iadd X.1 X.2.1 dL_law_233 ?_
  refine l_ld (j := 6 * t + 3) X hX hbl hgh hS (i32_add _ _) (by omega) hL dL_law_234 ?_
  refine l_callV (n := 3) (As := [.int (i32 (ax xs (6 * t + 1))), .int (i32 (ax xs (6 * t + 2))), .int (i32 (ax xs (6 * t + 3)))]) X hP hS hl.1 (c_X11_set hf2) (tb t_1200 rfl) (tb t_1201 rfl) (tb t_1202 rfl) (tb t_87 rfl) (tb t_1203 rfl) (by decide +kernel) ⟨Nat.le_of_ble_eq_true rfl, Nat.le_of_ble_eq_true rfl⟩ (r_recv X hP (kd_lt ks_11 (by decide)) (cE_11 ks_11) rfl) rfl rfl (Nat.le_of_ble_eq_true rfl) dL_law_235 ⟨Nat.le_of_ble_eq_true rfl, Nat.le_of_ble_eq_true rfl⟩ (fun H locs hP hS => ?_)
  refine lv_icmp_eq (tgt := 1454) X.1 X.2.1 dL_law_238 (by decide) (fun _ => ?_) (fun q => absurd rfl q)
  refine lv_iinc (v := i32 ((6 * (t + 1) : Nat) : Int)) (lv' := [(3, .int (i32 ((6 * (t + 1) : Nat) : Int))), (0, .ref b), (1, .ref (gh G + 0)), (2, .ref (gh G + 111))]) X.1 X.2.1 dL_law_1454 hl (k := 0) rfl (i32_add _ _) (by decide) rfl (fun ls hl => ?_)
  refine lv_goto (tgt := 18) X.1 X.2.1 dL_law_1457 (by decide) ?_
  exact next _ H locs ls hP hI hS hl
set_option maxHeartbeats 4000000 in
theorem law_case_1 {p : Program} {l : Launch} {e : Env} {s : State} {m : MethodId} {below : List Frame} {meth : Method} {c : Code} {G : GT} {b L : Nat} {xs : Nat → Int32} {Inv : Mem → Prop} (X : CX p room_1 s m #[Value.ref b] meth c code 4 RL ret 2048 84000 G) (hX : va_X b L xs s s.heap) (hbl : b < s.heap.size) (hgh : gh G = s.heap.size) (hL : L ≤ 384) {t : Nat} (ht : 6 * t + 6 ≤ L) (next : ∀ (σ : Mem) (H : Heap) (locs : List Loc) (ls : Array Slot), PW G σ H → Inv σ → va_S (AA G) s.heap H locs → lv_has ls 4 [(3, .int (i32 ((6 * (t + 1) : Nat) : Int))), (0, .ref b), (1, .ref (gh G + 0)), (2, .ref (gh G + 111))] → W p l e room_1 s m #[Value.ref b] below meth c H locs 137 33782 (lw_Z below #[Value.ref b] s) (F0 m 18 ls [])) {σ : Mem} {H : Heap} {locs : List Loc} {ls : Array Slot} (hP : PW G σ H) (hstep : Step1 Inv σ) (hS : va_S (AA G) s.heap H locs) (hl : lv_has ls 4 [(3, .int (i32 ((6 * t : Nat) : Int))), (0, .ref b), (1, .ref (gh G + 0)), (2, .ref (gh G + 111))]) : W p l e room_1 s m #[Value.ref b] below meth c H locs 137 33782 (lw_Z below #[Value.ref b] s) (F0 m 243 ls []) := by
  obtain ⟨r, σ1, σ2, hf1, hf2, hI⟩ := hstep (ax xs (6 * t + 1)) (ax xs (6 * t + 2)) (ax_in xs _) (ax_in xs _)
  refine lv_aload_n X.1 X.2.1 dL_law_243 rfl (lv_at hl 2 rfl) ?_
  refine lv_aload_n X.1 X.2.1 dL_law_244 rfl (lv_at hl 1 rfl) ?_
  refine lv_iload_n X.1 X.2.1 dL_law_245 rfl (lv_at hl 0 rfl) ?_
  refine lv_iconst (v := i32 1) X.1 X.2.1 dL_law_246 rfl ?_
  refine lv_iadd X.1 X.2.1 dL_law_247 ?_
  refine l_ld (j := 6 * t + 1) X hX hbl hgh hS (i32_add _ _) (by omega) hL dL_law_248 ?_
  refine lv_aload_n X.1 X.2.1 dL_law_249 rfl (lv_at hl 1 rfl) ?_
  refine lv_iload_n X.1 X.2.1 dL_law_250 rfl (lv_at hl 0 rfl) ?_
  refine lv_iconst (v := i32 2) X.1 X.2.1 dL_law_251 rfl ?_
  refine lv_iadd X.1 X.2.1 dL_law_252 ?_
  refine l_ld (j := 6 * t + 2) X hX hbl hgh hS (i32_add _ _) (by omega) hL dL_law_253 ?_
  refine l_callV (n := 2) (As := [.int (i32 (ax xs (6 * t + 1))), .int (i32 (ax xs (6 * t + 2)))]) X hP hS hl.1 (c_X10_rule hf1) (tb t_439 rfl) (tb t_440 rfl) (tb t_441 rfl) (tb t_75 rfl) (tb t_442 rfl) (by decide +kernel) ⟨Nat.le_of_ble_eq_true rfl, Nat.le_of_ble_eq_true rfl⟩ (r_recv X hP (kd_lt ks_10 (by decide)) (cE_10 ks_10) rfl) rfl rfl (Nat.le_of_ble_eq_true rfl) dL_law_254 ⟨Nat.le_of_ble_eq_true rfl, Nat.le_of_ble_eq_true rfl⟩ (fun H locs hP hS => ?_)
  refine lv_aload_n X.1 X.2.1 dL_law_257 rfl (lv_at hl 3 rfl) ?_
  refine lv_aload_n X.1 X.2.1 dL_law_258 rfl (lv_at hl 1 rfl) ?_
  refine lv_iload_n X.1 X.2.1 dL_law_259 rfl (lv_at hl 0 rfl) ?_
  refine lv_iconst (v := i32 1) X.1 X.2.1 dL_law_260 rfl ?_
  refine lv_iadd X.1 X.2.1 dL_law_261 ?_
  refine l_ld (j := 6 * t + 1) X hX hbl hgh hS (i32_add _ _) (by omega) hL dL_law_262 ?_
  refine lv_aload_n X.1 X.2.1 dL_law_263 rfl (lv_at hl 1 rfl) ?_
  refine lv_iload_n X.1 X.2.1 dL_law_264 rfl (lv_at hl 0 rfl) ?_
  refine lv_iconst (v := i32 2) X.1 X.2.1 dL_law_265 rfl ?_
  refine lv_iadd X.1 X.2.1 dL_law_266 ?_
  refine l_ld (j := 6 * t + 2) X hX hbl hgh hS (i32_add _ _) (by omega) hL dL_law_267 ?_
  refine l_callV (n := 2) (As := [.int (i32 (ax xs (6 * t + 1))), .int (i32 (ax xs (6 * t + 2)))]) X hP hS hl.1 (c_X11_rule hf2) (tb t_1224 rfl) (tb t_1225 rfl) (tb t_1226 rfl) (tb t_87 rfl) (tb t_1227 rfl) (by decide +kernel) ⟨Nat.le_of_ble_eq_true rfl, Nat.le_of_ble_eq_true rfl⟩ (r_recv X hP (kd_lt ks_11 (by decide)) (cE_11 ks_11) rfl) rfl rfl (Nat.le_of_ble_eq_true rfl) dL_law_268 ⟨Nat.le_of_ble_eq_true rfl, Nat.le_of_ble_eq_true rfl⟩ (fun H locs hP hS => ?_)
  refine lv_icmp_eq (tgt := 1454) X.1 X.2.1 dL_law_271 (by decide) (fun _ => ?_) (fun q => absurd rfl q)
  refine lv_iinc (v := i32 ((6 * (t + 1) : Nat) : Int)) (lv' := [(3, .int (i32 ((6 * (t + 1) : Nat) : Int))), (0, .ref b), (1, .ref (gh G + 0)), (2, .ref (gh G + 111))]) X.1 X.2.1 dL_law_1454 hl (k := 0) rfl (i32_add _ _) (by decide) rfl (fun ls hl => ?_)
  refine lv_goto (tgt := 18) X.1 X.2.1 dL_law_1457 (by decide) ?_
  exact next _ H locs ls hP hI hS hl
set_option maxHeartbeats 4000000 in
theorem law_case_2 {p : Program} {l : Launch} {e : Env} {s : State} {m : MethodId} {below : List Frame} {meth : Method} {c : Code} {G : GT} {b L : Nat} {xs : Nat → Int32} {Inv : Mem → Prop} (X : CX p room_1 s m #[Value.ref b] meth c code 4 RL ret 2048 84000 G) (hX : va_X b L xs s s.heap) (hbl : b < s.heap.size) (hgh : gh G = s.heap.size) (hL : L ≤ 384) {t : Nat} (ht : 6 * t + 6 ≤ L) (next : ∀ (σ : Mem) (H : Heap) (locs : List Loc) (ls : Array Slot), PW G σ H → Inv σ → va_S (AA G) s.heap H locs → lv_has ls 4 [(3, .int (i32 ((6 * (t + 1) : Nat) : Int))), (0, .ref b), (1, .ref (gh G + 0)), (2, .ref (gh G + 111))] → W p l e room_1 s m #[Value.ref b] below meth c H locs 137 33782 (lw_Z below #[Value.ref b] s) (F0 m 18 ls [])) {σ : Mem} {H : Heap} {locs : List Loc} {ls : Array Slot} (hP : PW G σ H) (hstep : Step2 Inv σ) (hS : va_S (AA G) s.heap H locs) (hl : lv_has ls 4 [(3, .int (i32 ((6 * t : Nat) : Int))), (0, .ref b), (1, .ref (gh G + 0)), (2, .ref (gh G + 111))]) : W p l e room_1 s m #[Value.ref b] below meth c H locs 137 33782 (lw_Z below #[Value.ref b] s) (F0 m 276 ls []) := by
  obtain ⟨r, σ1, σ2, hf1, hf2, hI⟩ := hstep (ax xs (6 * t + 1)) (ax xs (6 * t + 2)) (ax_in xs _) (ax_in xs _)
  refine lv_aload_n X.1 X.2.1 dL_law_276 rfl (lv_at hl 2 rfl) ?_
  refine lv_aload_n X.1 X.2.1 dL_law_277 rfl (lv_at hl 1 rfl) ?_
  refine lv_iload_n X.1 X.2.1 dL_law_278 rfl (lv_at hl 0 rfl) ?_
  refine lv_iconst (v := i32 1) X.1 X.2.1 dL_law_279 rfl ?_
  refine lv_iadd X.1 X.2.1 dL_law_280 ?_
  refine l_ld (j := 6 * t + 1) X hX hbl hgh hS (i32_add _ _) (by omega) hL dL_law_281 ?_
  refine lv_aload_n X.1 X.2.1 dL_law_282 rfl (lv_at hl 1 rfl) ?_
  refine lv_iload_n X.1 X.2.1 dL_law_283 rfl (lv_at hl 0 rfl) ?_
  refine lv_iconst (v := i32 2) X.1 X.2.1 dL_law_284 rfl ?_
  refine lv_iadd X.1 X.2.1 dL_law_285 ?_
  refine l_ld (j := 6 * t + 2) X hX hbl hgh hS (i32_add _ _) (by omega) hL dL_law_286 ?_
  refine l_callV (n := 2) (As := [.int (i32 (ax xs (6 * t + 1))), .int (i32 (ax xs (6 * t + 2)))]) X hP hS hl.1 (c_X10_feed hf1) (tb t_455 rfl) (tb t_456 rfl) (tb t_457 rfl) (tb t_75 rfl) (tb t_458 rfl) (by decide +kernel) ⟨Nat.le_of_ble_eq_true rfl, Nat.le_of_ble_eq_true rfl⟩ (r_recv X hP (kd_lt ks_10 (by decide)) (cE_10 ks_10) rfl) rfl rfl (Nat.le_of_ble_eq_true rfl) dL_law_287 ⟨Nat.le_of_ble_eq_true rfl, Nat.le_of_ble_eq_true rfl⟩ (fun H locs hP hS => ?_)
  refine lv_aload_n X.1 X.2.1 dL_law_290 rfl (lv_at hl 3 rfl) ?_
  refine lv_aload_n X.1 X.2.1 dL_law_291 rfl (lv_at hl 1 rfl) ?_
  refine lv_iload_n X.1 X.2.1 dL_law_292 rfl (lv_at hl 0 rfl) ?_
  refine lv_iconst (v := i32 1) X.1 X.2.1 dL_law_293 rfl ?_
  refine lv_iadd X.1 X.2.1 dL_law_294 ?_
  refine l_ld (j := 6 * t + 1) X hX hbl hgh hS (i32_add _ _) (by omega) hL dL_law_295 ?_
  refine lv_aload_n X.1 X.2.1 dL_law_296 rfl (lv_at hl 1 rfl) ?_
  refine lv_iload_n X.1 X.2.1 dL_law_297 rfl (lv_at hl 0 rfl) ?_
  refine lv_iconst (v := i32 2) X.1 X.2.1 dL_law_298 rfl ?_
  refine lv_iadd X.1 X.2.1 dL_law_299 ?_
  refine l_ld (j := 6 * t + 2) X hX hbl hgh hS (i32_add _ _) (by omega) hL dL_law_300 ?_
  refine l_callV (n := 2) (As := [.int (i32 (ax xs (6 * t + 1))), .int (i32 (ax xs (6 * t + 2)))]) X hP hS hl.1 (c_X11_feed hf2) (tb t_1233 rfl) (tb t_1234 rfl) (tb t_1235 rfl) (tb t_87 rfl) (tb t_1236 rfl) (by decide +kernel) ⟨Nat.le_of_ble_eq_true rfl, Nat.le_of_ble_eq_true rfl⟩ (r_recv X hP (kd_lt ks_11 (by decide)) (cE_11 ks_11) rfl) rfl rfl (Nat.le_of_ble_eq_true rfl) dL_law_301 ⟨Nat.le_of_ble_eq_true rfl, Nat.le_of_ble_eq_true rfl⟩ (fun H locs hP hS => ?_)
  refine lv_icmp_eq (tgt := 1454) X.1 X.2.1 dL_law_304 (by decide) (fun _ => ?_) (fun q => absurd rfl q)
  refine lv_iinc (v := i32 ((6 * (t + 1) : Nat) : Int)) (lv' := [(3, .int (i32 ((6 * (t + 1) : Nat) : Int))), (0, .ref b), (1, .ref (gh G + 0)), (2, .ref (gh G + 111))]) X.1 X.2.1 dL_law_1454 hl (k := 0) rfl (i32_add _ _) (by decide) rfl (fun ls hl => ?_)
  refine lv_goto (tgt := 18) X.1 X.2.1 dL_law_1457 (by decide) ?_
  exact next _ H locs ls hP hI hS hl
set_option maxHeartbeats 4000000 in
theorem law_case_3 {p : Program} {l : Launch} {e : Env} {s : State} {m : MethodId} {below : List Frame} {meth : Method} {c : Code} {G : GT} {b L : Nat} {xs : Nat → Int32} {Inv : Mem → Prop} (X : CX p room_1 s m #[Value.ref b] meth c code 4 RL ret 2048 84000 G) (hX : va_X b L xs s s.heap) (hbl : b < s.heap.size) (hgh : gh G = s.heap.size) (hL : L ≤ 384) {t : Nat} (ht : 6 * t + 6 ≤ L) (next : ∀ (σ : Mem) (H : Heap) (locs : List Loc) (ls : Array Slot), PW G σ H → Inv σ → va_S (AA G) s.heap H locs → lv_has ls 4 [(3, .int (i32 ((6 * (t + 1) : Nat) : Int))), (0, .ref b), (1, .ref (gh G + 0)), (2, .ref (gh G + 111))] → W p l e room_1 s m #[Value.ref b] below meth c H locs 137 33782 (lw_Z below #[Value.ref b] s) (F0 m 18 ls [])) {σ : Mem} {H : Heap} {locs : List Loc} {ls : Array Slot} (hP : PW G σ H) (hstep : Step3 Inv σ) (hS : va_S (AA G) s.heap H locs) (hl : lv_has ls 4 [(3, .int (i32 ((6 * t : Nat) : Int))), (0, .ref b), (1, .ref (gh G + 0)), (2, .ref (gh G + 111))]) : W p l e room_1 s m #[Value.ref b] below meth c H locs 137 33782 (lw_Z below #[Value.ref b] s) (F0 m 309 ls []) := by
  obtain ⟨r, σ1, σ2, hf1, hf2, hI⟩ := hstep
  refine lv_aload_n X.1 X.2.1 dL_law_309 rfl (lv_at hl 2 rfl) ?_
  refine l_callV (n := 0) (As := []) X hP hS hl.1 (c_X10_wipe hf1) (tb t_469 rfl) (tb t_470 rfl) (tb t_471 rfl) (tb t_75 rfl) (tb t_472 rfl) (by decide +kernel) ⟨Nat.le_of_ble_eq_true rfl, Nat.le_of_ble_eq_true rfl⟩ (r_recv X hP (kd_lt ks_10 (by decide)) (cE_10 ks_10) rfl) rfl rfl (Nat.le_of_ble_eq_true rfl) dL_law_310 ⟨Nat.le_of_ble_eq_true rfl, Nat.le_of_ble_eq_true rfl⟩ (fun H locs hP hS => ?_)
  refine lv_aload_n X.1 X.2.1 dL_law_313 rfl (lv_at hl 3 rfl) ?_
  refine l_callV (n := 0) (As := []) X hP hS hl.1 (c_X11_wipe hf2) (tb t_1238 rfl) (tb t_1239 rfl) (tb t_1240 rfl) (tb t_87 rfl) (tb t_1241 rfl) (by decide +kernel) ⟨Nat.le_of_ble_eq_true rfl, Nat.le_of_ble_eq_true rfl⟩ (r_recv X hP (kd_lt ks_11 (by decide)) (cE_11 ks_11) rfl) rfl rfl (Nat.le_of_ble_eq_true rfl) dL_law_314 ⟨Nat.le_of_ble_eq_true rfl, Nat.le_of_ble_eq_true rfl⟩ (fun H locs hP hS => ?_)
  refine lv_icmp_eq (tgt := 1454) X.1 X.2.1 dL_law_317 (by decide) (fun _ => ?_) (fun q => absurd rfl q)
  refine lv_iinc (v := i32 ((6 * (t + 1) : Nat) : Int)) (lv' := [(3, .int (i32 ((6 * (t + 1) : Nat) : Int))), (0, .ref b), (1, .ref (gh G + 0)), (2, .ref (gh G + 111))]) X.1 X.2.1 dL_law_1454 hl (k := 0) rfl (i32_add _ _) (by decide) rfl (fun ls hl => ?_)
  refine lv_goto (tgt := 18) X.1 X.2.1 dL_law_1457 (by decide) ?_
  exact next _ H locs ls hP hI hS hl
set_option maxHeartbeats 4000000 in
theorem law_case_4 {p : Program} {l : Launch} {e : Env} {s : State} {m : MethodId} {below : List Frame} {meth : Method} {c : Code} {G : GT} {b L : Nat} {xs : Nat → Int32} {Inv : Mem → Prop} (X : CX p room_1 s m #[Value.ref b] meth c code 4 RL ret 2048 84000 G) (hX : va_X b L xs s s.heap) (hbl : b < s.heap.size) (hgh : gh G = s.heap.size) (hL : L ≤ 384) {t : Nat} (ht : 6 * t + 6 ≤ L) (next : ∀ (σ : Mem) (H : Heap) (locs : List Loc) (ls : Array Slot), PW G σ H → Inv σ → va_S (AA G) s.heap H locs → lv_has ls 4 [(3, .int (i32 ((6 * (t + 1) : Nat) : Int))), (0, .ref b), (1, .ref (gh G + 0)), (2, .ref (gh G + 111))] → W p l e room_1 s m #[Value.ref b] below meth c H locs 137 33782 (lw_Z below #[Value.ref b] s) (F0 m 18 ls [])) {σ : Mem} {H : Heap} {locs : List Loc} {ls : Array Slot} (hP : PW G σ H) (hstep : Step4 Inv σ) (hS : va_S (AA G) s.heap H locs) (hl : lv_has ls 4 [(3, .int (i32 ((6 * t : Nat) : Int))), (0, .ref b), (1, .ref (gh G + 0)), (2, .ref (gh G + 111))]) : W p l e room_1 s m #[Value.ref b] below meth c H locs 137 33782 (lw_Z below #[Value.ref b] s) (F0 m 322 ls []) := by
  obtain ⟨r, σ1, σ2, hf1, hf2, hI⟩ := hstep (ax xs (6 * t + 1)) (ax_in xs _)
  refine lv_aload_n X.1 X.2.1 dL_law_322 rfl (lv_at hl 2 rfl) ?_
  refine lv_aload_n X.1 X.2.1 dL_law_323 rfl (lv_at hl 1 rfl) ?_
  refine lv_iload_n X.1 X.2.1 dL_law_324 rfl (lv_at hl 0 rfl) ?_
  refine lv_iconst (v := i32 1) X.1 X.2.1 dL_law_325 rfl ?_
  refine lv_iadd X.1 X.2.1 dL_law_326 ?_
  refine l_ld (j := 6 * t + 1) X hX hbl hgh hS (i32_add _ _) (by omega) hL dL_law_327 ?_
  refine l_callV (n := 1) (As := [.int (i32 (ax xs (6 * t + 1)))]) X hP hS hl.1 (c_X10_read hf1) (tb t_473 rfl) (tb t_474 rfl) (tb t_475 rfl) (tb t_75 rfl) (tb t_476 rfl) (by decide +kernel) ⟨Nat.le_of_ble_eq_true rfl, Nat.le_of_ble_eq_true rfl⟩ (r_recv X hP (kd_lt ks_10 (by decide)) (cE_10 ks_10) rfl) rfl rfl (Nat.le_of_ble_eq_true rfl) dL_law_328 ⟨Nat.le_of_ble_eq_true rfl, Nat.le_of_ble_eq_true rfl⟩ (fun H locs hP hS => ?_)
  refine lv_aload_n X.1 X.2.1 dL_law_331 rfl (lv_at hl 3 rfl) ?_
  refine lv_aload_n X.1 X.2.1 dL_law_332 rfl (lv_at hl 1 rfl) ?_
  refine lv_iload_n X.1 X.2.1 dL_law_333 rfl (lv_at hl 0 rfl) ?_
  refine lv_iconst (v := i32 1) X.1 X.2.1 dL_law_334 rfl ?_
  refine lv_iadd X.1 X.2.1 dL_law_335 ?_
  refine l_ld (j := 6 * t + 1) X hX hbl hgh hS (i32_add _ _) (by omega) hL dL_law_336 ?_
  refine l_callV (n := 1) (As := [.int (i32 (ax xs (6 * t + 1)))]) X hP hS hl.1 (c_X11_read hf2) (tb t_1242 rfl) (tb t_1243 rfl) (tb t_1244 rfl) (tb t_87 rfl) (tb t_1245 rfl) (by decide +kernel) ⟨Nat.le_of_ble_eq_true rfl, Nat.le_of_ble_eq_true rfl⟩ (r_recv X hP (kd_lt ks_11 (by decide)) (cE_11 ks_11) rfl) rfl rfl (Nat.le_of_ble_eq_true rfl) dL_law_337 ⟨Nat.le_of_ble_eq_true rfl, Nat.le_of_ble_eq_true rfl⟩ (fun H locs hP hS => ?_)
  refine lv_icmp_eq (tgt := 1454) X.1 X.2.1 dL_law_340 (by decide) (fun _ => ?_) (fun q => absurd rfl q)
  refine lv_iinc (v := i32 ((6 * (t + 1) : Nat) : Int)) (lv' := [(3, .int (i32 ((6 * (t + 1) : Nat) : Int))), (0, .ref b), (1, .ref (gh G + 0)), (2, .ref (gh G + 111))]) X.1 X.2.1 dL_law_1454 hl (k := 0) rfl (i32_add _ _) (by decide) rfl (fun ls hl => ?_)
  refine lv_goto (tgt := 18) X.1 X.2.1 dL_law_1457 (by decide) ?_
  exact next _ H locs ls hP hI hS hl
set_option maxHeartbeats 4000000 in
theorem law_case_5 {p : Program} {l : Launch} {e : Env} {s : State} {m : MethodId} {below : List Frame} {meth : Method} {c : Code} {G : GT} {b L : Nat} {xs : Nat → Int32} {Inv : Mem → Prop} (X : CX p room_1 s m #[Value.ref b] meth c code 4 RL ret 2048 84000 G) (hX : va_X b L xs s s.heap) (hbl : b < s.heap.size) (hgh : gh G = s.heap.size) (hL : L ≤ 384) {t : Nat} (ht : 6 * t + 6 ≤ L) (next : ∀ (σ : Mem) (H : Heap) (locs : List Loc) (ls : Array Slot), PW G σ H → Inv σ → va_S (AA G) s.heap H locs → lv_has ls 4 [(3, .int (i32 ((6 * (t + 1) : Nat) : Int))), (0, .ref b), (1, .ref (gh G + 0)), (2, .ref (gh G + 111))] → W p l e room_1 s m #[Value.ref b] below meth c H locs 137 33782 (lw_Z below #[Value.ref b] s) (F0 m 18 ls [])) {σ : Mem} {H : Heap} {locs : List Loc} {ls : Array Slot} (hP : PW G σ H) (hstep : Step5 Inv σ) (hS : va_S (AA G) s.heap H locs) (hl : lv_has ls 4 [(3, .int (i32 ((6 * t : Nat) : Int))), (0, .ref b), (1, .ref (gh G + 0)), (2, .ref (gh G + 111))]) : W p l e room_1 s m #[Value.ref b] below meth c H locs 137 33782 (lw_Z below #[Value.ref b] s) (F0 m 345 ls []) := by
  obtain ⟨r, σ1, σ2, hf1, hf2, hI⟩ := hstep (ax xs (6 * t + 1)) (ax xs (6 * t + 2)) (ax xs (6 * t + 3)) (ax_in xs _) (ax_in xs _) (ax_in xs _)
  refine lv_aload_n X.1 X.2.1 dL_law_345 rfl (lv_at hl 2 rfl) ?_
  refine lv_aload_n X.1 X.2.1 dL_law_346 rfl (lv_at hl 1 rfl) ?_
  refine lv_iload_n X.1 X.2.1 dL_law_347 rfl (lv_at hl 0 rfl) ?_
  refine lv_iconst (v := i32 1) X.1 X.2.1 dL_law_348 rfl ?_
  refine lv_iadd X.1 X.2.1 dL_law_349 ?_
  refine l_ld (j := 6 * t + 1) X hX hbl hgh hS (i32_add _ _) (by omega) hL dL_law_350 ?_
  refine lv_aload_n X.1 X.2.1 dL_law_351 rfl (lv_at hl 1 rfl) ?_
  refine lv_iload_n X.1 X.2.1 dL_law_352 rfl (lv_at hl 0 rfl) ?_
  refine lv_iconst (v := i32 2) X.1 X.2.1 dL_law_353 rfl ?_
  refine lv_iadd X.1 X.2.1 dL_law_354 ?_
  refine l_ld (j := 6 * t + 2) X hX hbl hgh hS (i32_add _ _) (by omega) hL dL_law_355 ?_
  refine lv_aload_n X.1 X.2.1 dL_law_356 rfl (lv_at hl 1 rfl) ?_
  refine lv_iload_n X.1 X.2.1 dL_law_357 rfl (lv_at hl 0 rfl) ?_
  refine lv_iconst (v := i32 3) X.1 X.2.1 dL_law_358 rfl ?_
  refine lv_iadd X.1 X.2.1 dL_law_359 ?_
  refine l_ld (j := 6 * t + 3) X hX hbl hgh hS (i32_add _ _) (by omega) hL dL_law_360 ?_
  refine l_callV (n := 3) (As := [.int (i32 (ax xs (6 * t + 1))), .int (i32 (ax xs (6 * t + 2))), .int (i32 (ax xs (6 * t + 3)))]) X hP hS hl.1 (c_X10_bar hf1) (tb t_628 rfl) (tb t_629 rfl) (tb t_630 rfl) (tb t_75 rfl) (tb t_631 rfl) (by decide +kernel) ⟨Nat.le_of_ble_eq_true rfl, Nat.le_of_ble_eq_true rfl⟩ (r_recv X hP (kd_lt ks_10 (by decide)) (cE_10 ks_10) rfl) rfl rfl (Nat.le_of_ble_eq_true rfl) dL_law_361 ⟨Nat.le_of_ble_eq_true rfl, Nat.le_of_ble_eq_true rfl⟩ (fun H locs hP hS => ?_)
  refine lv_aload_n X.1 X.2.1 dL_law_364 rfl (lv_at hl 3 rfl) ?_
  refine lv_aload_n X.1 X.2.1 dL_law_365 rfl (lv_at hl 1 rfl) ?_
  refine lv_iload_n X.1 X.2.1 dL_law_366 rfl (lv_at hl 0 rfl) ?_
  refine lv_iconst (v := i32 1) X.1 X.2.1 dL_law_367 rfl ?_
  refine lv_iadd X.1 X.2.1 dL_law_368 ?_
  refine l_ld (j := 6 * t + 1) X hX hbl hgh hS (i32_add _ _) (by omega) hL dL_law_369 ?_
  refine lv_aload_n X.1 X.2.1 dL_law_370 rfl (lv_at hl 1 rfl) ?_
  refine lv_iload_n X.1 X.2.1 dL_law_371 rfl (lv_at hl 0 rfl) ?_
  refine lv_iconst (v := i32 2) X.1 X.2.1 dL_law_372 rfl ?_
  refine lv_iadd X.1 X.2.1 dL_law_373 ?_
  refine l_ld (j := 6 * t + 2) X hX hbl hgh hS (i32_add _ _) (by omega) hL dL_law_374 ?_
  refine lv_aload_n X.1 X.2.1 dL_law_375 rfl (lv_at hl 1 rfl) ?_
  refine lv_iload_n X.1 X.2.1 dL_law_376 rfl (lv_at hl 0 rfl) ?_
  refine lv_iconst (v := i32 3) X.1 X.2.1 dL_law_377 rfl ?_
  refine lv_iadd X.1 X.2.1 dL_law_378 ?_
  refine l_ld (j := 6 * t + 3) X hX hbl hgh hS (i32_add _ _) (by omega) hL dL_law_379 ?_
  refine l_callV (n := 3) (As := [.int (i32 (ax xs (6 * t + 1))), .int (i32 (ax xs (6 * t + 2))), .int (i32 (ax xs (6 * t + 3)))]) X hP hS hl.1 (c_X11_bar hf2) (tb t_1303 rfl) (tb t_1304 rfl) (tb t_1305 rfl) (tb t_87 rfl) (tb t_1306 rfl) (by decide +kernel) ⟨Nat.le_of_ble_eq_true rfl, Nat.le_of_ble_eq_true rfl⟩ (r_recv X hP (kd_lt ks_11 (by decide)) (cE_11 ks_11) rfl) rfl rfl (Nat.le_of_ble_eq_true rfl) dL_law_380 ⟨Nat.le_of_ble_eq_true rfl, Nat.le_of_ble_eq_true rfl⟩ (fun H locs hP hS => ?_)
  refine lv_icmp_eq (tgt := 1454) X.1 X.2.1 dL_law_383 (by decide) (fun _ => ?_) (fun q => absurd rfl q)
  refine lv_iinc (v := i32 ((6 * (t + 1) : Nat) : Int)) (lv' := [(3, .int (i32 ((6 * (t + 1) : Nat) : Int))), (0, .ref b), (1, .ref (gh G + 0)), (2, .ref (gh G + 111))]) X.1 X.2.1 dL_law_1454 hl (k := 0) rfl (i32_add _ _) (by decide) rfl (fun ls hl => ?_)
  refine lv_goto (tgt := 18) X.1 X.2.1 dL_law_1457 (by decide) ?_
  exact next _ H locs ls hP hI hS hl
set_option maxHeartbeats 4000000 in
theorem law_case_6 {p : Program} {l : Launch} {e : Env} {s : State} {m : MethodId} {below : List Frame} {meth : Method} {c : Code} {G : GT} {b L : Nat} {xs : Nat → Int32} {Inv : Mem → Prop} (X : CX p room_1 s m #[Value.ref b] meth c code 4 RL ret 2048 84000 G) (hX : va_X b L xs s s.heap) (hbl : b < s.heap.size) (hgh : gh G = s.heap.size) (hL : L ≤ 384) {t : Nat} (ht : 6 * t + 6 ≤ L) (next : ∀ (σ : Mem) (H : Heap) (locs : List Loc) (ls : Array Slot), PW G σ H → Inv σ → va_S (AA G) s.heap H locs → lv_has ls 4 [(3, .int (i32 ((6 * (t + 1) : Nat) : Int))), (0, .ref b), (1, .ref (gh G + 0)), (2, .ref (gh G + 111))] → W p l e room_1 s m #[Value.ref b] below meth c H locs 137 33782 (lw_Z below #[Value.ref b] s) (F0 m 18 ls [])) {σ : Mem} {H : Heap} {locs : List Loc} {ls : Array Slot} (hP : PW G σ H) (hstep : Step6 Inv σ) (hS : va_S (AA G) s.heap H locs) (hl : lv_has ls 4 [(3, .int (i32 ((6 * t : Nat) : Int))), (0, .ref b), (1, .ref (gh G + 0)), (2, .ref (gh G + 111))]) : W p l e room_1 s m #[Value.ref b] below meth c H locs 137 33782 (lw_Z below #[Value.ref b] s) (F0 m 388 ls []) := by
  obtain ⟨r, σ1, σ2, hf1, hf2, hI⟩ := hstep (ax xs (6 * t + 1)) (ax xs (6 * t + 2)) (ax xs (6 * t + 3)) (ax xs (6 * t + 4)) (ax_in xs _) (ax_in xs _) (ax_in xs _) (ax_in xs _)
  refine lv_aload_n X.1 X.2.1 dL_law_388 rfl (lv_at hl 2 rfl) ?_
  refine lv_aload_n X.1 X.2.1 dL_law_389 rfl (lv_at hl 1 rfl) ?_
  refine lv_iload_n X.1 X.2.1 dL_law_390 rfl (lv_at hl 0 rfl) ?_
  refine lv_iconst (v := i32 1) X.1 X.2.1 dL_law_391 rfl ?_
  refine lv_iadd X.1 X.2.1 dL_law_392 ?_
  refine l_ld (j := 6 * t + 1) X hX hbl hgh hS (i32_add _ _) (by omega) hL dL_law_393 ?_
  refine lv_aload_n X.1 X.2.1 dL_law_394 rfl (lv_at hl 1 rfl) ?_
  refine lv_iload_n X.1 X.2.1 dL_law_395 rfl (lv_at hl 0 rfl) ?_
  refine lv_iconst (v := i32 2) X.1 X.2.1 dL_law_396 rfl ?_
  refine lv_iadd X.1 X.2.1 dL_law_397 ?_
  refine l_ld (j := 6 * t + 2) X hX hbl hgh hS (i32_add _ _) (by omega) hL dL_law_398 ?_
  refine lv_aload_n X.1 X.2.1 dL_law_399 rfl (lv_at hl 1 rfl) ?_
  refine lv_iload_n X.1 X.2.1 dL_law_400 rfl (lv_at hl 0 rfl) ?_
  refine lv_iconst (v := i32 3) X.1 X.2.1 dL_law_401 rfl ?_
  refine lv_iadd X.1 X.2.1 dL_law_402 ?_
  refine l_ld (j := 6 * t + 3) X hX hbl hgh hS (i32_add _ _) (by omega) hL dL_law_403 ?_
  refine lv_aload_n X.1 X.2.1 dL_law_404 rfl (lv_at hl 1 rfl) ?_
  refine lv_iload_n X.1 X.2.1 dL_law_405 rfl (lv_at hl 0 rfl) ?_
  refine lv_iconst (v := i32 4) X.1 X.2.1 dL_law_406 rfl ?_
  refine lv_iadd X.1 X.2.1 dL_law_407 ?_
  refine l_ld (j := 6 * t + 4) X hX hbl hgh hS (i32_add _ _) (by omega) hL dL_law_408 ?_
  refine l_callV (n := 4) (As := [.int (i32 (ax xs (6 * t + 1))), .int (i32 (ax xs (6 * t + 2))), .int (i32 (ax xs (6 * t + 3))), .int (i32 (ax xs (6 * t + 4)))]) X hP hS hl.1 (c_X10_change hf1) (tb t_644 rfl) (tb t_645 rfl) (tb t_646 rfl) (tb t_75 rfl) (tb t_647 rfl) (by decide +kernel) ⟨Nat.le_of_ble_eq_true rfl, Nat.le_of_ble_eq_true rfl⟩ (r_recv X hP (kd_lt ks_10 (by decide)) (cE_10 ks_10) rfl) rfl rfl (Nat.le_of_ble_eq_true rfl) dL_law_409 ⟨Nat.le_of_ble_eq_true rfl, Nat.le_of_ble_eq_true rfl⟩ (fun H locs hP hS => ?_)
  refine lv_aload_n X.1 X.2.1 dL_law_412 rfl (lv_at hl 3 rfl) ?_
  refine lv_aload_n X.1 X.2.1 dL_law_413 rfl (lv_at hl 1 rfl) ?_
  refine lv_iload_n X.1 X.2.1 dL_law_414 rfl (lv_at hl 0 rfl) ?_
  refine lv_iconst (v := i32 1) X.1 X.2.1 dL_law_415 rfl ?_
  refine lv_iadd X.1 X.2.1 dL_law_416 ?_
  refine l_ld (j := 6 * t + 1) X hX hbl hgh hS (i32_add _ _) (by omega) hL dL_law_417 ?_
  refine lv_aload_n X.1 X.2.1 dL_law_418 rfl (lv_at hl 1 rfl) ?_
  refine lv_iload_n X.1 X.2.1 dL_law_419 rfl (lv_at hl 0 rfl) ?_
  refine lv_iconst (v := i32 2) X.1 X.2.1 dL_law_420 rfl ?_
  refine lv_iadd X.1 X.2.1 dL_law_421 ?_
  refine l_ld (j := 6 * t + 2) X hX hbl hgh hS (i32_add _ _) (by omega) hL dL_law_422 ?_
  refine lv_aload_n X.1 X.2.1 dL_law_423 rfl (lv_at hl 1 rfl) ?_
  refine lv_iload_n X.1 X.2.1 dL_law_424 rfl (lv_at hl 0 rfl) ?_
  refine lv_iconst (v := i32 3) X.1 X.2.1 dL_law_425 rfl ?_
  refine lv_iadd X.1 X.2.1 dL_law_426 ?_
  refine l_ld (j := 6 * t + 3) X hX hbl hgh hS (i32_add _ _) (by omega) hL dL_law_427 ?_
  refine lv_aload_n X.1 X.2.1 dL_law_428 rfl (lv_at hl 1 rfl) ?_
  refine lv_iload_n X.1 X.2.1 dL_law_429 rfl (lv_at hl 0 rfl) ?_
  refine lv_iconst (v := i32 4) X.1 X.2.1 dL_law_430 rfl ?_
  refine lv_iadd X.1 X.2.1 dL_law_431 ?_
  refine l_ld (j := 6 * t + 4) X hX hbl hgh hS (i32_add _ _) (by omega) hL dL_law_432 ?_
  refine l_callV (n := 4) (As := [.int (i32 (ax xs (6 * t + 1))), .int (i32 (ax xs (6 * t + 2))), .int (i32 (ax xs (6 * t + 3))), .int (i32 (ax xs (6 * t + 4)))]) X hP hS hl.1 (c_X11_change hf2) (tb t_1311 rfl) (tb t_1312 rfl) (tb t_1313 rfl) (tb t_87 rfl) (tb t_1314 rfl) (by decide +kernel) ⟨Nat.le_of_ble_eq_true rfl, Nat.le_of_ble_eq_true rfl⟩ (r_recv X hP (kd_lt ks_11 (by decide)) (cE_11 ks_11) rfl) rfl rfl (Nat.le_of_ble_eq_true rfl) dL_law_433 ⟨Nat.le_of_ble_eq_true rfl, Nat.le_of_ble_eq_true rfl⟩ (fun H locs hP hS => ?_)
  refine lv_icmp_eq (tgt := 1454) X.1 X.2.1 dL_law_436 (by decide) (fun _ => ?_) (fun q => absurd rfl q)
  refine lv_iinc (v := i32 ((6 * (t + 1) : Nat) : Int)) (lv' := [(3, .int (i32 ((6 * (t + 1) : Nat) : Int))), (0, .ref b), (1, .ref (gh G + 0)), (2, .ref (gh G + 111))]) X.1 X.2.1 dL_law_1454 hl (k := 0) rfl (i32_add _ _) (by decide) rfl (fun ls hl => ?_)
  refine lv_goto (tgt := 18) X.1 X.2.1 dL_law_1457 (by decide) ?_
  exact next _ H locs ls hP hI hS hl
set_option maxHeartbeats 4000000 in
theorem law_case_7 {p : Program} {l : Launch} {e : Env} {s : State} {m : MethodId} {below : List Frame} {meth : Method} {c : Code} {G : GT} {b L : Nat} {xs : Nat → Int32} {Inv : Mem → Prop} (X : CX p room_1 s m #[Value.ref b] meth c code 4 RL ret 2048 84000 G) (hX : va_X b L xs s s.heap) (hbl : b < s.heap.size) (hgh : gh G = s.heap.size) (hL : L ≤ 384) {t : Nat} (ht : 6 * t + 6 ≤ L) (next : ∀ (σ : Mem) (H : Heap) (locs : List Loc) (ls : Array Slot), PW G σ H → Inv σ → va_S (AA G) s.heap H locs → lv_has ls 4 [(3, .int (i32 ((6 * (t + 1) : Nat) : Int))), (0, .ref b), (1, .ref (gh G + 0)), (2, .ref (gh G + 111))] → W p l e room_1 s m #[Value.ref b] below meth c H locs 137 33782 (lw_Z below #[Value.ref b] s) (F0 m 18 ls [])) {σ : Mem} {H : Heap} {locs : List Loc} {ls : Array Slot} (hP : PW G σ H) (hstep : Step7 Inv σ) (hS : va_S (AA G) s.heap H locs) (hl : lv_has ls 4 [(3, .int (i32 ((6 * t : Nat) : Int))), (0, .ref b), (1, .ref (gh G + 0)), (2, .ref (gh G + 111))]) : W p l e room_1 s m #[Value.ref b] below meth c H locs 137 33782 (lw_Z below #[Value.ref b] s) (F0 m 441 ls []) := by
  obtain ⟨r, σ1, σ2, hf1, hf2, hI⟩ := hstep (ax xs (6 * t + 1)) (ax xs (6 * t + 2)) (ax xs (6 * t + 3)) (ax_in xs _) (ax_in xs _) (ax_in xs _)
  refine lv_aload_n X.1 X.2.1 dL_law_441 rfl (lv_at hl 2 rfl) ?_
  refine lv_aload_n X.1 X.2.1 dL_law_442 rfl (lv_at hl 1 rfl) ?_
  refine lv_iload_n X.1 X.2.1 dL_law_443 rfl (lv_at hl 0 rfl) ?_
  refine lv_iconst (v := i32 1) X.1 X.2.1 dL_law_444 rfl ?_
  refine lv_iadd X.1 X.2.1 dL_law_445 ?_
  refine l_ld (j := 6 * t + 1) X hX hbl hgh hS (i32_add _ _) (by omega) hL dL_law_446 ?_
  refine lv_aload_n X.1 X.2.1 dL_law_447 rfl (lv_at hl 1 rfl) ?_
  refine lv_iload_n X.1 X.2.1 dL_law_448 rfl (lv_at hl 0 rfl) ?_
  refine lv_iconst (v := i32 2) X.1 X.2.1 dL_law_449 rfl ?_
  refine lv_iadd X.1 X.2.1 dL_law_450 ?_
  refine l_ld (j := 6 * t + 2) X hX hbl hgh hS (i32_add _ _) (by omega) hL dL_law_451 ?_
  refine lv_aload_n X.1 X.2.1 dL_law_452 rfl (lv_at hl 1 rfl) ?_
  refine lv_iload_n X.1 X.2.1 dL_law_453 rfl (lv_at hl 0 rfl) ?_
  refine lv_iconst (v := i32 3) X.1 X.2.1 dL_law_454 rfl ?_
  refine lv_iadd X.1 X.2.1 dL_law_455 ?_
  refine l_ld (j := 6 * t + 3) X hX hbl hgh hS (i32_add _ _) (by omega) hL dL_law_456 ?_
  refine l_callV (n := 3) (As := [.int (i32 (ax xs (6 * t + 1))), .int (i32 (ax xs (6 * t + 2))), .int (i32 (ax xs (6 * t + 3)))]) X hP hS hl.1 (c_X10_cut hf1) (tb t_652 rfl) (tb t_653 rfl) (tb t_654 rfl) (tb t_75 rfl) (tb t_655 rfl) (by decide +kernel) ⟨Nat.le_of_ble_eq_true rfl, Nat.le_of_ble_eq_true rfl⟩ (r_recv X hP (kd_lt ks_10 (by decide)) (cE_10 ks_10) rfl) rfl rfl (Nat.le_of_ble_eq_true rfl) dL_law_457 ⟨Nat.le_of_ble_eq_true rfl, Nat.le_of_ble_eq_true rfl⟩ (fun H locs hP hS => ?_)
  refine lv_aload_n X.1 X.2.1 dL_law_460 rfl (lv_at hl 3 rfl) ?_
  refine lv_aload_n X.1 X.2.1 dL_law_461 rfl (lv_at hl 1 rfl) ?_
  refine lv_iload_n X.1 X.2.1 dL_law_462 rfl (lv_at hl 0 rfl) ?_
  refine lv_iconst (v := i32 1) X.1 X.2.1 dL_law_463 rfl ?_
  refine lv_iadd X.1 X.2.1 dL_law_464 ?_
  refine l_ld (j := 6 * t + 1) X hX hbl hgh hS (i32_add _ _) (by omega) hL dL_law_465 ?_
  refine lv_aload_n X.1 X.2.1 dL_law_466 rfl (lv_at hl 1 rfl) ?_
  refine lv_iload_n X.1 X.2.1 dL_law_467 rfl (lv_at hl 0 rfl) ?_
  refine lv_iconst (v := i32 2) X.1 X.2.1 dL_law_468 rfl ?_
  refine lv_iadd X.1 X.2.1 dL_law_469 ?_
  refine l_ld (j := 6 * t + 2) X hX hbl hgh hS (i32_add _ _) (by omega) hL dL_law_470 ?_
  refine lv_aload_n X.1 X.2.1 dL_law_471 rfl (lv_at hl 1 rfl) ?_
  refine lv_iload_n X.1 X.2.1 dL_law_472 rfl (lv_at hl 0 rfl) ?_
  refine lv_iconst (v := i32 3) X.1 X.2.1 dL_law_473 rfl ?_
  refine lv_iadd X.1 X.2.1 dL_law_474 ?_
  refine l_ld (j := 6 * t + 3) X hX hbl hgh hS (i32_add _ _) (by omega) hL dL_law_475 ?_
  refine l_callV (n := 3) (As := [.int (i32 (ax xs (6 * t + 1))), .int (i32 (ax xs (6 * t + 2))), .int (i32 (ax xs (6 * t + 3)))]) X hP hS hl.1 (c_X11_cut hf2) (tb t_1317 rfl) (tb t_1318 rfl) (tb t_1319 rfl) (tb t_87 rfl) (tb t_1320 rfl) (by decide +kernel) ⟨Nat.le_of_ble_eq_true rfl, Nat.le_of_ble_eq_true rfl⟩ (r_recv X hP (kd_lt ks_11 (by decide)) (cE_11 ks_11) rfl) rfl rfl (Nat.le_of_ble_eq_true rfl) dL_law_476 ⟨Nat.le_of_ble_eq_true rfl, Nat.le_of_ble_eq_true rfl⟩ (fun H locs hP hS => ?_)
  refine lv_icmp_eq (tgt := 1454) X.1 X.2.1 dL_law_479 (by decide) (fun _ => ?_) (fun q => absurd rfl q)
  refine lv_iinc (v := i32 ((6 * (t + 1) : Nat) : Int)) (lv' := [(3, .int (i32 ((6 * (t + 1) : Nat) : Int))), (0, .ref b), (1, .ref (gh G + 0)), (2, .ref (gh G + 111))]) X.1 X.2.1 dL_law_1454 hl (k := 0) rfl (i32_add _ _) (by decide) rfl (fun ls hl => ?_)
  refine lv_goto (tgt := 18) X.1 X.2.1 dL_law_1457 (by decide) ?_
  exact next _ H locs ls hP hI hS hl
set_option maxHeartbeats 4000000 in
theorem law_case_8 {p : Program} {l : Launch} {e : Env} {s : State} {m : MethodId} {below : List Frame} {meth : Method} {c : Code} {G : GT} {b L : Nat} {xs : Nat → Int32} {Inv : Mem → Prop} (X : CX p room_1 s m #[Value.ref b] meth c code 4 RL ret 2048 84000 G) (hX : va_X b L xs s s.heap) (hbl : b < s.heap.size) (hgh : gh G = s.heap.size) (hL : L ≤ 384) {t : Nat} (ht : 6 * t + 6 ≤ L) (next : ∀ (σ : Mem) (H : Heap) (locs : List Loc) (ls : Array Slot), PW G σ H → Inv σ → va_S (AA G) s.heap H locs → lv_has ls 4 [(3, .int (i32 ((6 * (t + 1) : Nat) : Int))), (0, .ref b), (1, .ref (gh G + 0)), (2, .ref (gh G + 111))] → W p l e room_1 s m #[Value.ref b] below meth c H locs 137 33782 (lw_Z below #[Value.ref b] s) (F0 m 18 ls [])) {σ : Mem} {H : Heap} {locs : List Loc} {ls : Array Slot} (hP : PW G σ H) (hstep : Step8 Inv σ) (hS : va_S (AA G) s.heap H locs) (hl : lv_has ls 4 [(3, .int (i32 ((6 * t : Nat) : Int))), (0, .ref b), (1, .ref (gh G + 0)), (2, .ref (gh G + 111))]) : W p l e room_1 s m #[Value.ref b] below meth c H locs 137 33782 (lw_Z below #[Value.ref b] s) (F0 m 484 ls []) := by
  obtain ⟨r, σ1, σ2, hf1, hf2, hI⟩ := hstep (ax xs (6 * t + 1)) (ax xs (6 * t + 2)) (ax xs (6 * t + 3)) (ax_in xs _) (ax_in xs _) (ax_in xs _)
  refine lv_aload_n X.1 X.2.1 dL_law_484 rfl (lv_at hl 2 rfl) ?_
  refine lv_aload_n X.1 X.2.1 dL_law_485 rfl (lv_at hl 1 rfl) ?_
  refine lv_iload_n X.1 X.2.1 dL_law_486 rfl (lv_at hl 0 rfl) ?_
  refine lv_iconst (v := i32 1) X.1 X.2.1 dL_law_487 rfl ?_
  refine lv_iadd X.1 X.2.1 dL_law_488 ?_
  refine l_ld (j := 6 * t + 1) X hX hbl hgh hS (i32_add _ _) (by omega) hL dL_law_489 ?_
  refine lv_aload_n X.1 X.2.1 dL_law_490 rfl (lv_at hl 1 rfl) ?_
  refine lv_iload_n X.1 X.2.1 dL_law_491 rfl (lv_at hl 0 rfl) ?_
  refine lv_iconst (v := i32 2) X.1 X.2.1 dL_law_492 rfl ?_
  refine lv_iadd X.1 X.2.1 dL_law_493 ?_
  refine l_ld (j := 6 * t + 2) X hX hbl hgh hS (i32_add _ _) (by omega) hL dL_law_494 ?_
  refine lv_aload_n X.1 X.2.1 dL_law_495 rfl (lv_at hl 1 rfl) ?_
  refine lv_iload_n X.1 X.2.1 dL_law_496 rfl (lv_at hl 0 rfl) ?_
  refine lv_iconst (v := i32 3) X.1 X.2.1 dL_law_497 rfl ?_
  refine lv_iadd X.1 X.2.1 dL_law_498 ?_
  refine l_ld (j := 6 * t + 3) X hX hbl hgh hS (i32_add _ _) (by omega) hL dL_law_499 ?_
  refine l_callV (n := 3) (As := [.int (i32 (ax xs (6 * t + 1))), .int (i32 (ax xs (6 * t + 2))), .int (i32 (ax xs (6 * t + 3)))]) X hP hS hl.1 (c_X10_free hf1) (tb t_665 rfl) (tb t_666 rfl) (tb t_667 rfl) (tb t_75 rfl) (tb t_668 rfl) (by decide +kernel) ⟨Nat.le_of_ble_eq_true rfl, Nat.le_of_ble_eq_true rfl⟩ (r_recv X hP (kd_lt ks_10 (by decide)) (cE_10 ks_10) rfl) rfl rfl (Nat.le_of_ble_eq_true rfl) dL_law_500 ⟨Nat.le_of_ble_eq_true rfl, Nat.le_of_ble_eq_true rfl⟩ (fun H locs hP hS => ?_)
  refine lv_aload_n X.1 X.2.1 dL_law_503 rfl (lv_at hl 3 rfl) ?_
  refine lv_aload_n X.1 X.2.1 dL_law_504 rfl (lv_at hl 1 rfl) ?_
  refine lv_iload_n X.1 X.2.1 dL_law_505 rfl (lv_at hl 0 rfl) ?_
  refine lv_iconst (v := i32 1) X.1 X.2.1 dL_law_506 rfl ?_
  refine lv_iadd X.1 X.2.1 dL_law_507 ?_
  refine l_ld (j := 6 * t + 1) X hX hbl hgh hS (i32_add _ _) (by omega) hL dL_law_508 ?_
  refine lv_aload_n X.1 X.2.1 dL_law_509 rfl (lv_at hl 1 rfl) ?_
  refine lv_iload_n X.1 X.2.1 dL_law_510 rfl (lv_at hl 0 rfl) ?_
  refine lv_iconst (v := i32 2) X.1 X.2.1 dL_law_511 rfl ?_
  refine lv_iadd X.1 X.2.1 dL_law_512 ?_
  refine l_ld (j := 6 * t + 2) X hX hbl hgh hS (i32_add _ _) (by omega) hL dL_law_513 ?_
  refine lv_aload_n X.1 X.2.1 dL_law_514 rfl (lv_at hl 1 rfl) ?_
  refine lv_iload_n X.1 X.2.1 dL_law_515 rfl (lv_at hl 0 rfl) ?_
  refine lv_iconst (v := i32 3) X.1 X.2.1 dL_law_516 rfl ?_
  refine lv_iadd X.1 X.2.1 dL_law_517 ?_
  refine l_ld (j := 6 * t + 3) X hX hbl hgh hS (i32_add _ _) (by omega) hL dL_law_518 ?_
  refine l_callV (n := 3) (As := [.int (i32 (ax xs (6 * t + 1))), .int (i32 (ax xs (6 * t + 2))), .int (i32 (ax xs (6 * t + 3)))]) X hP hS hl.1 (c_X11_free_ hf2) (tb t_1321 rfl) (tb t_1322 rfl) (tb t_1323 rfl) (tb t_87 rfl) (tb t_1324 rfl) (by decide +kernel) ⟨Nat.le_of_ble_eq_true rfl, Nat.le_of_ble_eq_true rfl⟩ (r_recv X hP (kd_lt ks_11 (by decide)) (cE_11 ks_11) rfl) rfl rfl (Nat.le_of_ble_eq_true rfl) dL_law_519 ⟨Nat.le_of_ble_eq_true rfl, Nat.le_of_ble_eq_true rfl⟩ (fun H locs hP hS => ?_)
  refine lv_icmp_eq (tgt := 1454) X.1 X.2.1 dL_law_522 (by decide) (fun _ => ?_) (fun q => absurd rfl q)
  refine lv_iinc (v := i32 ((6 * (t + 1) : Nat) : Int)) (lv' := [(3, .int (i32 ((6 * (t + 1) : Nat) : Int))), (0, .ref b), (1, .ref (gh G + 0)), (2, .ref (gh G + 111))]) X.1 X.2.1 dL_law_1454 hl (k := 0) rfl (i32_add _ _) (by decide) rfl (fun ls hl => ?_)
  refine lv_goto (tgt := 18) X.1 X.2.1 dL_law_1457 (by decide) ?_
  exact next _ H locs ls hP hI hS hl
set_option maxHeartbeats 4000000 in
theorem law_case_9 {p : Program} {l : Launch} {e : Env} {s : State} {m : MethodId} {below : List Frame} {meth : Method} {c : Code} {G : GT} {b L : Nat} {xs : Nat → Int32} {Inv : Mem → Prop} (X : CX p room_1 s m #[Value.ref b] meth c code 4 RL ret 2048 84000 G) (hX : va_X b L xs s s.heap) (hbl : b < s.heap.size) (hgh : gh G = s.heap.size) (hL : L ≤ 384) {t : Nat} (ht : 6 * t + 6 ≤ L) (next : ∀ (σ : Mem) (H : Heap) (locs : List Loc) (ls : Array Slot), PW G σ H → Inv σ → va_S (AA G) s.heap H locs → lv_has ls 4 [(3, .int (i32 ((6 * (t + 1) : Nat) : Int))), (0, .ref b), (1, .ref (gh G + 0)), (2, .ref (gh G + 111))] → W p l e room_1 s m #[Value.ref b] below meth c H locs 137 33782 (lw_Z below #[Value.ref b] s) (F0 m 18 ls [])) {σ : Mem} {H : Heap} {locs : List Loc} {ls : Array Slot} (hP : PW G σ H) (hstep : Step9 Inv σ) (hS : va_S (AA G) s.heap H locs) (hl : lv_has ls 4 [(3, .int (i32 ((6 * t : Nat) : Int))), (0, .ref b), (1, .ref (gh G + 0)), (2, .ref (gh G + 111))]) : W p l e room_1 s m #[Value.ref b] below meth c H locs 137 33782 (lw_Z below #[Value.ref b] s) (F0 m 527 ls []) := by
  obtain ⟨r, σ1, σ2, hf1, hf2, hI⟩ := hstep (ax xs (6 * t + 1)) (ax xs (6 * t + 2)) (ax xs (6 * t + 3)) (ax_in xs _) (ax_in xs _) (ax_in xs _)
  refine lv_aload_n X.1 X.2.1 dL_law_527 rfl (lv_at hl 2 rfl) ?_
  refine lv_aload_n X.1 X.2.1 dL_law_528 rfl (lv_at hl 1 rfl) ?_
  refine lv_iload_n X.1 X.2.1 dL_law_529 rfl (lv_at hl 0 rfl) ?_
  refine lv_iconst (v := i32 1) X.1 X.2.1 dL_law_530 rfl ?_
  refine lv_iadd X.1 X.2.1 dL_law_531 ?_
  refine l_ld (j := 6 * t + 1) X hX hbl hgh hS (i32_add _ _) (by omega) hL dL_law_532 ?_
  refine lv_aload_n X.1 X.2.1 dL_law_533 rfl (lv_at hl 1 rfl) ?_
  refine lv_iload_n X.1 X.2.1 dL_law_534 rfl (lv_at hl 0 rfl) ?_
  refine lv_iconst (v := i32 2) X.1 X.2.1 dL_law_535 rfl ?_
  refine lv_iadd X.1 X.2.1 dL_law_536 ?_
  refine l_ld (j := 6 * t + 2) X hX hbl hgh hS (i32_add _ _) (by omega) hL dL_law_537 ?_
  refine lv_aload_n X.1 X.2.1 dL_law_538 rfl (lv_at hl 1 rfl) ?_
  refine lv_iload_n X.1 X.2.1 dL_law_539 rfl (lv_at hl 0 rfl) ?_
  refine lv_iconst (v := i32 3) X.1 X.2.1 dL_law_540 rfl ?_
  refine lv_iadd X.1 X.2.1 dL_law_541 ?_
  refine l_ld (j := 6 * t + 3) X hX hbl hgh hS (i32_add _ _) (by omega) hL dL_law_542 ?_
  refine l_callV (n := 3) (As := [.int (i32 (ax xs (6 * t + 1))), .int (i32 (ax xs (6 * t + 2))), .int (i32 (ax xs (6 * t + 3)))]) X hP hS hl.1 (c_X10_room hf1) (tb t_682 rfl) (tb t_683 rfl) (tb t_684 rfl) (tb t_75 rfl) (tb t_685 rfl) (by decide +kernel) ⟨Nat.le_of_ble_eq_true rfl, Nat.le_of_ble_eq_true rfl⟩ (r_recv X hP (kd_lt ks_10 (by decide)) (cE_10 ks_10) rfl) rfl rfl (Nat.le_of_ble_eq_true rfl) dL_law_543 ⟨Nat.le_of_ble_eq_true rfl, Nat.le_of_ble_eq_true rfl⟩ (fun H locs hP hS => ?_)
  refine lv_aload_n X.1 X.2.1 dL_law_546 rfl (lv_at hl 3 rfl) ?_
  refine lv_aload_n X.1 X.2.1 dL_law_547 rfl (lv_at hl 1 rfl) ?_
  refine lv_iload_n X.1 X.2.1 dL_law_548 rfl (lv_at hl 0 rfl) ?_
  refine lv_iconst (v := i32 1) X.1 X.2.1 dL_law_549 rfl ?_
  refine lv_iadd X.1 X.2.1 dL_law_550 ?_
  refine l_ld (j := 6 * t + 1) X hX hbl hgh hS (i32_add _ _) (by omega) hL dL_law_551 ?_
  refine lv_aload_n X.1 X.2.1 dL_law_552 rfl (lv_at hl 1 rfl) ?_
  refine lv_iload_n X.1 X.2.1 dL_law_553 rfl (lv_at hl 0 rfl) ?_
  refine lv_iconst (v := i32 2) X.1 X.2.1 dL_law_554 rfl ?_
  refine lv_iadd X.1 X.2.1 dL_law_555 ?_
  refine l_ld (j := 6 * t + 2) X hX hbl hgh hS (i32_add _ _) (by omega) hL dL_law_556 ?_
  refine lv_aload_n X.1 X.2.1 dL_law_557 rfl (lv_at hl 1 rfl) ?_
  refine lv_iload_n X.1 X.2.1 dL_law_558 rfl (lv_at hl 0 rfl) ?_
  refine lv_iconst (v := i32 3) X.1 X.2.1 dL_law_559 rfl ?_
  refine lv_iadd X.1 X.2.1 dL_law_560 ?_
  refine l_ld (j := 6 * t + 3) X hX hbl hgh hS (i32_add _ _) (by omega) hL dL_law_561 ?_
  refine l_callV (n := 3) (As := [.int (i32 (ax xs (6 * t + 1))), .int (i32 (ax xs (6 * t + 2))), .int (i32 (ax xs (6 * t + 3)))]) X hP hS hl.1 (c_X11_room_ hf2) (tb t_1341 rfl) (tb t_1342 rfl) (tb t_1343 rfl) (tb t_87 rfl) (tb t_1344 rfl) (by decide +kernel) ⟨Nat.le_of_ble_eq_true rfl, Nat.le_of_ble_eq_true rfl⟩ (r_recv X hP (kd_lt ks_11 (by decide)) (cE_11 ks_11) rfl) rfl rfl (Nat.le_of_ble_eq_true rfl) dL_law_562 ⟨Nat.le_of_ble_eq_true rfl, Nat.le_of_ble_eq_true rfl⟩ (fun H locs hP hS => ?_)
  refine lv_icmp_eq (tgt := 1454) X.1 X.2.1 dL_law_565 (by decide) (fun _ => ?_) (fun q => absurd rfl q)
  refine lv_iinc (v := i32 ((6 * (t + 1) : Nat) : Int)) (lv' := [(3, .int (i32 ((6 * (t + 1) : Nat) : Int))), (0, .ref b), (1, .ref (gh G + 0)), (2, .ref (gh G + 111))]) X.1 X.2.1 dL_law_1454 hl (k := 0) rfl (i32_add _ _) (by decide) rfl (fun ls hl => ?_)
  refine lv_goto (tgt := 18) X.1 X.2.1 dL_law_1457 (by decide) ?_
  exact next _ H locs ls hP hI hS hl
set_option maxHeartbeats 4000000 in
theorem law_case_10 {p : Program} {l : Launch} {e : Env} {s : State} {m : MethodId} {below : List Frame} {meth : Method} {c : Code} {G : GT} {b L : Nat} {xs : Nat → Int32} {Inv : Mem → Prop} (X : CX p room_1 s m #[Value.ref b] meth c code 4 RL ret 2048 84000 G) (hX : va_X b L xs s s.heap) (hbl : b < s.heap.size) (hgh : gh G = s.heap.size) (hL : L ≤ 384) {t : Nat} (ht : 6 * t + 6 ≤ L) (next : ∀ (σ : Mem) (H : Heap) (locs : List Loc) (ls : Array Slot), PW G σ H → Inv σ → va_S (AA G) s.heap H locs → lv_has ls 4 [(3, .int (i32 ((6 * (t + 1) : Nat) : Int))), (0, .ref b), (1, .ref (gh G + 0)), (2, .ref (gh G + 111))] → W p l e room_1 s m #[Value.ref b] below meth c H locs 137 33782 (lw_Z below #[Value.ref b] s) (F0 m 18 ls [])) {σ : Mem} {H : Heap} {locs : List Loc} {ls : Array Slot} (hP : PW G σ H) (hstep : Step10 Inv σ) (hS : va_S (AA G) s.heap H locs) (hl : lv_has ls 4 [(3, .int (i32 ((6 * t : Nat) : Int))), (0, .ref b), (1, .ref (gh G + 0)), (2, .ref (gh G + 111))]) : W p l e room_1 s m #[Value.ref b] below meth c H locs 137 33782 (lw_Z below #[Value.ref b] s) (F0 m 570 ls []) := by
  obtain ⟨r, σ1, σ2, hf1, hf2, hI⟩ := hstep (ax xs (6 * t + 1)) (ax xs (6 * t + 2)) (ax xs (6 * t + 3)) (ax xs (6 * t + 4)) (ax_in xs _) (ax_in xs _) (ax_in xs _) (ax_in xs _)
  refine lv_aload_n X.1 X.2.1 dL_law_570 rfl (lv_at hl 2 rfl) ?_
  refine lv_aload_n X.1 X.2.1 dL_law_571 rfl (lv_at hl 1 rfl) ?_
  refine lv_iload_n X.1 X.2.1 dL_law_572 rfl (lv_at hl 0 rfl) ?_
  refine lv_iconst (v := i32 1) X.1 X.2.1 dL_law_573 rfl ?_
  refine lv_iadd X.1 X.2.1 dL_law_574 ?_
  refine l_ld (j := 6 * t + 1) X hX hbl hgh hS (i32_add _ _) (by omega) hL dL_law_575 ?_
  refine lv_aload_n X.1 X.2.1 dL_law_576 rfl (lv_at hl 1 rfl) ?_
  refine lv_iload_n X.1 X.2.1 dL_law_577 rfl (lv_at hl 0 rfl) ?_
  refine lv_iconst (v := i32 2) X.1 X.2.1 dL_law_578 rfl ?_
  refine lv_iadd X.1 X.2.1 dL_law_579 ?_
  refine l_ld (j := 6 * t + 2) X hX hbl hgh hS (i32_add _ _) (by omega) hL dL_law_580 ?_
  refine lv_aload_n X.1 X.2.1 dL_law_581 rfl (lv_at hl 1 rfl) ?_
  refine lv_iload_n X.1 X.2.1 dL_law_582 rfl (lv_at hl 0 rfl) ?_
  refine lv_iconst (v := i32 3) X.1 X.2.1 dL_law_583 rfl ?_
  refine lv_iadd X.1 X.2.1 dL_law_584 ?_
  refine l_ld (j := 6 * t + 3) X hX hbl hgh hS (i32_add _ _) (by omega) hL dL_law_585 ?_
  refine lv_aload_n X.1 X.2.1 dL_law_586 rfl (lv_at hl 1 rfl) ?_
  refine lv_iload_n X.1 X.2.1 dL_law_587 rfl (lv_at hl 0 rfl) ?_
  refine lv_iconst (v := i32 4) X.1 X.2.1 dL_law_588 rfl ?_
  refine lv_iadd X.1 X.2.1 dL_law_589 ?_
  refine l_ld (j := 6 * t + 4) X hX hbl hgh hS (i32_add _ _) (by omega) hL dL_law_590 ?_
  refine l_callV (n := 4) (As := [.int (i32 (ax xs (6 * t + 1))), .int (i32 (ax xs (6 * t + 2))), .int (i32 (ax xs (6 * t + 3))), .int (i32 (ax xs (6 * t + 4)))]) X hP hS hl.1 (c_X10_line hf1) (tb t_693 rfl) (tb t_694 rfl) (tb t_695 rfl) (tb t_75 rfl) (tb t_696 rfl) (by decide +kernel) ⟨Nat.le_of_ble_eq_true rfl, Nat.le_of_ble_eq_true rfl⟩ (r_recv X hP (kd_lt ks_10 (by decide)) (cE_10 ks_10) rfl) rfl rfl (Nat.le_of_ble_eq_true rfl) dL_law_591 ⟨Nat.le_of_ble_eq_true rfl, Nat.le_of_ble_eq_true rfl⟩ (fun H locs hP hS => ?_)
  refine lv_aload_n X.1 X.2.1 dL_law_594 rfl (lv_at hl 3 rfl) ?_
  refine lv_aload_n X.1 X.2.1 dL_law_595 rfl (lv_at hl 1 rfl) ?_
  refine lv_iload_n X.1 X.2.1 dL_law_596 rfl (lv_at hl 0 rfl) ?_
  refine lv_iconst (v := i32 1) X.1 X.2.1 dL_law_597 rfl ?_
  refine lv_iadd X.1 X.2.1 dL_law_598 ?_
  refine l_ld (j := 6 * t + 1) X hX hbl hgh hS (i32_add _ _) (by omega) hL dL_law_599 ?_
  refine lv_aload_n X.1 X.2.1 dL_law_600 rfl (lv_at hl 1 rfl) ?_
  refine lv_iload_n X.1 X.2.1 dL_law_601 rfl (lv_at hl 0 rfl) ?_
  refine lv_iconst (v := i32 2) X.1 X.2.1 dL_law_602 rfl ?_
  refine lv_iadd X.1 X.2.1 dL_law_603 ?_
  refine l_ld (j := 6 * t + 2) X hX hbl hgh hS (i32_add _ _) (by omega) hL dL_law_604 ?_
  refine lv_aload_n X.1 X.2.1 dL_law_605 rfl (lv_at hl 1 rfl) ?_
  refine lv_iload_n X.1 X.2.1 dL_law_606 rfl (lv_at hl 0 rfl) ?_
  refine lv_iconst (v := i32 3) X.1 X.2.1 dL_law_607 rfl ?_
  refine lv_iadd X.1 X.2.1 dL_law_608 ?_
  refine l_ld (j := 6 * t + 3) X hX hbl hgh hS (i32_add _ _) (by omega) hL dL_law_609 ?_
  refine lv_aload_n X.1 X.2.1 dL_law_610 rfl (lv_at hl 1 rfl) ?_
  refine lv_iload_n X.1 X.2.1 dL_law_611 rfl (lv_at hl 0 rfl) ?_
  refine lv_iconst (v := i32 4) X.1 X.2.1 dL_law_612 rfl ?_
  refine lv_iadd X.1 X.2.1 dL_law_613 ?_
  refine l_ld (j := 6 * t + 4) X hX hbl hgh hS (i32_add _ _) (by omega) hL dL_law_614 ?_
  refine l_callV (n := 4) (As := [.int (i32 (ax xs (6 * t + 1))), .int (i32 (ax xs (6 * t + 2))), .int (i32 (ax xs (6 * t + 3))), .int (i32 (ax xs (6 * t + 4)))]) X hP hS hl.1 (c_X11_line hf2) (tb t_1349 rfl) (tb t_1350 rfl) (tb t_1351 rfl) (tb t_87 rfl) (tb t_1352 rfl) (by decide +kernel) ⟨Nat.le_of_ble_eq_true rfl, Nat.le_of_ble_eq_true rfl⟩ (r_recv X hP (kd_lt ks_11 (by decide)) (cE_11 ks_11) rfl) rfl rfl (Nat.le_of_ble_eq_true rfl) dL_law_615 ⟨Nat.le_of_ble_eq_true rfl, Nat.le_of_ble_eq_true rfl⟩ (fun H locs hP hS => ?_)
  refine lv_icmp_eq (tgt := 1454) X.1 X.2.1 dL_law_618 (by decide) (fun _ => ?_) (fun q => absurd rfl q)
  refine lv_iinc (v := i32 ((6 * (t + 1) : Nat) : Int)) (lv' := [(3, .int (i32 ((6 * (t + 1) : Nat) : Int))), (0, .ref b), (1, .ref (gh G + 0)), (2, .ref (gh G + 111))]) X.1 X.2.1 dL_law_1454 hl (k := 0) rfl (i32_add _ _) (by decide) rfl (fun ls hl => ?_)
  refine lv_goto (tgt := 18) X.1 X.2.1 dL_law_1457 (by decide) ?_
  exact next _ H locs ls hP hI hS hl
set_option maxHeartbeats 4000000 in
theorem law_case_11 {p : Program} {l : Launch} {e : Env} {s : State} {m : MethodId} {below : List Frame} {meth : Method} {c : Code} {G : GT} {b L : Nat} {xs : Nat → Int32} {Inv : Mem → Prop} (X : CX p room_1 s m #[Value.ref b] meth c code 4 RL ret 2048 84000 G) (hX : va_X b L xs s s.heap) (hbl : b < s.heap.size) (hgh : gh G = s.heap.size) (hL : L ≤ 384) {t : Nat} (ht : 6 * t + 6 ≤ L) (next : ∀ (σ : Mem) (H : Heap) (locs : List Loc) (ls : Array Slot), PW G σ H → Inv σ → va_S (AA G) s.heap H locs → lv_has ls 4 [(3, .int (i32 ((6 * (t + 1) : Nat) : Int))), (0, .ref b), (1, .ref (gh G + 0)), (2, .ref (gh G + 111))] → W p l e room_1 s m #[Value.ref b] below meth c H locs 137 33782 (lw_Z below #[Value.ref b] s) (F0 m 18 ls [])) {σ : Mem} {H : Heap} {locs : List Loc} {ls : Array Slot} (hP : PW G σ H) (hstep : Step11 Inv σ) (hS : va_S (AA G) s.heap H locs) (hl : lv_has ls 4 [(3, .int (i32 ((6 * t : Nat) : Int))), (0, .ref b), (1, .ref (gh G + 0)), (2, .ref (gh G + 111))]) : W p l e room_1 s m #[Value.ref b] below meth c H locs 137 33782 (lw_Z below #[Value.ref b] s) (F0 m 623 ls []) := by
  obtain ⟨r, σ1, σ2, hf1, hf2, hI⟩ := hstep (ax xs (6 * t + 1)) (ax xs (6 * t + 2)) (ax xs (6 * t + 3)) (ax xs (6 * t + 4)) (ax_in xs _) (ax_in xs _) (ax_in xs _) (ax_in xs _)
  refine lv_aload_n X.1 X.2.1 dL_law_623 rfl (lv_at hl 2 rfl) ?_
  refine lv_aload_n X.1 X.2.1 dL_law_624 rfl (lv_at hl 1 rfl) ?_
  refine lv_iload_n X.1 X.2.1 dL_law_625 rfl (lv_at hl 0 rfl) ?_
  refine lv_iconst (v := i32 1) X.1 X.2.1 dL_law_626 rfl ?_
  refine lv_iadd X.1 X.2.1 dL_law_627 ?_
  refine l_ld (j := 6 * t + 1) X hX hbl hgh hS (i32_add _ _) (by omega) hL dL_law_628 ?_
  refine lv_aload_n X.1 X.2.1 dL_law_629 rfl (lv_at hl 1 rfl) ?_
  refine lv_iload_n X.1 X.2.1 dL_law_630 rfl (lv_at hl 0 rfl) ?_
  refine lv_iconst (v := i32 2) X.1 X.2.1 dL_law_631 rfl ?_
  refine lv_iadd X.1 X.2.1 dL_law_632 ?_
  refine l_ld (j := 6 * t + 2) X hX hbl hgh hS (i32_add _ _) (by omega) hL dL_law_633 ?_
  refine lv_aload_n X.1 X.2.1 dL_law_634 rfl (lv_at hl 1 rfl) ?_
  refine lv_iload_n X.1 X.2.1 dL_law_635 rfl (lv_at hl 0 rfl) ?_
  refine lv_iconst (v := i32 3) X.1 X.2.1 dL_law_636 rfl ?_
  refine lv_iadd X.1 X.2.1 dL_law_637 ?_
  refine l_ld (j := 6 * t + 3) X hX hbl hgh hS (i32_add _ _) (by omega) hL dL_law_638 ?_
  refine lv_aload_n X.1 X.2.1 dL_law_639 rfl (lv_at hl 1 rfl) ?_
  refine lv_iload_n X.1 X.2.1 dL_law_640 rfl (lv_at hl 0 rfl) ?_
  refine lv_iconst (v := i32 4) X.1 X.2.1 dL_law_641 rfl ?_
  refine lv_iadd X.1 X.2.1 dL_law_642 ?_
  refine l_ld (j := 6 * t + 4) X hX hbl hgh hS (i32_add _ _) (by omega) hL dL_law_643 ?_
  refine l_callV (n := 4) (As := [.int (i32 (ax xs (6 * t + 1))), .int (i32 (ax xs (6 * t + 2))), .int (i32 (ax xs (6 * t + 3))), .int (i32 (ax xs (6 * t + 4)))]) X hP hS hl.1 (c_X10_page hf1) (tb t_725 rfl) (tb t_726 rfl) (tb t_727 rfl) (tb t_75 rfl) (tb t_728 rfl) (by decide +kernel) ⟨Nat.le_of_ble_eq_true rfl, Nat.le_of_ble_eq_true rfl⟩ (r_recv X hP (kd_lt ks_10 (by decide)) (cE_10 ks_10) rfl) rfl rfl (Nat.le_of_ble_eq_true rfl) dL_law_644 ⟨Nat.le_of_ble_eq_true rfl, Nat.le_of_ble_eq_true rfl⟩ (fun H locs hP hS => ?_)
  refine lv_aload_n X.1 X.2.1 dL_law_647 rfl (lv_at hl 3 rfl) ?_
  refine lv_aload_n X.1 X.2.1 dL_law_648 rfl (lv_at hl 1 rfl) ?_
  refine lv_iload_n X.1 X.2.1 dL_law_649 rfl (lv_at hl 0 rfl) ?_
  refine lv_iconst (v := i32 1) X.1 X.2.1 dL_law_650 rfl ?_
  refine lv_iadd X.1 X.2.1 dL_law_651 ?_
  refine l_ld (j := 6 * t + 1) X hX hbl hgh hS (i32_add _ _) (by omega) hL dL_law_652 ?_
  refine lv_aload_n X.1 X.2.1 dL_law_653 rfl (lv_at hl 1 rfl) ?_
  refine lv_iload_n X.1 X.2.1 dL_law_654 rfl (lv_at hl 0 rfl) ?_
  refine lv_iconst (v := i32 2) X.1 X.2.1 dL_law_655 rfl ?_
  refine lv_iadd X.1 X.2.1 dL_law_656 ?_
  refine l_ld (j := 6 * t + 2) X hX hbl hgh hS (i32_add _ _) (by omega) hL dL_law_657 ?_
  refine lv_aload_n X.1 X.2.1 dL_law_658 rfl (lv_at hl 1 rfl) ?_
  refine lv_iload_n X.1 X.2.1 dL_law_659 rfl (lv_at hl 0 rfl) ?_
  refine lv_iconst (v := i32 3) X.1 X.2.1 dL_law_660 rfl ?_
  refine lv_iadd X.1 X.2.1 dL_law_661 ?_
  refine l_ld (j := 6 * t + 3) X hX hbl hgh hS (i32_add _ _) (by omega) hL dL_law_662 ?_
  refine lv_aload_n X.1 X.2.1 dL_law_663 rfl (lv_at hl 1 rfl) ?_
  refine lv_iload_n X.1 X.2.1 dL_law_664 rfl (lv_at hl 0 rfl) ?_
  refine lv_iconst (v := i32 4) X.1 X.2.1 dL_law_665 rfl ?_
  refine lv_iadd X.1 X.2.1 dL_law_666 ?_
  refine l_ld (j := 6 * t + 4) X hX hbl hgh hS (i32_add _ _) (by omega) hL dL_law_667 ?_
  refine l_callV (n := 4) (As := [.int (i32 (ax xs (6 * t + 1))), .int (i32 (ax xs (6 * t + 2))), .int (i32 (ax xs (6 * t + 3))), .int (i32 (ax xs (6 * t + 4)))]) X hP hS hl.1 (c_X11_page hf2) (tb t_1373 rfl) (tb t_1374 rfl) (tb t_1375 rfl) (tb t_87 rfl) (tb t_1376 rfl) (by decide +kernel) ⟨Nat.le_of_ble_eq_true rfl, Nat.le_of_ble_eq_true rfl⟩ (r_recv X hP (kd_lt ks_11 (by decide)) (cE_11 ks_11) rfl) rfl rfl (Nat.le_of_ble_eq_true rfl) dL_law_668 ⟨Nat.le_of_ble_eq_true rfl, Nat.le_of_ble_eq_true rfl⟩ (fun H locs hP hS => ?_)
  refine lv_icmp_eq (tgt := 1454) X.1 X.2.1 dL_law_671 (by decide) (fun _ => ?_) (fun q => absurd rfl q)
  refine lv_iinc (v := i32 ((6 * (t + 1) : Nat) : Int)) (lv' := [(3, .int (i32 ((6 * (t + 1) : Nat) : Int))), (0, .ref b), (1, .ref (gh G + 0)), (2, .ref (gh G + 111))]) X.1 X.2.1 dL_law_1454 hl (k := 0) rfl (i32_add _ _) (by decide) rfl (fun ls hl => ?_)
  refine lv_goto (tgt := 18) X.1 X.2.1 dL_law_1457 (by decide) ?_
  exact next _ H locs ls hP hI hS hl
set_option maxHeartbeats 4000000 in
theorem law_case_12 {p : Program} {l : Launch} {e : Env} {s : State} {m : MethodId} {below : List Frame} {meth : Method} {c : Code} {G : GT} {b L : Nat} {xs : Nat → Int32} {Inv : Mem → Prop} (X : CX p room_1 s m #[Value.ref b] meth c code 4 RL ret 2048 84000 G) (hX : va_X b L xs s s.heap) (hbl : b < s.heap.size) (hgh : gh G = s.heap.size) (hL : L ≤ 384) {t : Nat} (ht : 6 * t + 6 ≤ L) (next : ∀ (σ : Mem) (H : Heap) (locs : List Loc) (ls : Array Slot), PW G σ H → Inv σ → va_S (AA G) s.heap H locs → lv_has ls 4 [(3, .int (i32 ((6 * (t + 1) : Nat) : Int))), (0, .ref b), (1, .ref (gh G + 0)), (2, .ref (gh G + 111))] → W p l e room_1 s m #[Value.ref b] below meth c H locs 137 33782 (lw_Z below #[Value.ref b] s) (F0 m 18 ls [])) {σ : Mem} {H : Heap} {locs : List Loc} {ls : Array Slot} (hP : PW G σ H) (hstep : Step12 Inv σ) (hS : va_S (AA G) s.heap H locs) (hl : lv_has ls 4 [(3, .int (i32 ((6 * t : Nat) : Int))), (0, .ref b), (1, .ref (gh G + 0)), (2, .ref (gh G + 111))]) : W p l e room_1 s m #[Value.ref b] below meth c H locs 137 33782 (lw_Z below #[Value.ref b] s) (F0 m 676 ls []) := by
  obtain ⟨r, σ1, σ2, hf1, hf2, hI⟩ := hstep (ax xs (6 * t + 1)) (ax xs (6 * t + 2)) (ax_in xs _) (ax_in xs _)
  refine lv_aload_n X.1 X.2.1 dL_law_676 rfl (lv_at hl 2 rfl) ?_
  refine lv_aload_n X.1 X.2.1 dL_law_677 rfl (lv_at hl 1 rfl) ?_
  refine lv_iload_n X.1 X.2.1 dL_law_678 rfl (lv_at hl 0 rfl) ?_
  refine lv_iconst (v := i32 1) X.1 X.2.1 dL_law_679 rfl ?_
  refine lv_iadd X.1 X.2.1 dL_law_680 ?_
  refine l_ld (j := 6 * t + 1) X hX hbl hgh hS (i32_add _ _) (by omega) hL dL_law_681 ?_
  refine lv_aload_n X.1 X.2.1 dL_law_682 rfl (lv_at hl 1 rfl) ?_
  refine lv_iload_n X.1 X.2.1 dL_law_683 rfl (lv_at hl 0 rfl) ?_
  refine lv_iconst (v := i32 2) X.1 X.2.1 dL_law_684 rfl ?_
  refine lv_iadd X.1 X.2.1 dL_law_685 ?_
  refine l_ld (j := 6 * t + 2) X hX hbl hgh hS (i32_add _ _) (by omega) hL dL_law_686 ?_
  refine l_callV (n := 2) (As := [.int (i32 (ax xs (6 * t + 1))), .int (i32 (ax xs (6 * t + 2)))]) X hP hS hl.1 (c_X10_best hf1) (tb t_748 rfl) (tb t_749 rfl) (tb t_750 rfl) (tb t_75 rfl) (tb t_751 rfl) (by decide +kernel) ⟨Nat.le_of_ble_eq_true rfl, Nat.le_of_ble_eq_true rfl⟩ (r_recv X hP (kd_lt ks_10 (by decide)) (cE_10 ks_10) rfl) rfl rfl (Nat.le_of_ble_eq_true rfl) dL_law_687 ⟨Nat.le_of_ble_eq_true rfl, Nat.le_of_ble_eq_true rfl⟩ (fun H locs hP hS => ?_)
  refine lv_aload_n X.1 X.2.1 dL_law_690 rfl (lv_at hl 3 rfl) ?_
  refine lv_aload_n X.1 X.2.1 dL_law_691 rfl (lv_at hl 1 rfl) ?_
  refine lv_iload_n X.1 X.2.1 dL_law_692 rfl (lv_at hl 0 rfl) ?_
  refine lv_iconst (v := i32 1) X.1 X.2.1 dL_law_693 rfl ?_
  refine lv_iadd X.1 X.2.1 dL_law_694 ?_
  refine l_ld (j := 6 * t + 1) X hX hbl hgh hS (i32_add _ _) (by omega) hL dL_law_695 ?_
  refine lv_aload_n X.1 X.2.1 dL_law_696 rfl (lv_at hl 1 rfl) ?_
  refine lv_iload_n X.1 X.2.1 dL_law_697 rfl (lv_at hl 0 rfl) ?_
  refine lv_iconst (v := i32 2) X.1 X.2.1 dL_law_698 rfl ?_
  refine lv_iadd X.1 X.2.1 dL_law_699 ?_
  refine l_ld (j := 6 * t + 2) X hX hbl hgh hS (i32_add _ _) (by omega) hL dL_law_700 ?_
  refine l_callV (n := 2) (As := [.int (i32 (ax xs (6 * t + 1))), .int (i32 (ax xs (6 * t + 2)))]) X hP hS hl.1 (c_X11_best hf2) (tb t_1389 rfl) (tb t_1390 rfl) (tb t_1391 rfl) (tb t_87 rfl) (tb t_1392 rfl) (by decide +kernel) ⟨Nat.le_of_ble_eq_true rfl, Nat.le_of_ble_eq_true rfl⟩ (r_recv X hP (kd_lt ks_11 (by decide)) (cE_11 ks_11) rfl) rfl rfl (Nat.le_of_ble_eq_true rfl) dL_law_701 ⟨Nat.le_of_ble_eq_true rfl, Nat.le_of_ble_eq_true rfl⟩ (fun H locs hP hS => ?_)
  refine lv_icmp_eq (tgt := 1454) X.1 X.2.1 dL_law_704 (by decide) (fun _ => ?_) (fun q => absurd rfl q)
  refine lv_iinc (v := i32 ((6 * (t + 1) : Nat) : Int)) (lv' := [(3, .int (i32 ((6 * (t + 1) : Nat) : Int))), (0, .ref b), (1, .ref (gh G + 0)), (2, .ref (gh G + 111))]) X.1 X.2.1 dL_law_1454 hl (k := 0) rfl (i32_add _ _) (by decide) rfl (fun ls hl => ?_)
  refine lv_goto (tgt := 18) X.1 X.2.1 dL_law_1457 (by decide) ?_
  exact next _ H locs ls hP hI hS hl
set_option maxHeartbeats 4000000 in
theorem law_case_13 {p : Program} {l : Launch} {e : Env} {s : State} {m : MethodId} {below : List Frame} {meth : Method} {c : Code} {G : GT} {b L : Nat} {xs : Nat → Int32} {Inv : Mem → Prop} (X : CX p room_1 s m #[Value.ref b] meth c code 4 RL ret 2048 84000 G) (hX : va_X b L xs s s.heap) (hbl : b < s.heap.size) (hgh : gh G = s.heap.size) (hL : L ≤ 384) {t : Nat} (ht : 6 * t + 6 ≤ L) (next : ∀ (σ : Mem) (H : Heap) (locs : List Loc) (ls : Array Slot), PW G σ H → Inv σ → va_S (AA G) s.heap H locs → lv_has ls 4 [(3, .int (i32 ((6 * (t + 1) : Nat) : Int))), (0, .ref b), (1, .ref (gh G + 0)), (2, .ref (gh G + 111))] → W p l e room_1 s m #[Value.ref b] below meth c H locs 137 33782 (lw_Z below #[Value.ref b] s) (F0 m 18 ls [])) {σ : Mem} {H : Heap} {locs : List Loc} {ls : Array Slot} (hP : PW G σ H) (hstep : Step13 Inv σ) (hS : va_S (AA G) s.heap H locs) (hl : lv_has ls 4 [(3, .int (i32 ((6 * t : Nat) : Int))), (0, .ref b), (1, .ref (gh G + 0)), (2, .ref (gh G + 111))]) : W p l e room_1 s m #[Value.ref b] below meth c H locs 137 33782 (lw_Z below #[Value.ref b] s) (F0 m 709 ls []) := by
  obtain ⟨r, σ1, σ2, hf1, hf2, hI⟩ := hstep (ax xs (6 * t + 1)) (ax xs (6 * t + 2)) (ax xs (6 * t + 3)) (ax_in xs _) (ax_in xs _) (ax_in xs _)
  refine lv_aload_n X.1 X.2.1 dL_law_709 rfl (lv_at hl 2 rfl) ?_
  refine lv_aload_n X.1 X.2.1 dL_law_710 rfl (lv_at hl 1 rfl) ?_
  refine lv_iload_n X.1 X.2.1 dL_law_711 rfl (lv_at hl 0 rfl) ?_
  refine lv_iconst (v := i32 1) X.1 X.2.1 dL_law_712 rfl ?_
  refine lv_iadd X.1 X.2.1 dL_law_713 ?_
  refine l_ld (j := 6 * t + 1) X hX hbl hgh hS (i32_add _ _) (by omega) hL dL_law_714 ?_
  refine lv_aload_n X.1 X.2.1 dL_law_715 rfl (lv_at hl 1 rfl) ?_
  refine lv_iload_n X.1 X.2.1 dL_law_716 rfl (lv_at hl 0 rfl) ?_
  refine lv_iconst (v := i32 2) X.1 X.2.1 dL_law_717 rfl ?_
  refine lv_iadd X.1 X.2.1 dL_law_718 ?_
  refine l_ld (j := 6 * t + 2) X hX hbl hgh hS (i32_add _ _) (by omega) hL dL_law_719 ?_
  refine lv_aload_n X.1 X.2.1 dL_law_720 rfl (lv_at hl 1 rfl) ?_
  refine lv_iload_n X.1 X.2.1 dL_law_721 rfl (lv_at hl 0 rfl) ?_
  refine lv_iconst (v := i32 3) X.1 X.2.1 dL_law_722 rfl ?_
  refine lv_iadd X.1 X.2.1 dL_law_723 ?_
  refine l_ld (j := 6 * t + 3) X hX hbl hgh hS (i32_add _ _) (by omega) hL dL_law_724 ?_
  refine l_callV (n := 3) (As := [.int (i32 (ax xs (6 * t + 1))), .int (i32 (ax xs (6 * t + 2))), .int (i32 (ax xs (6 * t + 3)))]) X hP hS hl.1 (c_X10_laid hf1) (tb t_861 rfl) (tb t_862 rfl) (tb t_863 rfl) (tb t_75 rfl) (tb t_864 rfl) (by decide +kernel) ⟨Nat.le_of_ble_eq_true rfl, Nat.le_of_ble_eq_true rfl⟩ (r_recv X hP (kd_lt ks_10 (by decide)) (cE_10 ks_10) rfl) rfl rfl (Nat.le_of_ble_eq_true rfl) dL_law_725 ⟨Nat.le_of_ble_eq_true rfl, Nat.le_of_ble_eq_true rfl⟩ (fun H locs hP hS => ?_)
  refine lv_aload_n X.1 X.2.1 dL_law_728 rfl (lv_at hl 3 rfl) ?_
  refine lv_aload_n X.1 X.2.1 dL_law_729 rfl (lv_at hl 1 rfl) ?_
  refine lv_iload_n X.1 X.2.1 dL_law_730 rfl (lv_at hl 0 rfl) ?_
  refine lv_iconst (v := i32 1) X.1 X.2.1 dL_law_731 rfl ?_
  refine lv_iadd X.1 X.2.1 dL_law_732 ?_
  refine l_ld (j := 6 * t + 1) X hX hbl hgh hS (i32_add _ _) (by omega) hL dL_law_733 ?_
  refine lv_aload_n X.1 X.2.1 dL_law_734 rfl (lv_at hl 1 rfl) ?_
  refine lv_iload_n X.1 X.2.1 dL_law_735 rfl (lv_at hl 0 rfl) ?_
  refine lv_iconst (v := i32 2) X.1 X.2.1 dL_law_736 rfl ?_
  refine lv_iadd X.1 X.2.1 dL_law_737 ?_
  refine l_ld (j := 6 * t + 2) X hX hbl hgh hS (i32_add _ _) (by omega) hL dL_law_738 ?_
  refine lv_aload_n X.1 X.2.1 dL_law_739 rfl (lv_at hl 1 rfl) ?_
  refine lv_iload_n X.1 X.2.1 dL_law_740 rfl (lv_at hl 0 rfl) ?_
  refine lv_iconst (v := i32 3) X.1 X.2.1 dL_law_741 rfl ?_
  refine lv_iadd X.1 X.2.1 dL_law_742 ?_
  refine l_ld (j := 6 * t + 3) X hX hbl hgh hS (i32_add _ _) (by omega) hL dL_law_743 ?_
  refine l_callV (n := 3) (As := [.int (i32 (ax xs (6 * t + 1))), .int (i32 (ax xs (6 * t + 2))), .int (i32 (ax xs (6 * t + 3)))]) X hP hS hl.1 (c_X11_laid hf2) (tb t_1425 rfl) (tb t_1426 rfl) (tb t_1427 rfl) (tb t_87 rfl) (tb t_1428 rfl) (by decide +kernel) ⟨Nat.le_of_ble_eq_true rfl, Nat.le_of_ble_eq_true rfl⟩ (r_recv X hP (kd_lt ks_11 (by decide)) (cE_11 ks_11) rfl) rfl rfl (Nat.le_of_ble_eq_true rfl) dL_law_744 ⟨Nat.le_of_ble_eq_true rfl, Nat.le_of_ble_eq_true rfl⟩ (fun H locs hP hS => ?_)
  refine lv_icmp_eq (tgt := 1454) X.1 X.2.1 dL_law_747 (by decide) (fun _ => ?_) (fun q => absurd rfl q)
  refine lv_iinc (v := i32 ((6 * (t + 1) : Nat) : Int)) (lv' := [(3, .int (i32 ((6 * (t + 1) : Nat) : Int))), (0, .ref b), (1, .ref (gh G + 0)), (2, .ref (gh G + 111))]) X.1 X.2.1 dL_law_1454 hl (k := 0) rfl (i32_add _ _) (by decide) rfl (fun ls hl => ?_)
  refine lv_goto (tgt := 18) X.1 X.2.1 dL_law_1457 (by decide) ?_
  exact next _ H locs ls hP hI hS hl
set_option maxHeartbeats 4000000 in
theorem law_case_14 {p : Program} {l : Launch} {e : Env} {s : State} {m : MethodId} {below : List Frame} {meth : Method} {c : Code} {G : GT} {b L : Nat} {xs : Nat → Int32} {Inv : Mem → Prop} (X : CX p room_1 s m #[Value.ref b] meth c code 4 RL ret 2048 84000 G) (hX : va_X b L xs s s.heap) (hbl : b < s.heap.size) (hgh : gh G = s.heap.size) (hL : L ≤ 384) {t : Nat} (ht : 6 * t + 6 ≤ L) (next : ∀ (σ : Mem) (H : Heap) (locs : List Loc) (ls : Array Slot), PW G σ H → Inv σ → va_S (AA G) s.heap H locs → lv_has ls 4 [(3, .int (i32 ((6 * (t + 1) : Nat) : Int))), (0, .ref b), (1, .ref (gh G + 0)), (2, .ref (gh G + 111))] → W p l e room_1 s m #[Value.ref b] below meth c H locs 137 33782 (lw_Z below #[Value.ref b] s) (F0 m 18 ls [])) {σ : Mem} {H : Heap} {locs : List Loc} {ls : Array Slot} (hP : PW G σ H) (hstep : Step14 Inv σ) (hS : va_S (AA G) s.heap H locs) (hl : lv_has ls 4 [(3, .int (i32 ((6 * t : Nat) : Int))), (0, .ref b), (1, .ref (gh G + 0)), (2, .ref (gh G + 111))]) : W p l e room_1 s m #[Value.ref b] below meth c H locs 137 33782 (lw_Z below #[Value.ref b] s) (F0 m 752 ls []) := by
  obtain ⟨r, σ1, σ2, hf1, hf2, hI⟩ := hstep (ax xs (6 * t + 1)) (ax xs (6 * t + 2)) (ax_in xs _) (ax_in xs _)
  refine lv_aload_n X.1 X.2.1 dL_law_752 rfl (lv_at hl 2 rfl) ?_
  refine lv_aload_n X.1 X.2.1 dL_law_753 rfl (lv_at hl 1 rfl) ?_
  refine lv_iload_n X.1 X.2.1 dL_law_754 rfl (lv_at hl 0 rfl) ?_
  refine lv_iconst (v := i32 1) X.1 X.2.1 dL_law_755 rfl ?_
  refine lv_iadd X.1 X.2.1 dL_law_756 ?_
  refine l_ld (j := 6 * t + 1) X hX hbl hgh hS (i32_add _ _) (by omega) hL dL_law_757 ?_
  refine lv_aload_n X.1 X.2.1 dL_law_758 rfl (lv_at hl 1 rfl) ?_
  refine lv_iload_n X.1 X.2.1 dL_law_759 rfl (lv_at hl 0 rfl) ?_
  refine lv_iconst (v := i32 2) X.1 X.2.1 dL_law_760 rfl ?_
  refine lv_iadd X.1 X.2.1 dL_law_761 ?_
  refine l_ld (j := 6 * t + 2) X hX hbl hgh hS (i32_add _ _) (by omega) hL dL_law_762 ?_
  refine l_callV (n := 2) (As := [.int (i32 (ax xs (6 * t + 1))), .int (i32 (ax xs (6 * t + 2)))]) X hP hS hl.1 (c_X10_ends hf1) (tb t_869 rfl) (tb t_870 rfl) (tb t_871 rfl) (tb t_75 rfl) (tb t_872 rfl) (by decide +kernel) ⟨Nat.le_of_ble_eq_true rfl, Nat.le_of_ble_eq_true rfl⟩ (r_recv X hP (kd_lt ks_10 (by decide)) (cE_10 ks_10) rfl) rfl rfl (Nat.le_of_ble_eq_true rfl) dL_law_763 ⟨Nat.le_of_ble_eq_true rfl, Nat.le_of_ble_eq_true rfl⟩ (fun H locs hP hS => ?_)
  refine lv_aload_n X.1 X.2.1 dL_law_766 rfl (lv_at hl 3 rfl) ?_
  refine lv_aload_n X.1 X.2.1 dL_law_767 rfl (lv_at hl 1 rfl) ?_
  refine lv_iload_n X.1 X.2.1 dL_law_768 rfl (lv_at hl 0 rfl) ?_
  refine lv_iconst (v := i32 1) X.1 X.2.1 dL_law_769 rfl ?_
  refine lv_iadd X.1 X.2.1 dL_law_770 ?_
  refine l_ld (j := 6 * t + 1) X hX hbl hgh hS (i32_add _ _) (by omega) hL dL_law_771 ?_
  refine lv_aload_n X.1 X.2.1 dL_law_772 rfl (lv_at hl 1 rfl) ?_
  refine lv_iload_n X.1 X.2.1 dL_law_773 rfl (lv_at hl 0 rfl) ?_
  refine lv_iconst (v := i32 2) X.1 X.2.1 dL_law_774 rfl ?_
  refine lv_iadd X.1 X.2.1 dL_law_775 ?_
  refine l_ld (j := 6 * t + 2) X hX hbl hgh hS (i32_add _ _) (by omega) hL dL_law_776 ?_
  refine l_callV (n := 2) (As := [.int (i32 (ax xs (6 * t + 1))), .int (i32 (ax xs (6 * t + 2)))]) X hP hS hl.1 (c_X11_ends hf2) (tb t_1430 rfl) (tb t_1431 rfl) (tb t_1432 rfl) (tb t_87 rfl) (tb t_1433 rfl) (by decide +kernel) ⟨Nat.le_of_ble_eq_true rfl, Nat.le_of_ble_eq_true rfl⟩ (r_recv X hP (kd_lt ks_11 (by decide)) (cE_11 ks_11) rfl) rfl rfl (Nat.le_of_ble_eq_true rfl) dL_law_777 ⟨Nat.le_of_ble_eq_true rfl, Nat.le_of_ble_eq_true rfl⟩ (fun H locs hP hS => ?_)
  refine lv_icmp_eq (tgt := 1454) X.1 X.2.1 dL_law_780 (by decide) (fun _ => ?_) (fun q => absurd rfl q)
  refine lv_iinc (v := i32 ((6 * (t + 1) : Nat) : Int)) (lv' := [(3, .int (i32 ((6 * (t + 1) : Nat) : Int))), (0, .ref b), (1, .ref (gh G + 0)), (2, .ref (gh G + 111))]) X.1 X.2.1 dL_law_1454 hl (k := 0) rfl (i32_add _ _) (by decide) rfl (fun ls hl => ?_)
  refine lv_goto (tgt := 18) X.1 X.2.1 dL_law_1457 (by decide) ?_
  exact next _ H locs ls hP hI hS hl
set_option maxHeartbeats 4000000 in
theorem law_case_15 {p : Program} {l : Launch} {e : Env} {s : State} {m : MethodId} {below : List Frame} {meth : Method} {c : Code} {G : GT} {b L : Nat} {xs : Nat → Int32} {Inv : Mem → Prop} (X : CX p room_1 s m #[Value.ref b] meth c code 4 RL ret 2048 84000 G) (hX : va_X b L xs s s.heap) (hbl : b < s.heap.size) (hgh : gh G = s.heap.size) (hL : L ≤ 384) {t : Nat} (ht : 6 * t + 6 ≤ L) (next : ∀ (σ : Mem) (H : Heap) (locs : List Loc) (ls : Array Slot), PW G σ H → Inv σ → va_S (AA G) s.heap H locs → lv_has ls 4 [(3, .int (i32 ((6 * (t + 1) : Nat) : Int))), (0, .ref b), (1, .ref (gh G + 0)), (2, .ref (gh G + 111))] → W p l e room_1 s m #[Value.ref b] below meth c H locs 137 33782 (lw_Z below #[Value.ref b] s) (F0 m 18 ls [])) {σ : Mem} {H : Heap} {locs : List Loc} {ls : Array Slot} (hP : PW G σ H) (hstep : Step15 Inv σ) (hS : va_S (AA G) s.heap H locs) (hl : lv_has ls 4 [(3, .int (i32 ((6 * t : Nat) : Int))), (0, .ref b), (1, .ref (gh G + 0)), (2, .ref (gh G + 111))]) : W p l e room_1 s m #[Value.ref b] below meth c H locs 137 33782 (lw_Z below #[Value.ref b] s) (F0 m 785 ls []) := by
  obtain ⟨r, σ1, σ2, hf1, hf2, hI⟩ := hstep (ax xs (6 * t + 1)) (ax xs (6 * t + 2)) (ax_in xs _) (ax_in xs _)
  refine lv_aload_n X.1 X.2.1 dL_law_785 rfl (lv_at hl 2 rfl) ?_
  refine lv_aload_n X.1 X.2.1 dL_law_786 rfl (lv_at hl 1 rfl) ?_
  refine lv_iload_n X.1 X.2.1 dL_law_787 rfl (lv_at hl 0 rfl) ?_
  refine lv_iconst (v := i32 1) X.1 X.2.1 dL_law_788 rfl ?_
  refine lv_iadd X.1 X.2.1 dL_law_789 ?_
  refine l_ld (j := 6 * t + 1) X hX hbl hgh hS (i32_add _ _) (by omega) hL dL_law_790 ?_
  refine lv_aload_n X.1 X.2.1 dL_law_791 rfl (lv_at hl 1 rfl) ?_
  refine lv_iload_n X.1 X.2.1 dL_law_792 rfl (lv_at hl 0 rfl) ?_
  refine lv_iconst (v := i32 2) X.1 X.2.1 dL_law_793 rfl ?_
  refine lv_iadd X.1 X.2.1 dL_law_794 ?_
  refine l_ld (j := 6 * t + 2) X hX hbl hgh hS (i32_add _ _) (by omega) hL dL_law_795 ?_
  refine l_callV (n := 2) (As := [.int (i32 (ax xs (6 * t + 1))), .int (i32 (ax xs (6 * t + 2)))]) X hP hS hl.1 (c_X10_stop hf1) (tb t_873 rfl) (tb t_874 rfl) (tb t_875 rfl) (tb t_75 rfl) (tb t_876 rfl) (by decide +kernel) ⟨Nat.le_of_ble_eq_true rfl, Nat.le_of_ble_eq_true rfl⟩ (r_recv X hP (kd_lt ks_10 (by decide)) (cE_10 ks_10) rfl) rfl rfl (Nat.le_of_ble_eq_true rfl) dL_law_796 ⟨Nat.le_of_ble_eq_true rfl, Nat.le_of_ble_eq_true rfl⟩ (fun H locs hP hS => ?_)
  refine lv_aload_n X.1 X.2.1 dL_law_799 rfl (lv_at hl 3 rfl) ?_
  refine lv_aload_n X.1 X.2.1 dL_law_800 rfl (lv_at hl 1 rfl) ?_
  refine lv_iload_n X.1 X.2.1 dL_law_801 rfl (lv_at hl 0 rfl) ?_
  refine lv_iconst (v := i32 1) X.1 X.2.1 dL_law_802 rfl ?_
  refine lv_iadd X.1 X.2.1 dL_law_803 ?_
  refine l_ld (j := 6 * t + 1) X hX hbl hgh hS (i32_add _ _) (by omega) hL dL_law_804 ?_
  refine lv_aload_n X.1 X.2.1 dL_law_805 rfl (lv_at hl 1 rfl) ?_
  refine lv_iload_n X.1 X.2.1 dL_law_806 rfl (lv_at hl 0 rfl) ?_
  refine lv_iconst (v := i32 2) X.1 X.2.1 dL_law_807 rfl ?_
  refine lv_iadd X.1 X.2.1 dL_law_808 ?_
  refine l_ld (j := 6 * t + 2) X hX hbl hgh hS (i32_add _ _) (by omega) hL dL_law_809 ?_
  refine l_callV (n := 2) (As := [.int (i32 (ax xs (6 * t + 1))), .int (i32 (ax xs (6 * t + 2)))]) X hP hS hl.1 (c_X11_stop hf2) (tb t_1434 rfl) (tb t_1435 rfl) (tb t_1436 rfl) (tb t_87 rfl) (tb t_1437 rfl) (by decide +kernel) ⟨Nat.le_of_ble_eq_true rfl, Nat.le_of_ble_eq_true rfl⟩ (r_recv X hP (kd_lt ks_11 (by decide)) (cE_11 ks_11) rfl) rfl rfl (Nat.le_of_ble_eq_true rfl) dL_law_810 ⟨Nat.le_of_ble_eq_true rfl, Nat.le_of_ble_eq_true rfl⟩ (fun H locs hP hS => ?_)
  refine lv_icmp_eq (tgt := 1454) X.1 X.2.1 dL_law_813 (by decide) (fun _ => ?_) (fun q => absurd rfl q)
  refine lv_iinc (v := i32 ((6 * (t + 1) : Nat) : Int)) (lv' := [(3, .int (i32 ((6 * (t + 1) : Nat) : Int))), (0, .ref b), (1, .ref (gh G + 0)), (2, .ref (gh G + 111))]) X.1 X.2.1 dL_law_1454 hl (k := 0) rfl (i32_add _ _) (by decide) rfl (fun ls hl => ?_)
  refine lv_goto (tgt := 18) X.1 X.2.1 dL_law_1457 (by decide) ?_
  exact next _ H locs ls hP hI hS hl
set_option maxHeartbeats 4000000 in
theorem law_case_16 {p : Program} {l : Launch} {e : Env} {s : State} {m : MethodId} {below : List Frame} {meth : Method} {c : Code} {G : GT} {b L : Nat} {xs : Nat → Int32} {Inv : Mem → Prop} (X : CX p room_1 s m #[Value.ref b] meth c code 4 RL ret 2048 84000 G) (hX : va_X b L xs s s.heap) (hbl : b < s.heap.size) (hgh : gh G = s.heap.size) (hL : L ≤ 384) {t : Nat} (ht : 6 * t + 6 ≤ L) (next : ∀ (σ : Mem) (H : Heap) (locs : List Loc) (ls : Array Slot), PW G σ H → Inv σ → va_S (AA G) s.heap H locs → lv_has ls 4 [(3, .int (i32 ((6 * (t + 1) : Nat) : Int))), (0, .ref b), (1, .ref (gh G + 0)), (2, .ref (gh G + 111))] → W p l e room_1 s m #[Value.ref b] below meth c H locs 137 33782 (lw_Z below #[Value.ref b] s) (F0 m 18 ls [])) {σ : Mem} {H : Heap} {locs : List Loc} {ls : Array Slot} (hP : PW G σ H) (hstep : Step16 Inv σ) (hS : va_S (AA G) s.heap H locs) (hl : lv_has ls 4 [(3, .int (i32 ((6 * t : Nat) : Int))), (0, .ref b), (1, .ref (gh G + 0)), (2, .ref (gh G + 111))]) : W p l e room_1 s m #[Value.ref b] below meth c H locs 137 33782 (lw_Z below #[Value.ref b] s) (F0 m 818 ls []) := by
  obtain ⟨r, σ1, σ2, hf1, hf2, hI⟩ := hstep (ax xs (6 * t + 1)) (ax_in xs _)
  refine lv_aload_n X.1 X.2.1 dL_law_818 rfl (lv_at hl 2 rfl) ?_
  refine lv_aload_n X.1 X.2.1 dL_law_819 rfl (lv_at hl 1 rfl) ?_
  refine lv_iload_n X.1 X.2.1 dL_law_820 rfl (lv_at hl 0 rfl) ?_
  refine lv_iconst (v := i32 1) X.1 X.2.1 dL_law_821 rfl ?_
  refine lv_iadd X.1 X.2.1 dL_law_822 ?_
  refine l_ld (j := 6 * t + 1) X hX hbl hgh hS (i32_add _ _) (by omega) hL dL_law_823 ?_
  refine l_callV (n := 1) (As := [.int (i32 (ax xs (6 * t + 1)))]) X hP hS hl.1 (c_X10_hearts hf1) (tb t_881 rfl) (tb t_882 rfl) (tb t_883 rfl) (tb t_75 rfl) (tb t_884 rfl) (by decide +kernel) ⟨Nat.le_of_ble_eq_true rfl, Nat.le_of_ble_eq_true rfl⟩ (r_recv X hP (kd_lt ks_10 (by decide)) (cE_10 ks_10) rfl) rfl rfl (Nat.le_of_ble_eq_true rfl) dL_law_824 ⟨Nat.le_of_ble_eq_true rfl, Nat.le_of_ble_eq_true rfl⟩ (fun H locs hP hS => ?_)
  refine lv_aload_n X.1 X.2.1 dL_law_827 rfl (lv_at hl 3 rfl) ?_
  refine lv_aload_n X.1 X.2.1 dL_law_828 rfl (lv_at hl 1 rfl) ?_
  refine lv_iload_n X.1 X.2.1 dL_law_829 rfl (lv_at hl 0 rfl) ?_
  refine lv_iconst (v := i32 1) X.1 X.2.1 dL_law_830 rfl ?_
  refine lv_iadd X.1 X.2.1 dL_law_831 ?_
  refine l_ld (j := 6 * t + 1) X hX hbl hgh hS (i32_add _ _) (by omega) hL dL_law_832 ?_
  refine l_callV (n := 1) (As := [.int (i32 (ax xs (6 * t + 1)))]) X hP hS hl.1 (c_X11_hearts hf2) (tb t_1438 rfl) (tb t_1439 rfl) (tb t_1440 rfl) (tb t_87 rfl) (tb t_1441 rfl) (by decide +kernel) ⟨Nat.le_of_ble_eq_true rfl, Nat.le_of_ble_eq_true rfl⟩ (r_recv X hP (kd_lt ks_11 (by decide)) (cE_11 ks_11) rfl) rfl rfl (Nat.le_of_ble_eq_true rfl) dL_law_833 ⟨Nat.le_of_ble_eq_true rfl, Nat.le_of_ble_eq_true rfl⟩ (fun H locs hP hS => ?_)
  refine lv_icmp_eq (tgt := 1454) X.1 X.2.1 dL_law_836 (by decide) (fun _ => ?_) (fun q => absurd rfl q)
  refine lv_iinc (v := i32 ((6 * (t + 1) : Nat) : Int)) (lv' := [(3, .int (i32 ((6 * (t + 1) : Nat) : Int))), (0, .ref b), (1, .ref (gh G + 0)), (2, .ref (gh G + 111))]) X.1 X.2.1 dL_law_1454 hl (k := 0) rfl (i32_add _ _) (by decide) rfl (fun ls hl => ?_)
  refine lv_goto (tgt := 18) X.1 X.2.1 dL_law_1457 (by decide) ?_
  exact next _ H locs ls hP hI hS hl
set_option maxHeartbeats 4000000 in
theorem law_case_17 {p : Program} {l : Launch} {e : Env} {s : State} {m : MethodId} {below : List Frame} {meth : Method} {c : Code} {G : GT} {b L : Nat} {xs : Nat → Int32} {Inv : Mem → Prop} (X : CX p room_1 s m #[Value.ref b] meth c code 4 RL ret 2048 84000 G) (hX : va_X b L xs s s.heap) (hbl : b < s.heap.size) (hgh : gh G = s.heap.size) (hL : L ≤ 384) {t : Nat} (ht : 6 * t + 6 ≤ L) (next : ∀ (σ : Mem) (H : Heap) (locs : List Loc) (ls : Array Slot), PW G σ H → Inv σ → va_S (AA G) s.heap H locs → lv_has ls 4 [(3, .int (i32 ((6 * (t + 1) : Nat) : Int))), (0, .ref b), (1, .ref (gh G + 0)), (2, .ref (gh G + 111))] → W p l e room_1 s m #[Value.ref b] below meth c H locs 137 33782 (lw_Z below #[Value.ref b] s) (F0 m 18 ls [])) {σ : Mem} {H : Heap} {locs : List Loc} {ls : Array Slot} (hP : PW G σ H) (hstep : Step17 Inv σ) (hS : va_S (AA G) s.heap H locs) (hl : lv_has ls 4 [(3, .int (i32 ((6 * t : Nat) : Int))), (0, .ref b), (1, .ref (gh G + 0)), (2, .ref (gh G + 111))]) : W p l e room_1 s m #[Value.ref b] below meth c H locs 137 33782 (lw_Z below #[Value.ref b] s) (F0 m 841 ls []) := by
  obtain ⟨r, σ1, σ2, hf1, hf2, hI⟩ := hstep (ax xs (6 * t + 1)) (ax_in xs _)
  refine lv_aload_n X.1 X.2.1 dL_law_841 rfl (lv_at hl 2 rfl) ?_
  refine lv_aload_n X.1 X.2.1 dL_law_842 rfl (lv_at hl 1 rfl) ?_
  refine lv_iload_n X.1 X.2.1 dL_law_843 rfl (lv_at hl 0 rfl) ?_
  refine lv_iconst (v := i32 1) X.1 X.2.1 dL_law_844 rfl ?_
  refine lv_iadd X.1 X.2.1 dL_law_845 ?_
  refine l_ld (j := 6 * t + 1) X hX hbl hgh hS (i32_add _ _) (by omega) hL dL_law_846 ?_
  refine l_callV (n := 1) (As := [.int (i32 (ax xs (6 * t + 1)))]) X hP hS hl.1 (c_X10_folds hf1) (tb t_893 rfl) (tb t_894 rfl) (tb t_895 rfl) (tb t_75 rfl) (tb t_896 rfl) (by decide +kernel) ⟨Nat.le_of_ble_eq_true rfl, Nat.le_of_ble_eq_true rfl⟩ (r_recv X hP (kd_lt ks_10 (by decide)) (cE_10 ks_10) rfl) rfl rfl (Nat.le_of_ble_eq_true rfl) dL_law_847 ⟨Nat.le_of_ble_eq_true rfl, Nat.le_of_ble_eq_true rfl⟩ (fun H locs hP hS => ?_)
  refine lv_aload_n X.1 X.2.1 dL_law_850 rfl (lv_at hl 3 rfl) ?_
  refine lv_aload_n X.1 X.2.1 dL_law_851 rfl (lv_at hl 1 rfl) ?_
  refine lv_iload_n X.1 X.2.1 dL_law_852 rfl (lv_at hl 0 rfl) ?_
  refine lv_iconst (v := i32 1) X.1 X.2.1 dL_law_853 rfl ?_
  refine lv_iadd X.1 X.2.1 dL_law_854 ?_
  refine l_ld (j := 6 * t + 1) X hX hbl hgh hS (i32_add _ _) (by omega) hL dL_law_855 ?_
  refine l_callV (n := 1) (As := [.int (i32 (ax xs (6 * t + 1)))]) X hP hS hl.1 (c_X11_folds hf2) (tb t_1446 rfl) (tb t_1447 rfl) (tb t_1448 rfl) (tb t_87 rfl) (tb t_1449 rfl) (by decide +kernel) ⟨Nat.le_of_ble_eq_true rfl, Nat.le_of_ble_eq_true rfl⟩ (r_recv X hP (kd_lt ks_11 (by decide)) (cE_11 ks_11) rfl) rfl rfl (Nat.le_of_ble_eq_true rfl) dL_law_856 ⟨Nat.le_of_ble_eq_true rfl, Nat.le_of_ble_eq_true rfl⟩ (fun H locs hP hS => ?_)
  refine lv_icmp_eq (tgt := 1454) X.1 X.2.1 dL_law_859 (by decide) (fun _ => ?_) (fun q => absurd rfl q)
  refine lv_iinc (v := i32 ((6 * (t + 1) : Nat) : Int)) (lv' := [(3, .int (i32 ((6 * (t + 1) : Nat) : Int))), (0, .ref b), (1, .ref (gh G + 0)), (2, .ref (gh G + 111))]) X.1 X.2.1 dL_law_1454 hl (k := 0) rfl (i32_add _ _) (by decide) rfl (fun ls hl => ?_)
  refine lv_goto (tgt := 18) X.1 X.2.1 dL_law_1457 (by decide) ?_
  exact next _ H locs ls hP hI hS hl
set_option maxHeartbeats 4000000 in
theorem law_case_18 {p : Program} {l : Launch} {e : Env} {s : State} {m : MethodId} {below : List Frame} {meth : Method} {c : Code} {G : GT} {b L : Nat} {xs : Nat → Int32} {Inv : Mem → Prop} (X : CX p room_1 s m #[Value.ref b] meth c code 4 RL ret 2048 84000 G) (hX : va_X b L xs s s.heap) (hbl : b < s.heap.size) (hgh : gh G = s.heap.size) (hL : L ≤ 384) {t : Nat} (ht : 6 * t + 6 ≤ L) (next : ∀ (σ : Mem) (H : Heap) (locs : List Loc) (ls : Array Slot), PW G σ H → Inv σ → va_S (AA G) s.heap H locs → lv_has ls 4 [(3, .int (i32 ((6 * (t + 1) : Nat) : Int))), (0, .ref b), (1, .ref (gh G + 0)), (2, .ref (gh G + 111))] → W p l e room_1 s m #[Value.ref b] below meth c H locs 137 33782 (lw_Z below #[Value.ref b] s) (F0 m 18 ls [])) {σ : Mem} {H : Heap} {locs : List Loc} {ls : Array Slot} (hP : PW G σ H) (hstep : Step18 Inv σ) (hS : va_S (AA G) s.heap H locs) (hl : lv_has ls 4 [(3, .int (i32 ((6 * t : Nat) : Int))), (0, .ref b), (1, .ref (gh G + 0)), (2, .ref (gh G + 111))]) : W p l e room_1 s m #[Value.ref b] below meth c H locs 137 33782 (lw_Z below #[Value.ref b] s) (F0 m 864 ls []) := by
  obtain ⟨r, σ1, σ2, hf1, hf2, hI⟩ := hstep (ax xs (6 * t + 1)) (ax_in xs _)
  refine lv_aload_n X.1 X.2.1 dL_law_864 rfl (lv_at hl 2 rfl) ?_
  refine lv_aload_n X.1 X.2.1 dL_law_865 rfl (lv_at hl 1 rfl) ?_
  refine lv_iload_n X.1 X.2.1 dL_law_866 rfl (lv_at hl 0 rfl) ?_
  refine lv_iconst (v := i32 1) X.1 X.2.1 dL_law_867 rfl ?_
  refine lv_iadd X.1 X.2.1 dL_law_868 ?_
  refine l_ld (j := 6 * t + 1) X hX hbl hgh hS (i32_add _ _) (by omega) hL dL_law_869 ?_
  refine l_callV (n := 1) (As := [.int (i32 (ax xs (6 * t + 1)))]) X hP hS hl.1 (c_X10_needs hf1) (tb t_906 rfl) (tb t_907 rfl) (tb t_908 rfl) (tb t_75 rfl) (tb t_909 rfl) (by decide +kernel) ⟨Nat.le_of_ble_eq_true rfl, Nat.le_of_ble_eq_true rfl⟩ (r_recv X hP (kd_lt ks_10 (by decide)) (cE_10 ks_10) rfl) rfl rfl (Nat.le_of_ble_eq_true rfl) dL_law_870 ⟨Nat.le_of_ble_eq_true rfl, Nat.le_of_ble_eq_true rfl⟩ (fun H locs hP hS => ?_)
  refine lv_aload_n X.1 X.2.1 dL_law_873 rfl (lv_at hl 3 rfl) ?_
  refine lv_aload_n X.1 X.2.1 dL_law_874 rfl (lv_at hl 1 rfl) ?_
  refine lv_iload_n X.1 X.2.1 dL_law_875 rfl (lv_at hl 0 rfl) ?_
  refine lv_iconst (v := i32 1) X.1 X.2.1 dL_law_876 rfl ?_
  refine lv_iadd X.1 X.2.1 dL_law_877 ?_
  refine l_ld (j := 6 * t + 1) X hX hbl hgh hS (i32_add _ _) (by omega) hL dL_law_878 ?_
  refine l_callV (n := 1) (As := [.int (i32 (ax xs (6 * t + 1)))]) X hP hS hl.1 (c_X11_needs hf2) (tb t_1453 rfl) (tb t_1454 rfl) (tb t_1455 rfl) (tb t_87 rfl) (tb t_1456 rfl) (by decide +kernel) ⟨Nat.le_of_ble_eq_true rfl, Nat.le_of_ble_eq_true rfl⟩ (r_recv X hP (kd_lt ks_11 (by decide)) (cE_11 ks_11) rfl) rfl rfl (Nat.le_of_ble_eq_true rfl) dL_law_879 ⟨Nat.le_of_ble_eq_true rfl, Nat.le_of_ble_eq_true rfl⟩ (fun H locs hP hS => ?_)
  refine lv_icmp_eq (tgt := 1454) X.1 X.2.1 dL_law_882 (by decide) (fun _ => ?_) (fun q => absurd rfl q)
  refine lv_iinc (v := i32 ((6 * (t + 1) : Nat) : Int)) (lv' := [(3, .int (i32 ((6 * (t + 1) : Nat) : Int))), (0, .ref b), (1, .ref (gh G + 0)), (2, .ref (gh G + 111))]) X.1 X.2.1 dL_law_1454 hl (k := 0) rfl (i32_add _ _) (by decide) rfl (fun ls hl => ?_)
  refine lv_goto (tgt := 18) X.1 X.2.1 dL_law_1457 (by decide) ?_
  exact next _ H locs ls hP hI hS hl
set_option maxHeartbeats 4000000 in
theorem law_case_19 {p : Program} {l : Launch} {e : Env} {s : State} {m : MethodId} {below : List Frame} {meth : Method} {c : Code} {G : GT} {b L : Nat} {xs : Nat → Int32} {Inv : Mem → Prop} (X : CX p room_1 s m #[Value.ref b] meth c code 4 RL ret 2048 84000 G) (hX : va_X b L xs s s.heap) (hbl : b < s.heap.size) (hgh : gh G = s.heap.size) (hL : L ≤ 384) {t : Nat} (ht : 6 * t + 6 ≤ L) (next : ∀ (σ : Mem) (H : Heap) (locs : List Loc) (ls : Array Slot), PW G σ H → Inv σ → va_S (AA G) s.heap H locs → lv_has ls 4 [(3, .int (i32 ((6 * (t + 1) : Nat) : Int))), (0, .ref b), (1, .ref (gh G + 0)), (2, .ref (gh G + 111))] → W p l e room_1 s m #[Value.ref b] below meth c H locs 137 33782 (lw_Z below #[Value.ref b] s) (F0 m 18 ls [])) {σ : Mem} {H : Heap} {locs : List Loc} {ls : Array Slot} (hP : PW G σ H) (hstep : Step19 Inv σ) (hS : va_S (AA G) s.heap H locs) (hl : lv_has ls 4 [(3, .int (i32 ((6 * t : Nat) : Int))), (0, .ref b), (1, .ref (gh G + 0)), (2, .ref (gh G + 111))]) : W p l e room_1 s m #[Value.ref b] below meth c H locs 137 33782 (lw_Z below #[Value.ref b] s) (F0 m 887 ls []) := by
  obtain ⟨r, σ1, σ2, hf1, hf2, hI⟩ := hstep (ax xs (6 * t + 1)) (ax xs (6 * t + 2)) (ax_in xs _) (ax_in xs _)
  refine lv_aload_n X.1 X.2.1 dL_law_887 rfl (lv_at hl 2 rfl) ?_
  refine lv_aload_n X.1 X.2.1 dL_law_888 rfl (lv_at hl 1 rfl) ?_
  refine lv_iload_n X.1 X.2.1 dL_law_889 rfl (lv_at hl 0 rfl) ?_
  refine lv_iconst (v := i32 1) X.1 X.2.1 dL_law_890 rfl ?_
  refine lv_iadd X.1 X.2.1 dL_law_891 ?_
  refine l_ld (j := 6 * t + 1) X hX hbl hgh hS (i32_add _ _) (by omega) hL dL_law_892 ?_
  refine lv_aload_n X.1 X.2.1 dL_law_893 rfl (lv_at hl 1 rfl) ?_
  refine lv_iload_n X.1 X.2.1 dL_law_894 rfl (lv_at hl 0 rfl) ?_
  refine lv_iconst (v := i32 2) X.1 X.2.1 dL_law_895 rfl ?_
  refine lv_iadd X.1 X.2.1 dL_law_896 ?_
  refine l_ld (j := 6 * t + 2) X hX hbl hgh hS (i32_add _ _) (by omega) hL dL_law_897 ?_
  refine l_callV (n := 2) (As := [.int (i32 (ax xs (6 * t + 1))), .int (i32 (ax xs (6 * t + 2)))]) X hP hS hl.1 (c_X10_together hf1) (tb t_910 rfl) (tb t_911 rfl) (tb t_912 rfl) (tb t_75 rfl) (tb t_913 rfl) (by decide +kernel) ⟨Nat.le_of_ble_eq_true rfl, Nat.le_of_ble_eq_true rfl⟩ (r_recv X hP (kd_lt ks_10 (by decide)) (cE_10 ks_10) rfl) rfl rfl (Nat.le_of_ble_eq_true rfl) dL_law_898 ⟨Nat.le_of_ble_eq_true rfl, Nat.le_of_ble_eq_true rfl⟩ (fun H locs hP hS => ?_)
  refine lv_aload_n X.1 X.2.1 dL_law_901 rfl (lv_at hl 3 rfl) ?_
  refine lv_aload_n X.1 X.2.1 dL_law_902 rfl (lv_at hl 1 rfl) ?_
  refine lv_iload_n X.1 X.2.1 dL_law_903 rfl (lv_at hl 0 rfl) ?_
  refine lv_iconst (v := i32 1) X.1 X.2.1 dL_law_904 rfl ?_
  refine lv_iadd X.1 X.2.1 dL_law_905 ?_
  refine l_ld (j := 6 * t + 1) X hX hbl hgh hS (i32_add _ _) (by omega) hL dL_law_906 ?_
  refine lv_aload_n X.1 X.2.1 dL_law_907 rfl (lv_at hl 1 rfl) ?_
  refine lv_iload_n X.1 X.2.1 dL_law_908 rfl (lv_at hl 0 rfl) ?_
  refine lv_iconst (v := i32 2) X.1 X.2.1 dL_law_909 rfl ?_
  refine lv_iadd X.1 X.2.1 dL_law_910 ?_
  refine l_ld (j := 6 * t + 2) X hX hbl hgh hS (i32_add _ _) (by omega) hL dL_law_911 ?_
  refine l_callV (n := 2) (As := [.int (i32 (ax xs (6 * t + 1))), .int (i32 (ax xs (6 * t + 2)))]) X hP hS hl.1 (c_X11_together hf2) (tb t_1457 rfl) (tb t_1458 rfl) (tb t_1459 rfl) (tb t_87 rfl) (tb t_1460 rfl) (by decide +kernel) ⟨Nat.le_of_ble_eq_true rfl, Nat.le_of_ble_eq_true rfl⟩ (r_recv X hP (kd_lt ks_11 (by decide)) (cE_11 ks_11) rfl) rfl rfl (Nat.le_of_ble_eq_true rfl) dL_law_912 ⟨Nat.le_of_ble_eq_true rfl, Nat.le_of_ble_eq_true rfl⟩ (fun H locs hP hS => ?_)
  refine lv_icmp_eq (tgt := 1454) X.1 X.2.1 dL_law_915 (by decide) (fun _ => ?_) (fun q => absurd rfl q)
  refine lv_iinc (v := i32 ((6 * (t + 1) : Nat) : Int)) (lv' := [(3, .int (i32 ((6 * (t + 1) : Nat) : Int))), (0, .ref b), (1, .ref (gh G + 0)), (2, .ref (gh G + 111))]) X.1 X.2.1 dL_law_1454 hl (k := 0) rfl (i32_add _ _) (by decide) rfl (fun ls hl => ?_)
  refine lv_goto (tgt := 18) X.1 X.2.1 dL_law_1457 (by decide) ?_
  exact next _ H locs ls hP hI hS hl
set_option maxHeartbeats 4000000 in
theorem law_case_20 {p : Program} {l : Launch} {e : Env} {s : State} {m : MethodId} {below : List Frame} {meth : Method} {c : Code} {G : GT} {b L : Nat} {xs : Nat → Int32} {Inv : Mem → Prop} (X : CX p room_1 s m #[Value.ref b] meth c code 4 RL ret 2048 84000 G) (hX : va_X b L xs s s.heap) (hbl : b < s.heap.size) (hgh : gh G = s.heap.size) (hL : L ≤ 384) {t : Nat} (ht : 6 * t + 6 ≤ L) (next : ∀ (σ : Mem) (H : Heap) (locs : List Loc) (ls : Array Slot), PW G σ H → Inv σ → va_S (AA G) s.heap H locs → lv_has ls 4 [(3, .int (i32 ((6 * (t + 1) : Nat) : Int))), (0, .ref b), (1, .ref (gh G + 0)), (2, .ref (gh G + 111))] → W p l e room_1 s m #[Value.ref b] below meth c H locs 137 33782 (lw_Z below #[Value.ref b] s) (F0 m 18 ls [])) {σ : Mem} {H : Heap} {locs : List Loc} {ls : Array Slot} (hP : PW G σ H) (hstep : Step20 Inv σ) (hS : va_S (AA G) s.heap H locs) (hl : lv_has ls 4 [(3, .int (i32 ((6 * t : Nat) : Int))), (0, .ref b), (1, .ref (gh G + 0)), (2, .ref (gh G + 111))]) : W p l e room_1 s m #[Value.ref b] below meth c H locs 137 33782 (lw_Z below #[Value.ref b] s) (F0 m 920 ls []) := by
  obtain ⟨r, σ1, σ2, hf1, hf2, hI⟩ := hstep (ax xs (6 * t + 1)) (ax_in xs _)
  refine lv_aload_n X.1 X.2.1 dL_law_920 rfl (lv_at hl 2 rfl) ?_
  refine lv_aload_n X.1 X.2.1 dL_law_921 rfl (lv_at hl 1 rfl) ?_
  refine lv_iload_n X.1 X.2.1 dL_law_922 rfl (lv_at hl 0 rfl) ?_
  refine lv_iconst (v := i32 1) X.1 X.2.1 dL_law_923 rfl ?_
  refine lv_iadd X.1 X.2.1 dL_law_924 ?_
  refine l_ld (j := 6 * t + 1) X hX hbl hgh hS (i32_add _ _) (by omega) hL dL_law_925 ?_
  refine l_callV (n := 1) (As := [.int (i32 (ax xs (6 * t + 1)))]) X hP hS hl.1 (c_X10_all hf1) (tb t_914 rfl) (tb t_915 rfl) (tb t_916 rfl) (tb t_75 rfl) (tb t_917 rfl) (by decide +kernel) ⟨Nat.le_of_ble_eq_true rfl, Nat.le_of_ble_eq_true rfl⟩ (r_recv X hP (kd_lt ks_10 (by decide)) (cE_10 ks_10) rfl) rfl rfl (Nat.le_of_ble_eq_true rfl) dL_law_926 ⟨Nat.le_of_ble_eq_true rfl, Nat.le_of_ble_eq_true rfl⟩ (fun H locs hP hS => ?_)
  refine lv_aload_n X.1 X.2.1 dL_law_929 rfl (lv_at hl 3 rfl) ?_
  refine lv_aload_n X.1 X.2.1 dL_law_930 rfl (lv_at hl 1 rfl) ?_
  refine lv_iload_n X.1 X.2.1 dL_law_931 rfl (lv_at hl 0 rfl) ?_
  refine lv_iconst (v := i32 1) X.1 X.2.1 dL_law_932 rfl ?_
  refine lv_iadd X.1 X.2.1 dL_law_933 ?_
  refine l_ld (j := 6 * t + 1) X hX hbl hgh hS (i32_add _ _) (by omega) hL dL_law_934 ?_
  refine l_callV (n := 1) (As := [.int (i32 (ax xs (6 * t + 1)))]) X hP hS hl.1 (c_X11_all hf2) (tb t_1473 rfl) (tb t_1474 rfl) (tb t_1475 rfl) (tb t_87 rfl) (tb t_1476 rfl) (by decide +kernel) ⟨Nat.le_of_ble_eq_true rfl, Nat.le_of_ble_eq_true rfl⟩ (r_recv X hP (kd_lt ks_11 (by decide)) (cE_11 ks_11) rfl) rfl rfl (Nat.le_of_ble_eq_true rfl) dL_law_935 ⟨Nat.le_of_ble_eq_true rfl, Nat.le_of_ble_eq_true rfl⟩ (fun H locs hP hS => ?_)
  refine lv_icmp_eq (tgt := 1454) X.1 X.2.1 dL_law_938 (by decide) (fun _ => ?_) (fun q => absurd rfl q)
  refine lv_iinc (v := i32 ((6 * (t + 1) : Nat) : Int)) (lv' := [(3, .int (i32 ((6 * (t + 1) : Nat) : Int))), (0, .ref b), (1, .ref (gh G + 0)), (2, .ref (gh G + 111))]) X.1 X.2.1 dL_law_1454 hl (k := 0) rfl (i32_add _ _) (by decide) rfl (fun ls hl => ?_)
  refine lv_goto (tgt := 18) X.1 X.2.1 dL_law_1457 (by decide) ?_
  exact next _ H locs ls hP hI hS hl
set_option maxHeartbeats 4000000 in
theorem law_case_21 {p : Program} {l : Launch} {e : Env} {s : State} {m : MethodId} {below : List Frame} {meth : Method} {c : Code} {G : GT} {b L : Nat} {xs : Nat → Int32} {Inv : Mem → Prop} (X : CX p room_1 s m #[Value.ref b] meth c code 4 RL ret 2048 84000 G) (hX : va_X b L xs s s.heap) (hbl : b < s.heap.size) (hgh : gh G = s.heap.size) (hL : L ≤ 384) {t : Nat} (ht : 6 * t + 6 ≤ L) (next : ∀ (σ : Mem) (H : Heap) (locs : List Loc) (ls : Array Slot), PW G σ H → Inv σ → va_S (AA G) s.heap H locs → lv_has ls 4 [(3, .int (i32 ((6 * (t + 1) : Nat) : Int))), (0, .ref b), (1, .ref (gh G + 0)), (2, .ref (gh G + 111))] → W p l e room_1 s m #[Value.ref b] below meth c H locs 137 33782 (lw_Z below #[Value.ref b] s) (F0 m 18 ls [])) {σ : Mem} {H : Heap} {locs : List Loc} {ls : Array Slot} (hP : PW G σ H) (hstep : Step21 Inv σ) (hS : va_S (AA G) s.heap H locs) (hl : lv_has ls 4 [(3, .int (i32 ((6 * t : Nat) : Int))), (0, .ref b), (1, .ref (gh G + 0)), (2, .ref (gh G + 111))]) : W p l e room_1 s m #[Value.ref b] below meth c H locs 137 33782 (lw_Z below #[Value.ref b] s) (F0 m 943 ls []) := by
  obtain ⟨r, σ1, σ2, hf1, hf2, hI⟩ := hstep (ax xs (6 * t + 1)) (ax xs (6 * t + 2)) (ax xs (6 * t + 3)) (ax_in xs _) (ax_in xs _) (ax_in xs _)
  refine lv_aload_n X.1 X.2.1 dL_law_943 rfl (lv_at hl 2 rfl) ?_
  refine lv_aload_n X.1 X.2.1 dL_law_944 rfl (lv_at hl 1 rfl) ?_
  refine lv_iload_n X.1 X.2.1 dL_law_945 rfl (lv_at hl 0 rfl) ?_
  refine lv_iconst (v := i32 1) X.1 X.2.1 dL_law_946 rfl ?_
  refine lv_iadd X.1 X.2.1 dL_law_947 ?_
  refine l_ld (j := 6 * t + 1) X hX hbl hgh hS (i32_add _ _) (by omega) hL dL_law_948 ?_
  refine lv_aload_n X.1 X.2.1 dL_law_949 rfl (lv_at hl 1 rfl) ?_
  refine lv_iload_n X.1 X.2.1 dL_law_950 rfl (lv_at hl 0 rfl) ?_
  refine lv_iconst (v := i32 2) X.1 X.2.1 dL_law_951 rfl ?_
  refine lv_iadd X.1 X.2.1 dL_law_952 ?_
  refine l_ld (j := 6 * t + 2) X hX hbl hgh hS (i32_add _ _) (by omega) hL dL_law_953 ?_
  refine lv_aload_n X.1 X.2.1 dL_law_954 rfl (lv_at hl 1 rfl) ?_
  refine lv_iload_n X.1 X.2.1 dL_law_955 rfl (lv_at hl 0 rfl) ?_
  refine lv_iconst (v := i32 3) X.1 X.2.1 dL_law_956 rfl ?_
  refine lv_iadd X.1 X.2.1 dL_law_957 ?_
  refine l_ld (j := 6 * t + 3) X hX hbl hgh hS (i32_add _ _) (by omega) hL dL_law_958 ?_
  refine l_callV (n := 3) (As := [.int (i32 (ax xs (6 * t + 1))), .int (i32 (ax xs (6 * t + 2))), .int (i32 (ax xs (6 * t + 3)))]) X hP hS hl.1 (c_X10_lay hf1) (tb t_923 rfl) (tb t_924 rfl) (tb t_925 rfl) (tb t_75 rfl) (tb t_926 rfl) (by decide +kernel) ⟨Nat.le_of_ble_eq_true rfl, Nat.le_of_ble_eq_true rfl⟩ (r_recv X hP (kd_lt ks_10 (by decide)) (cE_10 ks_10) rfl) rfl rfl (Nat.le_of_ble_eq_true rfl) dL_law_959 ⟨Nat.le_of_ble_eq_true rfl, Nat.le_of_ble_eq_true rfl⟩ (fun H locs hP hS => ?_)
  refine lv_aload_n X.1 X.2.1 dL_law_962 rfl (lv_at hl 3 rfl) ?_
  refine lv_aload_n X.1 X.2.1 dL_law_963 rfl (lv_at hl 1 rfl) ?_
  refine lv_iload_n X.1 X.2.1 dL_law_964 rfl (lv_at hl 0 rfl) ?_
  refine lv_iconst (v := i32 1) X.1 X.2.1 dL_law_965 rfl ?_
  refine lv_iadd X.1 X.2.1 dL_law_966 ?_
  refine l_ld (j := 6 * t + 1) X hX hbl hgh hS (i32_add _ _) (by omega) hL dL_law_967 ?_
  refine lv_aload_n X.1 X.2.1 dL_law_968 rfl (lv_at hl 1 rfl) ?_
  refine lv_iload_n X.1 X.2.1 dL_law_969 rfl (lv_at hl 0 rfl) ?_
  refine lv_iconst (v := i32 2) X.1 X.2.1 dL_law_970 rfl ?_
  refine lv_iadd X.1 X.2.1 dL_law_971 ?_
  refine l_ld (j := 6 * t + 2) X hX hbl hgh hS (i32_add _ _) (by omega) hL dL_law_972 ?_
  refine lv_aload_n X.1 X.2.1 dL_law_973 rfl (lv_at hl 1 rfl) ?_
  refine lv_iload_n X.1 X.2.1 dL_law_974 rfl (lv_at hl 0 rfl) ?_
  refine lv_iconst (v := i32 3) X.1 X.2.1 dL_law_975 rfl ?_
  refine lv_iadd X.1 X.2.1 dL_law_976 ?_
  refine l_ld (j := 6 * t + 3) X hX hbl hgh hS (i32_add _ _) (by omega) hL dL_law_977 ?_
  refine l_callV (n := 3) (As := [.int (i32 (ax xs (6 * t + 1))), .int (i32 (ax xs (6 * t + 2))), .int (i32 (ax xs (6 * t + 3)))]) X hP hS hl.1 (c_X11_lay hf2) (tb t_1477 rfl) (tb t_1478 rfl) (tb t_1479 rfl) (tb t_87 rfl) (tb t_1480 rfl) (by decide +kernel) ⟨Nat.le_of_ble_eq_true rfl, Nat.le_of_ble_eq_true rfl⟩ (r_recv X hP (kd_lt ks_11 (by decide)) (cE_11 ks_11) rfl) rfl rfl (Nat.le_of_ble_eq_true rfl) dL_law_978 ⟨Nat.le_of_ble_eq_true rfl, Nat.le_of_ble_eq_true rfl⟩ (fun H locs hP hS => ?_)
  refine lv_icmp_eq (tgt := 1454) X.1 X.2.1 dL_law_981 (by decide) (fun _ => ?_) (fun q => absurd rfl q)
  refine lv_iinc (v := i32 ((6 * (t + 1) : Nat) : Int)) (lv' := [(3, .int (i32 ((6 * (t + 1) : Nat) : Int))), (0, .ref b), (1, .ref (gh G + 0)), (2, .ref (gh G + 111))]) X.1 X.2.1 dL_law_1454 hl (k := 0) rfl (i32_add _ _) (by decide) rfl (fun ls hl => ?_)
  refine lv_goto (tgt := 18) X.1 X.2.1 dL_law_1457 (by decide) ?_
  exact next _ H locs ls hP hI hS hl
set_option maxHeartbeats 4000000 in
theorem law_case_22 {p : Program} {l : Launch} {e : Env} {s : State} {m : MethodId} {below : List Frame} {meth : Method} {c : Code} {G : GT} {b L : Nat} {xs : Nat → Int32} {Inv : Mem → Prop} (X : CX p room_1 s m #[Value.ref b] meth c code 4 RL ret 2048 84000 G) (hX : va_X b L xs s s.heap) (hbl : b < s.heap.size) (hgh : gh G = s.heap.size) (hL : L ≤ 384) {t : Nat} (ht : 6 * t + 6 ≤ L) (next : ∀ (σ : Mem) (H : Heap) (locs : List Loc) (ls : Array Slot), PW G σ H → Inv σ → va_S (AA G) s.heap H locs → lv_has ls 4 [(3, .int (i32 ((6 * (t + 1) : Nat) : Int))), (0, .ref b), (1, .ref (gh G + 0)), (2, .ref (gh G + 111))] → W p l e room_1 s m #[Value.ref b] below meth c H locs 137 33782 (lw_Z below #[Value.ref b] s) (F0 m 18 ls [])) {σ : Mem} {H : Heap} {locs : List Loc} {ls : Array Slot} (hP : PW G σ H) (hstep : Step22 Inv σ) (hS : va_S (AA G) s.heap H locs) (hl : lv_has ls 4 [(3, .int (i32 ((6 * t : Nat) : Int))), (0, .ref b), (1, .ref (gh G + 0)), (2, .ref (gh G + 111))]) : W p l e room_1 s m #[Value.ref b] below meth c H locs 137 33782 (lw_Z below #[Value.ref b] s) (F0 m 986 ls []) := by
  obtain ⟨r, σ1, σ2, hf1, hf2, hI⟩ := hstep (ax xs (6 * t + 1)) (ax xs (6 * t + 2)) (ax_in xs _) (ax_in xs _)
  refine lv_aload_n X.1 X.2.1 dL_law_986 rfl (lv_at hl 2 rfl) ?_
  refine lv_aload_n X.1 X.2.1 dL_law_987 rfl (lv_at hl 1 rfl) ?_
  refine lv_iload_n X.1 X.2.1 dL_law_988 rfl (lv_at hl 0 rfl) ?_
  refine lv_iconst (v := i32 1) X.1 X.2.1 dL_law_989 rfl ?_
  refine lv_iadd X.1 X.2.1 dL_law_990 ?_
  refine l_ld (j := 6 * t + 1) X hX hbl hgh hS (i32_add _ _) (by omega) hL dL_law_991 ?_
  refine lv_aload_n X.1 X.2.1 dL_law_992 rfl (lv_at hl 1 rfl) ?_
  refine lv_iload_n X.1 X.2.1 dL_law_993 rfl (lv_at hl 0 rfl) ?_
  refine lv_iconst (v := i32 2) X.1 X.2.1 dL_law_994 rfl ?_
  refine lv_iadd X.1 X.2.1 dL_law_995 ?_
  refine l_ld (j := 6 * t + 2) X hX hbl hgh hS (i32_add _ _) (by omega) hL dL_law_996 ?_
  refine l_callV (n := 2) (As := [.int (i32 (ax xs (6 * t + 1))), .int (i32 (ax xs (6 * t + 2)))]) X hP hS hl.1 (c_X10_breakOf hf1) (tb t_931 rfl) (tb t_932 rfl) (tb t_933 rfl) (tb t_75 rfl) (tb t_934 rfl) (by decide +kernel) ⟨Nat.le_of_ble_eq_true rfl, Nat.le_of_ble_eq_true rfl⟩ (r_recv X hP (kd_lt ks_10 (by decide)) (cE_10 ks_10) rfl) rfl rfl (Nat.le_of_ble_eq_true rfl) dL_law_997 ⟨Nat.le_of_ble_eq_true rfl, Nat.le_of_ble_eq_true rfl⟩ (fun H locs hP hS => ?_)
  refine lv_aload_n X.1 X.2.1 dL_law_1000 rfl (lv_at hl 3 rfl) ?_
  refine lv_aload_n X.1 X.2.1 dL_law_1001 rfl (lv_at hl 1 rfl) ?_
  refine lv_iload_n X.1 X.2.1 dL_law_1002 rfl (lv_at hl 0 rfl) ?_
  refine lv_iconst (v := i32 1) X.1 X.2.1 dL_law_1003 rfl ?_
  refine lv_iadd X.1 X.2.1 dL_law_1004 ?_
  refine l_ld (j := 6 * t + 1) X hX hbl hgh hS (i32_add _ _) (by omega) hL dL_law_1005 ?_
  refine lv_aload_n X.1 X.2.1 dL_law_1006 rfl (lv_at hl 1 rfl) ?_
  refine lv_iload_n X.1 X.2.1 dL_law_1007 rfl (lv_at hl 0 rfl) ?_
  refine lv_iconst (v := i32 2) X.1 X.2.1 dL_law_1008 rfl ?_
  refine lv_iadd X.1 X.2.1 dL_law_1009 ?_
  refine l_ld (j := 6 * t + 2) X hX hbl hgh hS (i32_add _ _) (by omega) hL dL_law_1010 ?_
  refine l_callV (n := 2) (As := [.int (i32 (ax xs (6 * t + 1))), .int (i32 (ax xs (6 * t + 2)))]) X hP hS hl.1 (c_X11_breakOf hf2) (tb t_1481 rfl) (tb t_1482 rfl) (tb t_1483 rfl) (tb t_87 rfl) (tb t_1484 rfl) (by decide +kernel) ⟨Nat.le_of_ble_eq_true rfl, Nat.le_of_ble_eq_true rfl⟩ (r_recv X hP (kd_lt ks_11 (by decide)) (cE_11 ks_11) rfl) rfl rfl (Nat.le_of_ble_eq_true rfl) dL_law_1011 ⟨Nat.le_of_ble_eq_true rfl, Nat.le_of_ble_eq_true rfl⟩ (fun H locs hP hS => ?_)
  refine lv_icmp_eq (tgt := 1454) X.1 X.2.1 dL_law_1014 (by decide) (fun _ => ?_) (fun q => absurd rfl q)
  refine lv_iinc (v := i32 ((6 * (t + 1) : Nat) : Int)) (lv' := [(3, .int (i32 ((6 * (t + 1) : Nat) : Int))), (0, .ref b), (1, .ref (gh G + 0)), (2, .ref (gh G + 111))]) X.1 X.2.1 dL_law_1454 hl (k := 0) rfl (i32_add _ _) (by decide) rfl (fun ls hl => ?_)
  refine lv_goto (tgt := 18) X.1 X.2.1 dL_law_1457 (by decide) ?_
  exact next _ H locs ls hP hI hS hl
set_option maxHeartbeats 4000000 in
theorem law_case_23 {p : Program} {l : Launch} {e : Env} {s : State} {m : MethodId} {below : List Frame} {meth : Method} {c : Code} {G : GT} {b L : Nat} {xs : Nat → Int32} {Inv : Mem → Prop} (X : CX p room_1 s m #[Value.ref b] meth c code 4 RL ret 2048 84000 G) (hX : va_X b L xs s s.heap) (hbl : b < s.heap.size) (hgh : gh G = s.heap.size) (hL : L ≤ 384) {t : Nat} (ht : 6 * t + 6 ≤ L) (next : ∀ (σ : Mem) (H : Heap) (locs : List Loc) (ls : Array Slot), PW G σ H → Inv σ → va_S (AA G) s.heap H locs → lv_has ls 4 [(3, .int (i32 ((6 * (t + 1) : Nat) : Int))), (0, .ref b), (1, .ref (gh G + 0)), (2, .ref (gh G + 111))] → W p l e room_1 s m #[Value.ref b] below meth c H locs 137 33782 (lw_Z below #[Value.ref b] s) (F0 m 18 ls [])) {σ : Mem} {H : Heap} {locs : List Loc} {ls : Array Slot} (hP : PW G σ H) (hstep : Step23 Inv σ) (hS : va_S (AA G) s.heap H locs) (hl : lv_has ls 4 [(3, .int (i32 ((6 * t : Nat) : Int))), (0, .ref b), (1, .ref (gh G + 0)), (2, .ref (gh G + 111))]) : W p l e room_1 s m #[Value.ref b] below meth c H locs 137 33782 (lw_Z below #[Value.ref b] s) (F0 m 1019 ls []) := by
  obtain ⟨r, σ1, σ2, hf1, hf2, hI⟩ := hstep (ax xs (6 * t + 1)) (ax_in xs _)
  refine lv_aload_n X.1 X.2.1 dL_law_1019 rfl (lv_at hl 2 rfl) ?_
  refine lv_aload_n X.1 X.2.1 dL_law_1020 rfl (lv_at hl 1 rfl) ?_
  refine lv_iload_n X.1 X.2.1 dL_law_1021 rfl (lv_at hl 0 rfl) ?_
  refine lv_iconst (v := i32 1) X.1 X.2.1 dL_law_1022 rfl ?_
  refine lv_iadd X.1 X.2.1 dL_law_1023 ?_
  refine l_ld (j := 6 * t + 1) X hX hbl hgh hS (i32_add _ _) (by omega) hL dL_law_1024 ?_
  refine l_callV (n := 1) (As := [.int (i32 (ax xs (6 * t + 1)))]) X hP hS hl.1 (c_X10_clear hf1) (tb t_950 rfl) (tb t_951 rfl) (tb t_952 rfl) (tb t_75 rfl) (tb t_953 rfl) (by decide +kernel) ⟨Nat.le_of_ble_eq_true rfl, Nat.le_of_ble_eq_true rfl⟩ (r_recv X hP (kd_lt ks_10 (by decide)) (cE_10 ks_10) rfl) rfl rfl (Nat.le_of_ble_eq_true rfl) dL_law_1025 ⟨Nat.le_of_ble_eq_true rfl, Nat.le_of_ble_eq_true rfl⟩ (fun H locs hP hS => ?_)
  refine lv_aload_n X.1 X.2.1 dL_law_1028 rfl (lv_at hl 3 rfl) ?_
  refine lv_aload_n X.1 X.2.1 dL_law_1029 rfl (lv_at hl 1 rfl) ?_
  refine lv_iload_n X.1 X.2.1 dL_law_1030 rfl (lv_at hl 0 rfl) ?_
  refine lv_iconst (v := i32 1) X.1 X.2.1 dL_law_1031 rfl ?_
  refine lv_iadd X.1 X.2.1 dL_law_1032 ?_
  refine l_ld (j := 6 * t + 1) X hX hbl hgh hS (i32_add _ _) (by omega) hL dL_law_1033 ?_
  refine l_callV (n := 1) (As := [.int (i32 (ax xs (6 * t + 1)))]) X hP hS hl.1 (c_X11_clear hf2) (tb t_1501 rfl) (tb t_1502 rfl) (tb t_1503 rfl) (tb t_87 rfl) (tb t_1504 rfl) (by decide +kernel) ⟨Nat.le_of_ble_eq_true rfl, Nat.le_of_ble_eq_true rfl⟩ (r_recv X hP (kd_lt ks_11 (by decide)) (cE_11 ks_11) rfl) rfl rfl (Nat.le_of_ble_eq_true rfl) dL_law_1034 ⟨Nat.le_of_ble_eq_true rfl, Nat.le_of_ble_eq_true rfl⟩ (fun H locs hP hS => ?_)
  refine lv_icmp_eq (tgt := 1454) X.1 X.2.1 dL_law_1037 (by decide) (fun _ => ?_) (fun q => absurd rfl q)
  refine lv_iinc (v := i32 ((6 * (t + 1) : Nat) : Int)) (lv' := [(3, .int (i32 ((6 * (t + 1) : Nat) : Int))), (0, .ref b), (1, .ref (gh G + 0)), (2, .ref (gh G + 111))]) X.1 X.2.1 dL_law_1454 hl (k := 0) rfl (i32_add _ _) (by decide) rfl (fun ls hl => ?_)
  refine lv_goto (tgt := 18) X.1 X.2.1 dL_law_1457 (by decide) ?_
  exact next _ H locs ls hP hI hS hl
set_option maxHeartbeats 4000000 in
theorem law_case_24 {p : Program} {l : Launch} {e : Env} {s : State} {m : MethodId} {below : List Frame} {meth : Method} {c : Code} {G : GT} {b L : Nat} {xs : Nat → Int32} {Inv : Mem → Prop} (X : CX p room_1 s m #[Value.ref b] meth c code 4 RL ret 2048 84000 G) (hX : va_X b L xs s s.heap) (hbl : b < s.heap.size) (hgh : gh G = s.heap.size) (hL : L ≤ 384) {t : Nat} (ht : 6 * t + 6 ≤ L) (next : ∀ (σ : Mem) (H : Heap) (locs : List Loc) (ls : Array Slot), PW G σ H → Inv σ → va_S (AA G) s.heap H locs → lv_has ls 4 [(3, .int (i32 ((6 * (t + 1) : Nat) : Int))), (0, .ref b), (1, .ref (gh G + 0)), (2, .ref (gh G + 111))] → W p l e room_1 s m #[Value.ref b] below meth c H locs 137 33782 (lw_Z below #[Value.ref b] s) (F0 m 18 ls [])) {σ : Mem} {H : Heap} {locs : List Loc} {ls : Array Slot} (hP : PW G σ H) (hstep : Step24 Inv σ) (hS : va_S (AA G) s.heap H locs) (hl : lv_has ls 4 [(3, .int (i32 ((6 * t : Nat) : Int))), (0, .ref b), (1, .ref (gh G + 0)), (2, .ref (gh G + 111))]) : W p l e room_1 s m #[Value.ref b] below meth c H locs 137 33782 (lw_Z below #[Value.ref b] s) (F0 m 1042 ls []) := by
  obtain ⟨r, σ1, σ2, hf1, hf2, hI⟩ := hstep (ax xs (6 * t + 1)) (ax_in xs _)
  refine lv_aload_n X.1 X.2.1 dL_law_1042 rfl (lv_at hl 2 rfl) ?_
  refine lv_aload_n X.1 X.2.1 dL_law_1043 rfl (lv_at hl 1 rfl) ?_
  refine lv_iload_n X.1 X.2.1 dL_law_1044 rfl (lv_at hl 0 rfl) ?_
  refine lv_iconst (v := i32 1) X.1 X.2.1 dL_law_1045 rfl ?_
  refine lv_iadd X.1 X.2.1 dL_law_1046 ?_
  refine l_ld (j := 6 * t + 1) X hX hbl hgh hS (i32_add _ _) (by omega) hL dL_law_1047 ?_
  refine l_callV (n := 1) (As := [.int (i32 (ax xs (6 * t + 1)))]) X hP hS hl.1 (c_X10_price hf1) (tb t_962 rfl) (tb t_963 rfl) (tb t_964 rfl) (tb t_75 rfl) (tb t_965 rfl) (by decide +kernel) ⟨Nat.le_of_ble_eq_true rfl, Nat.le_of_ble_eq_true rfl⟩ (r_recv X hP (kd_lt ks_10 (by decide)) (cE_10 ks_10) rfl) rfl rfl (Nat.le_of_ble_eq_true rfl) dL_law_1048 ⟨Nat.le_of_ble_eq_true rfl, Nat.le_of_ble_eq_true rfl⟩ (fun H locs hP hS => ?_)
  refine lv_aload_n X.1 X.2.1 dL_law_1051 rfl (lv_at hl 3 rfl) ?_
  refine lv_aload_n X.1 X.2.1 dL_law_1052 rfl (lv_at hl 1 rfl) ?_
  refine lv_iload_n X.1 X.2.1 dL_law_1053 rfl (lv_at hl 0 rfl) ?_
  refine lv_iconst (v := i32 1) X.1 X.2.1 dL_law_1054 rfl ?_
  refine lv_iadd X.1 X.2.1 dL_law_1055 ?_
  refine l_ld (j := 6 * t + 1) X hX hbl hgh hS (i32_add _ _) (by omega) hL dL_law_1056 ?_
  refine l_callV (n := 1) (As := [.int (i32 (ax xs (6 * t + 1)))]) X hP hS hl.1 (c_X11_price hf2) (tb t_1505 rfl) (tb t_1506 rfl) (tb t_1507 rfl) (tb t_87 rfl) (tb t_1508 rfl) (by decide +kernel) ⟨Nat.le_of_ble_eq_true rfl, Nat.le_of_ble_eq_true rfl⟩ (r_recv X hP (kd_lt ks_11 (by decide)) (cE_11 ks_11) rfl) rfl rfl (Nat.le_of_ble_eq_true rfl) dL_law_1057 ⟨Nat.le_of_ble_eq_true rfl, Nat.le_of_ble_eq_true rfl⟩ (fun H locs hP hS => ?_)
  refine lv_icmp_eq (tgt := 1454) X.1 X.2.1 dL_law_1060 (by decide) (fun _ => ?_) (fun q => absurd rfl q)
  refine lv_iinc (v := i32 ((6 * (t + 1) : Nat) : Int)) (lv' := [(3, .int (i32 ((6 * (t + 1) : Nat) : Int))), (0, .ref b), (1, .ref (gh G + 0)), (2, .ref (gh G + 111))]) X.1 X.2.1 dL_law_1454 hl (k := 0) rfl (i32_add _ _) (by decide) rfl (fun ls hl => ?_)
  refine lv_goto (tgt := 18) X.1 X.2.1 dL_law_1457 (by decide) ?_
  exact next _ H locs ls hP hI hS hl
set_option maxHeartbeats 4000000 in
theorem law_case_25 {p : Program} {l : Launch} {e : Env} {s : State} {m : MethodId} {below : List Frame} {meth : Method} {c : Code} {G : GT} {b L : Nat} {xs : Nat → Int32} {Inv : Mem → Prop} (X : CX p room_1 s m #[Value.ref b] meth c code 4 RL ret 2048 84000 G) (hX : va_X b L xs s s.heap) (hbl : b < s.heap.size) (hgh : gh G = s.heap.size) (hL : L ≤ 384) {t : Nat} (ht : 6 * t + 6 ≤ L) (next : ∀ (σ : Mem) (H : Heap) (locs : List Loc) (ls : Array Slot), PW G σ H → Inv σ → va_S (AA G) s.heap H locs → lv_has ls 4 [(3, .int (i32 ((6 * (t + 1) : Nat) : Int))), (0, .ref b), (1, .ref (gh G + 0)), (2, .ref (gh G + 111))] → W p l e room_1 s m #[Value.ref b] below meth c H locs 137 33782 (lw_Z below #[Value.ref b] s) (F0 m 18 ls [])) {σ : Mem} {H : Heap} {locs : List Loc} {ls : Array Slot} (hP : PW G σ H) (hstep : Step25 Inv σ) (hS : va_S (AA G) s.heap H locs) (hl : lv_has ls 4 [(3, .int (i32 ((6 * t : Nat) : Int))), (0, .ref b), (1, .ref (gh G + 0)), (2, .ref (gh G + 111))]) : W p l e room_1 s m #[Value.ref b] below meth c H locs 137 33782 (lw_Z below #[Value.ref b] s) (F0 m 1065 ls []) := by
  obtain ⟨r, σ1, σ2, hf1, hf2, hI⟩ := hstep (ax xs (6 * t + 1)) (ax_in xs _)
  refine lv_aload_n X.1 X.2.1 dL_law_1065 rfl (lv_at hl 2 rfl) ?_
  refine lv_aload_n X.1 X.2.1 dL_law_1066 rfl (lv_at hl 1 rfl) ?_
  refine lv_iload_n X.1 X.2.1 dL_law_1067 rfl (lv_at hl 0 rfl) ?_
  refine lv_iconst (v := i32 1) X.1 X.2.1 dL_law_1068 rfl ?_
  refine lv_iadd X.1 X.2.1 dL_law_1069 ?_
  refine l_ld (j := 6 * t + 1) X hX hbl hgh hS (i32_add _ _) (by omega) hL dL_law_1070 ?_
  refine l_callV (n := 1) (As := [.int (i32 (ax xs (6 * t + 1)))]) X hP hS hl.1 (c_X10_judge hf1) (tb t_966 rfl) (tb t_967 rfl) (tb t_968 rfl) (tb t_75 rfl) (tb t_969 rfl) (by decide +kernel) ⟨Nat.le_of_ble_eq_true rfl, Nat.le_of_ble_eq_true rfl⟩ (r_recv X hP (kd_lt ks_10 (by decide)) (cE_10 ks_10) rfl) rfl rfl (Nat.le_of_ble_eq_true rfl) dL_law_1071 ⟨Nat.le_of_ble_eq_true rfl, Nat.le_of_ble_eq_true rfl⟩ (fun H locs hP hS => ?_)
  refine lv_aload_n X.1 X.2.1 dL_law_1074 rfl (lv_at hl 3 rfl) ?_
  refine lv_aload_n X.1 X.2.1 dL_law_1075 rfl (lv_at hl 1 rfl) ?_
  refine lv_iload_n X.1 X.2.1 dL_law_1076 rfl (lv_at hl 0 rfl) ?_
  refine lv_iconst (v := i32 1) X.1 X.2.1 dL_law_1077 rfl ?_
  refine lv_iadd X.1 X.2.1 dL_law_1078 ?_
  refine l_ld (j := 6 * t + 1) X hX hbl hgh hS (i32_add _ _) (by omega) hL dL_law_1079 ?_
  refine l_callV (n := 1) (As := [.int (i32 (ax xs (6 * t + 1)))]) X hP hS hl.1 (c_X11_judge hf2) (tb t_1509 rfl) (tb t_1510 rfl) (tb t_1511 rfl) (tb t_87 rfl) (tb t_1512 rfl) (by decide +kernel) ⟨Nat.le_of_ble_eq_true rfl, Nat.le_of_ble_eq_true rfl⟩ (r_recv X hP (kd_lt ks_11 (by decide)) (cE_11 ks_11) rfl) rfl rfl (Nat.le_of_ble_eq_true rfl) dL_law_1080 ⟨Nat.le_of_ble_eq_true rfl, Nat.le_of_ble_eq_true rfl⟩ (fun H locs hP hS => ?_)
  refine lv_icmp_eq (tgt := 1454) X.1 X.2.1 dL_law_1083 (by decide) (fun _ => ?_) (fun q => absurd rfl q)
  refine lv_iinc (v := i32 ((6 * (t + 1) : Nat) : Int)) (lv' := [(3, .int (i32 ((6 * (t + 1) : Nat) : Int))), (0, .ref b), (1, .ref (gh G + 0)), (2, .ref (gh G + 111))]) X.1 X.2.1 dL_law_1454 hl (k := 0) rfl (i32_add _ _) (by decide) rfl (fun ls hl => ?_)
  refine lv_goto (tgt := 18) X.1 X.2.1 dL_law_1457 (by decide) ?_
  exact next _ H locs ls hP hI hS hl
set_option maxHeartbeats 4000000 in
theorem law_case_26 {p : Program} {l : Launch} {e : Env} {s : State} {m : MethodId} {below : List Frame} {meth : Method} {c : Code} {G : GT} {b L : Nat} {xs : Nat → Int32} {Inv : Mem → Prop} (X : CX p room_1 s m #[Value.ref b] meth c code 4 RL ret 2048 84000 G) (hX : va_X b L xs s s.heap) (hbl : b < s.heap.size) (hgh : gh G = s.heap.size) (hL : L ≤ 384) {t : Nat} (ht : 6 * t + 6 ≤ L) (next : ∀ (σ : Mem) (H : Heap) (locs : List Loc) (ls : Array Slot), PW G σ H → Inv σ → va_S (AA G) s.heap H locs → lv_has ls 4 [(3, .int (i32 ((6 * (t + 1) : Nat) : Int))), (0, .ref b), (1, .ref (gh G + 0)), (2, .ref (gh G + 111))] → W p l e room_1 s m #[Value.ref b] below meth c H locs 137 33782 (lw_Z below #[Value.ref b] s) (F0 m 18 ls [])) {σ : Mem} {H : Heap} {locs : List Loc} {ls : Array Slot} (hP : PW G σ H) (hstep : Step26 Inv σ) (hS : va_S (AA G) s.heap H locs) (hl : lv_has ls 4 [(3, .int (i32 ((6 * t : Nat) : Int))), (0, .ref b), (1, .ref (gh G + 0)), (2, .ref (gh G + 111))]) : W p l e room_1 s m #[Value.ref b] below meth c H locs 137 33782 (lw_Z below #[Value.ref b] s) (F0 m 1088 ls []) := by
  obtain ⟨r, σ1, σ2, hf1, hf2, hI⟩ := hstep (ax xs (6 * t + 1)) (ax xs (6 * t + 2)) (ax_in xs _) (ax_in xs _)
  refine lv_aload_n X.1 X.2.1 dL_law_1088 rfl (lv_at hl 2 rfl) ?_
  refine lv_aload_n X.1 X.2.1 dL_law_1089 rfl (lv_at hl 1 rfl) ?_
  refine lv_iload_n X.1 X.2.1 dL_law_1090 rfl (lv_at hl 0 rfl) ?_
  refine lv_iconst (v := i32 1) X.1 X.2.1 dL_law_1091 rfl ?_
  refine lv_iadd X.1 X.2.1 dL_law_1092 ?_
  refine l_ld (j := 6 * t + 1) X hX hbl hgh hS (i32_add _ _) (by omega) hL dL_law_1093 ?_
  refine lv_aload_n X.1 X.2.1 dL_law_1094 rfl (lv_at hl 1 rfl) ?_
  refine lv_iload_n X.1 X.2.1 dL_law_1095 rfl (lv_at hl 0 rfl) ?_
  refine lv_iconst (v := i32 2) X.1 X.2.1 dL_law_1096 rfl ?_
  refine lv_iadd X.1 X.2.1 dL_law_1097 ?_
  refine l_ld (j := 6 * t + 2) X hX hbl hgh hS (i32_add _ _) (by omega) hL dL_law_1098 ?_
  refine l_callV (n := 2) (As := [.int (i32 (ax xs (6 * t + 1))), .int (i32 (ax xs (6 * t + 2)))]) X hP hS hl.1 (c_X10_hold hf1) (tb t_979 rfl) (tb t_980 rfl) (tb t_981 rfl) (tb t_75 rfl) (tb t_982 rfl) (by decide +kernel) ⟨Nat.le_of_ble_eq_true rfl, Nat.le_of_ble_eq_true rfl⟩ (r_recv X hP (kd_lt ks_10 (by decide)) (cE_10 ks_10) rfl) rfl rfl (Nat.le_of_ble_eq_true rfl) dL_law_1099 ⟨Nat.le_of_ble_eq_true rfl, Nat.le_of_ble_eq_true rfl⟩ (fun H locs hP hS => ?_)
  refine lv_aload_n X.1 X.2.1 dL_law_1102 rfl (lv_at hl 3 rfl) ?_
  refine lv_aload_n X.1 X.2.1 dL_law_1103 rfl (lv_at hl 1 rfl) ?_
  refine lv_iload_n X.1 X.2.1 dL_law_1104 rfl (lv_at hl 0 rfl) ?_
  refine lv_iconst (v := i32 1) X.1 X.2.1 dL_law_1105 rfl ?_
  refine lv_iadd X.1 X.2.1 dL_law_1106 ?_
  refine l_ld (j := 6 * t + 1) X hX hbl hgh hS (i32_add _ _) (by omega) hL dL_law_1107 ?_
  refine lv_aload_n X.1 X.2.1 dL_law_1108 rfl (lv_at hl 1 rfl) ?_
  refine lv_iload_n X.1 X.2.1 dL_law_1109 rfl (lv_at hl 0 rfl) ?_
  refine lv_iconst (v := i32 2) X.1 X.2.1 dL_law_1110 rfl ?_
  refine lv_iadd X.1 X.2.1 dL_law_1111 ?_
  refine l_ld (j := 6 * t + 2) X hX hbl hgh hS (i32_add _ _) (by omega) hL dL_law_1112 ?_
  refine l_callV (n := 2) (As := [.int (i32 (ax xs (6 * t + 1))), .int (i32 (ax xs (6 * t + 2)))]) X hP hS hl.1 (c_X11_hold hf2) (tb t_1513 rfl) (tb t_1514 rfl) (tb t_1515 rfl) (tb t_87 rfl) (tb t_1516 rfl) (by decide +kernel) ⟨Nat.le_of_ble_eq_true rfl, Nat.le_of_ble_eq_true rfl⟩ (r_recv X hP (kd_lt ks_11 (by decide)) (cE_11 ks_11) rfl) rfl rfl (Nat.le_of_ble_eq_true rfl) dL_law_1113 ⟨Nat.le_of_ble_eq_true rfl, Nat.le_of_ble_eq_true rfl⟩ (fun H locs hP hS => ?_)
  refine lv_icmp_eq (tgt := 1454) X.1 X.2.1 dL_law_1116 (by decide) (fun _ => ?_) (fun q => absurd rfl q)
  refine lv_iinc (v := i32 ((6 * (t + 1) : Nat) : Int)) (lv' := [(3, .int (i32 ((6 * (t + 1) : Nat) : Int))), (0, .ref b), (1, .ref (gh G + 0)), (2, .ref (gh G + 111))]) X.1 X.2.1 dL_law_1454 hl (k := 0) rfl (i32_add _ _) (by decide) rfl (fun ls hl => ?_)
  refine lv_goto (tgt := 18) X.1 X.2.1 dL_law_1457 (by decide) ?_
  exact next _ H locs ls hP hI hS hl
set_option maxHeartbeats 4000000 in
theorem law_case_27 {p : Program} {l : Launch} {e : Env} {s : State} {m : MethodId} {below : List Frame} {meth : Method} {c : Code} {G : GT} {b L : Nat} {xs : Nat → Int32} {Inv : Mem → Prop} (X : CX p room_1 s m #[Value.ref b] meth c code 4 RL ret 2048 84000 G) (hX : va_X b L xs s s.heap) (hbl : b < s.heap.size) (hgh : gh G = s.heap.size) (hL : L ≤ 384) {t : Nat} (ht : 6 * t + 6 ≤ L) (next : ∀ (σ : Mem) (H : Heap) (locs : List Loc) (ls : Array Slot), PW G σ H → Inv σ → va_S (AA G) s.heap H locs → lv_has ls 4 [(3, .int (i32 ((6 * (t + 1) : Nat) : Int))), (0, .ref b), (1, .ref (gh G + 0)), (2, .ref (gh G + 111))] → W p l e room_1 s m #[Value.ref b] below meth c H locs 137 33782 (lw_Z below #[Value.ref b] s) (F0 m 18 ls [])) {σ : Mem} {H : Heap} {locs : List Loc} {ls : Array Slot} (hP : PW G σ H) (hstep : Step27 Inv σ) (hS : va_S (AA G) s.heap H locs) (hl : lv_has ls 4 [(3, .int (i32 ((6 * t : Nat) : Int))), (0, .ref b), (1, .ref (gh G + 0)), (2, .ref (gh G + 111))]) : W p l e room_1 s m #[Value.ref b] below meth c H locs 137 33782 (lw_Z below #[Value.ref b] s) (F0 m 1121 ls []) := by
  obtain ⟨r, σ1, σ2, hf1, hf2, hI⟩ := hstep (ax xs (6 * t + 1)) (ax xs (6 * t + 2)) (ax_in xs _) (ax_in xs _)
  refine lv_aload_n X.1 X.2.1 dL_law_1121 rfl (lv_at hl 2 rfl) ?_
  refine lv_aload_n X.1 X.2.1 dL_law_1122 rfl (lv_at hl 1 rfl) ?_
  refine lv_iload_n X.1 X.2.1 dL_law_1123 rfl (lv_at hl 0 rfl) ?_
  refine lv_iconst (v := i32 1) X.1 X.2.1 dL_law_1124 rfl ?_
  refine lv_iadd X.1 X.2.1 dL_law_1125 ?_
  refine l_ld (j := 6 * t + 1) X hX hbl hgh hS (i32_add _ _) (by omega) hL dL_law_1126 ?_
  refine lv_aload_n X.1 X.2.1 dL_law_1127 rfl (lv_at hl 1 rfl) ?_
  refine lv_iload_n X.1 X.2.1 dL_law_1128 rfl (lv_at hl 0 rfl) ?_
  refine lv_iconst (v := i32 2) X.1 X.2.1 dL_law_1129 rfl ?_
  refine lv_iadd X.1 X.2.1 dL_law_1130 ?_
  refine l_ld (j := 6 * t + 2) X hX hbl hgh hS (i32_add _ _) (by omega) hL dL_law_1131 ?_
  refine l_callV (n := 2) (As := [.int (i32 (ax xs (6 * t + 1))), .int (i32 (ax xs (6 * t + 2)))]) X hP hS hl.1 (c_X10_as hf1) (tb t_983 rfl) (tb t_984 rfl) (tb t_985 rfl) (tb t_75 rfl) (tb t_986 rfl) (by decide +kernel) ⟨Nat.le_of_ble_eq_true rfl, Nat.le_of_ble_eq_true rfl⟩ (r_recv X hP (kd_lt ks_10 (by decide)) (cE_10 ks_10) rfl) rfl rfl (Nat.le_of_ble_eq_true rfl) dL_law_1132 ⟨Nat.le_of_ble_eq_true rfl, Nat.le_of_ble_eq_true rfl⟩ (fun H locs hP hS => ?_)
  refine lv_aload_n X.1 X.2.1 dL_law_1135 rfl (lv_at hl 3 rfl) ?_
  refine lv_aload_n X.1 X.2.1 dL_law_1136 rfl (lv_at hl 1 rfl) ?_
  refine lv_iload_n X.1 X.2.1 dL_law_1137 rfl (lv_at hl 0 rfl) ?_
  refine lv_iconst (v := i32 1) X.1 X.2.1 dL_law_1138 rfl ?_
  refine lv_iadd X.1 X.2.1 dL_law_1139 ?_
  refine l_ld (j := 6 * t + 1) X hX hbl hgh hS (i32_add _ _) (by omega) hL dL_law_1140 ?_
  refine lv_aload_n X.1 X.2.1 dL_law_1141 rfl (lv_at hl 1 rfl) ?_
  refine lv_iload_n X.1 X.2.1 dL_law_1142 rfl (lv_at hl 0 rfl) ?_
  refine lv_iconst (v := i32 2) X.1 X.2.1 dL_law_1143 rfl ?_
  refine lv_iadd X.1 X.2.1 dL_law_1144 ?_
  refine l_ld (j := 6 * t + 2) X hX hbl hgh hS (i32_add _ _) (by omega) hL dL_law_1145 ?_
  refine l_callV (n := 2) (As := [.int (i32 (ax xs (6 * t + 1))), .int (i32 (ax xs (6 * t + 2)))]) X hP hS hl.1 (c_X11_as hf2) (tb t_1518 rfl) (tb t_1519 rfl) (tb t_1520 rfl) (tb t_87 rfl) (tb t_1521 rfl) (by decide +kernel) ⟨Nat.le_of_ble_eq_true rfl, Nat.le_of_ble_eq_true rfl⟩ (r_recv X hP (kd_lt ks_11 (by decide)) (cE_11 ks_11) rfl) rfl rfl (Nat.le_of_ble_eq_true rfl) dL_law_1146 ⟨Nat.le_of_ble_eq_true rfl, Nat.le_of_ble_eq_true rfl⟩ (fun H locs hP hS => ?_)
  refine lv_icmp_eq (tgt := 1454) X.1 X.2.1 dL_law_1149 (by decide) (fun _ => ?_) (fun q => absurd rfl q)
  refine lv_iinc (v := i32 ((6 * (t + 1) : Nat) : Int)) (lv' := [(3, .int (i32 ((6 * (t + 1) : Nat) : Int))), (0, .ref b), (1, .ref (gh G + 0)), (2, .ref (gh G + 111))]) X.1 X.2.1 dL_law_1454 hl (k := 0) rfl (i32_add _ _) (by decide) rfl (fun ls hl => ?_)
  refine lv_goto (tgt := 18) X.1 X.2.1 dL_law_1457 (by decide) ?_
  exact next _ H locs ls hP hI hS hl
set_option maxHeartbeats 4000000 in
theorem law_case_28 {p : Program} {l : Launch} {e : Env} {s : State} {m : MethodId} {below : List Frame} {meth : Method} {c : Code} {G : GT} {b L : Nat} {xs : Nat → Int32} {Inv : Mem → Prop} (X : CX p room_1 s m #[Value.ref b] meth c code 4 RL ret 2048 84000 G) (hX : va_X b L xs s s.heap) (hbl : b < s.heap.size) (hgh : gh G = s.heap.size) (hL : L ≤ 384) {t : Nat} (ht : 6 * t + 6 ≤ L) (next : ∀ (σ : Mem) (H : Heap) (locs : List Loc) (ls : Array Slot), PW G σ H → Inv σ → va_S (AA G) s.heap H locs → lv_has ls 4 [(3, .int (i32 ((6 * (t + 1) : Nat) : Int))), (0, .ref b), (1, .ref (gh G + 0)), (2, .ref (gh G + 111))] → W p l e room_1 s m #[Value.ref b] below meth c H locs 137 33782 (lw_Z below #[Value.ref b] s) (F0 m 18 ls [])) {σ : Mem} {H : Heap} {locs : List Loc} {ls : Array Slot} (hP : PW G σ H) (hstep : Step28 Inv σ) (hS : va_S (AA G) s.heap H locs) (hl : lv_has ls 4 [(3, .int (i32 ((6 * t : Nat) : Int))), (0, .ref b), (1, .ref (gh G + 0)), (2, .ref (gh G + 111))]) : W p l e room_1 s m #[Value.ref b] below meth c H locs 137 33782 (lw_Z below #[Value.ref b] s) (F0 m 1154 ls []) := by
  obtain ⟨r, σ1, σ2, hf1, hf2, hI⟩ := hstep (ax xs (6 * t + 1)) (ax xs (6 * t + 2)) (ax xs (6 * t + 3)) (ax_in xs _) (ax_in xs _) (ax_in xs _)
  refine lv_aload_n X.1 X.2.1 dL_law_1154 rfl (lv_at hl 2 rfl) ?_
  refine lv_aload_n X.1 X.2.1 dL_law_1155 rfl (lv_at hl 1 rfl) ?_
  refine lv_iload_n X.1 X.2.1 dL_law_1156 rfl (lv_at hl 0 rfl) ?_
  refine lv_iconst (v := i32 1) X.1 X.2.1 dL_law_1157 rfl ?_
  refine lv_iadd X.1 X.2.1 dL_law_1158 ?_
  refine l_ld (j := 6 * t + 1) X hX hbl hgh hS (i32_add _ _) (by omega) hL dL_law_1159 ?_
  refine lv_aload_n X.1 X.2.1 dL_law_1160 rfl (lv_at hl 1 rfl) ?_
  refine lv_iload_n X.1 X.2.1 dL_law_1161 rfl (lv_at hl 0 rfl) ?_
  refine lv_iconst (v := i32 2) X.1 X.2.1 dL_law_1162 rfl ?_
  refine lv_iadd X.1 X.2.1 dL_law_1163 ?_
  refine l_ld (j := 6 * t + 2) X hX hbl hgh hS (i32_add _ _) (by omega) hL dL_law_1164 ?_
  refine lv_aload_n X.1 X.2.1 dL_law_1165 rfl (lv_at hl 1 rfl) ?_
  refine lv_iload_n X.1 X.2.1 dL_law_1166 rfl (lv_at hl 0 rfl) ?_
  refine lv_iconst (v := i32 3) X.1 X.2.1 dL_law_1167 rfl ?_
  refine lv_iadd X.1 X.2.1 dL_law_1168 ?_
  refine l_ld (j := 6 * t + 3) X hX hbl hgh hS (i32_add _ _) (by omega) hL dL_law_1169 ?_
  refine l_callV (n := 3) (As := [.int (i32 (ax xs (6 * t + 1))), .int (i32 (ax xs (6 * t + 2))), .int (i32 (ax xs (6 * t + 3)))]) X hP hS hl.1 (c_X10_sheet hf1) (tb t_993 rfl) (tb t_994 rfl) (tb t_995 rfl) (tb t_75 rfl) (tb t_996 rfl) (by decide +kernel) ⟨Nat.le_of_ble_eq_true rfl, Nat.le_of_ble_eq_true rfl⟩ (r_recv X hP (kd_lt ks_10 (by decide)) (cE_10 ks_10) rfl) rfl rfl (Nat.le_of_ble_eq_true rfl) dL_law_1170 ⟨Nat.le_of_ble_eq_true rfl, Nat.le_of_ble_eq_true rfl⟩ (fun H locs hP hS => ?_)
  refine lv_aload_n X.1 X.2.1 dL_law_1173 rfl (lv_at hl 3 rfl) ?_
  refine lv_aload_n X.1 X.2.1 dL_law_1174 rfl (lv_at hl 1 rfl) ?_
  refine lv_iload_n X.1 X.2.1 dL_law_1175 rfl (lv_at hl 0 rfl) ?_
  refine lv_iconst (v := i32 1) X.1 X.2.1 dL_law_1176 rfl ?_
  refine lv_iadd X.1 X.2.1 dL_law_1177 ?_
  refine l_ld (j := 6 * t + 1) X hX hbl hgh hS (i32_add _ _) (by omega) hL dL_law_1178 ?_
  refine lv_aload_n X.1 X.2.1 dL_law_1179 rfl (lv_at hl 1 rfl) ?_
  refine lv_iload_n X.1 X.2.1 dL_law_1180 rfl (lv_at hl 0 rfl) ?_
  refine lv_iconst (v := i32 2) X.1 X.2.1 dL_law_1181 rfl ?_
  refine lv_iadd X.1 X.2.1 dL_law_1182 ?_
  refine l_ld (j := 6 * t + 2) X hX hbl hgh hS (i32_add _ _) (by omega) hL dL_law_1183 ?_
  refine lv_aload_n X.1 X.2.1 dL_law_1184 rfl (lv_at hl 1 rfl) ?_
  refine lv_iload_n X.1 X.2.1 dL_law_1185 rfl (lv_at hl 0 rfl) ?_
  refine lv_iconst (v := i32 3) X.1 X.2.1 dL_law_1186 rfl ?_
  refine lv_iadd X.1 X.2.1 dL_law_1187 ?_
  refine l_ld (j := 6 * t + 3) X hX hbl hgh hS (i32_add _ _) (by omega) hL dL_law_1188 ?_
  refine l_callV (n := 3) (As := [.int (i32 (ax xs (6 * t + 1))), .int (i32 (ax xs (6 * t + 2))), .int (i32 (ax xs (6 * t + 3)))]) X hP hS hl.1 (c_X11_sheet hf2) (tb t_1528 rfl) (tb t_1529 rfl) (tb t_1530 rfl) (tb t_87 rfl) (tb t_1531 rfl) (by decide +kernel) ⟨Nat.le_of_ble_eq_true rfl, Nat.le_of_ble_eq_true rfl⟩ (r_recv X hP (kd_lt ks_11 (by decide)) (cE_11 ks_11) rfl) rfl rfl (Nat.le_of_ble_eq_true rfl) dL_law_1189 ⟨Nat.le_of_ble_eq_true rfl, Nat.le_of_ble_eq_true rfl⟩ (fun H locs hP hS => ?_)
  refine lv_icmp_eq (tgt := 1454) X.1 X.2.1 dL_law_1192 (by decide) (fun _ => ?_) (fun q => absurd rfl q)
  refine lv_iinc (v := i32 ((6 * (t + 1) : Nat) : Int)) (lv' := [(3, .int (i32 ((6 * (t + 1) : Nat) : Int))), (0, .ref b), (1, .ref (gh G + 0)), (2, .ref (gh G + 111))]) X.1 X.2.1 dL_law_1454 hl (k := 0) rfl (i32_add _ _) (by decide) rfl (fun ls hl => ?_)
  refine lv_goto (tgt := 18) X.1 X.2.1 dL_law_1457 (by decide) ?_
  exact next _ H locs ls hP hI hS hl
set_option maxHeartbeats 4000000 in
theorem law_case_29 {p : Program} {l : Launch} {e : Env} {s : State} {m : MethodId} {below : List Frame} {meth : Method} {c : Code} {G : GT} {b L : Nat} {xs : Nat → Int32} {Inv : Mem → Prop} (X : CX p room_1 s m #[Value.ref b] meth c code 4 RL ret 2048 84000 G) (hX : va_X b L xs s s.heap) (hbl : b < s.heap.size) (hgh : gh G = s.heap.size) (hL : L ≤ 384) {t : Nat} (ht : 6 * t + 6 ≤ L) (next : ∀ (σ : Mem) (H : Heap) (locs : List Loc) (ls : Array Slot), PW G σ H → Inv σ → va_S (AA G) s.heap H locs → lv_has ls 4 [(3, .int (i32 ((6 * (t + 1) : Nat) : Int))), (0, .ref b), (1, .ref (gh G + 0)), (2, .ref (gh G + 111))] → W p l e room_1 s m #[Value.ref b] below meth c H locs 137 33782 (lw_Z below #[Value.ref b] s) (F0 m 18 ls [])) {σ : Mem} {H : Heap} {locs : List Loc} {ls : Array Slot} (hP : PW G σ H) (hstep : Step29 Inv σ) (hS : va_S (AA G) s.heap H locs) (hl : lv_has ls 4 [(3, .int (i32 ((6 * t : Nat) : Int))), (0, .ref b), (1, .ref (gh G + 0)), (2, .ref (gh G + 111))]) : W p l e room_1 s m #[Value.ref b] below meth c H locs 137 33782 (lw_Z below #[Value.ref b] s) (F0 m 1197 ls []) := by
  obtain ⟨r, σ1, σ2, hf1, hf2, hI⟩ := hstep (ax xs (6 * t + 1)) (ax xs (6 * t + 2)) (ax xs (6 * t + 3)) (ax_in xs _) (ax_in xs _) (ax_in xs _)
  refine lv_aload_n X.1 X.2.1 dL_law_1197 rfl (lv_at hl 2 rfl) ?_
  refine lv_aload_n X.1 X.2.1 dL_law_1198 rfl (lv_at hl 1 rfl) ?_
  refine lv_iload_n X.1 X.2.1 dL_law_1199 rfl (lv_at hl 0 rfl) ?_
  refine lv_iconst (v := i32 1) X.1 X.2.1 dL_law_1200 rfl ?_
  refine lv_iadd X.1 X.2.1 dL_law_1201 ?_
  refine l_ld (j := 6 * t + 1) X hX hbl hgh hS (i32_add _ _) (by omega) hL dL_law_1202 ?_
  refine lv_aload_n X.1 X.2.1 dL_law_1203 rfl (lv_at hl 1 rfl) ?_
  refine lv_iload_n X.1 X.2.1 dL_law_1204 rfl (lv_at hl 0 rfl) ?_
  refine lv_iconst (v := i32 2) X.1 X.2.1 dL_law_1205 rfl ?_
  refine lv_iadd X.1 X.2.1 dL_law_1206 ?_
  refine l_ld (j := 6 * t + 2) X hX hbl hgh hS (i32_add _ _) (by omega) hL dL_law_1207 ?_
  refine lv_aload_n X.1 X.2.1 dL_law_1208 rfl (lv_at hl 1 rfl) ?_
  refine lv_iload_n X.1 X.2.1 dL_law_1209 rfl (lv_at hl 0 rfl) ?_
  refine lv_iconst (v := i32 3) X.1 X.2.1 dL_law_1210 rfl ?_
  refine lv_iadd X.1 X.2.1 dL_law_1211 ?_
  refine l_ld (j := 6 * t + 3) X hX hbl hgh hS (i32_add _ _) (by omega) hL dL_law_1212 ?_
  refine l_callV (n := 3) (As := [.int (i32 (ax xs (6 * t + 1))), .int (i32 (ax xs (6 * t + 2))), .int (i32 (ax xs (6 * t + 3)))]) X hP hS hl.1 (c_X10_write hf1) (tb t_1006 rfl) (tb t_1007 rfl) (tb t_1008 rfl) (tb t_75 rfl) (tb t_1009 rfl) (by decide +kernel) ⟨Nat.le_of_ble_eq_true rfl, Nat.le_of_ble_eq_true rfl⟩ (r_recv X hP (kd_lt ks_10 (by decide)) (cE_10 ks_10) rfl) rfl rfl (Nat.le_of_ble_eq_true rfl) dL_law_1213 ⟨Nat.le_of_ble_eq_true rfl, Nat.le_of_ble_eq_true rfl⟩ (fun H locs hP hS => ?_)
  refine lv_aload_n X.1 X.2.1 dL_law_1216 rfl (lv_at hl 3 rfl) ?_
  refine lv_aload_n X.1 X.2.1 dL_law_1217 rfl (lv_at hl 1 rfl) ?_
  refine lv_iload_n X.1 X.2.1 dL_law_1218 rfl (lv_at hl 0 rfl) ?_
  refine lv_iconst (v := i32 1) X.1 X.2.1 dL_law_1219 rfl ?_
  refine lv_iadd X.1 X.2.1 dL_law_1220 ?_
  refine l_ld (j := 6 * t + 1) X hX hbl hgh hS (i32_add _ _) (by omega) hL dL_law_1221 ?_
  refine lv_aload_n X.1 X.2.1 dL_law_1222 rfl (lv_at hl 1 rfl) ?_
  refine lv_iload_n X.1 X.2.1 dL_law_1223 rfl (lv_at hl 0 rfl) ?_
  refine lv_iconst (v := i32 2) X.1 X.2.1 dL_law_1224 rfl ?_
  refine lv_iadd X.1 X.2.1 dL_law_1225 ?_
  refine l_ld (j := 6 * t + 2) X hX hbl hgh hS (i32_add _ _) (by omega) hL dL_law_1226 ?_
  refine lv_aload_n X.1 X.2.1 dL_law_1227 rfl (lv_at hl 1 rfl) ?_
  refine lv_iload_n X.1 X.2.1 dL_law_1228 rfl (lv_at hl 0 rfl) ?_
  refine lv_iconst (v := i32 3) X.1 X.2.1 dL_law_1229 rfl ?_
  refine lv_iadd X.1 X.2.1 dL_law_1230 ?_
  refine l_ld (j := 6 * t + 3) X hX hbl hgh hS (i32_add _ _) (by omega) hL dL_law_1231 ?_
  refine l_callV (n := 3) (As := [.int (i32 (ax xs (6 * t + 1))), .int (i32 (ax xs (6 * t + 2))), .int (i32 (ax xs (6 * t + 3)))]) X hP hS hl.1 (c_X11_write hf2) (tb t_1535 rfl) (tb t_1536 rfl) (tb t_1537 rfl) (tb t_87 rfl) (tb t_1538 rfl) (by decide +kernel) ⟨Nat.le_of_ble_eq_true rfl, Nat.le_of_ble_eq_true rfl⟩ (r_recv X hP (kd_lt ks_11 (by decide)) (cE_11 ks_11) rfl) rfl rfl (Nat.le_of_ble_eq_true rfl) dL_law_1232 ⟨Nat.le_of_ble_eq_true rfl, Nat.le_of_ble_eq_true rfl⟩ (fun H locs hP hS => ?_)
  refine lv_icmp_eq (tgt := 1454) X.1 X.2.1 dL_law_1235 (by decide) (fun _ => ?_) (fun q => absurd rfl q)
  refine lv_iinc (v := i32 ((6 * (t + 1) : Nat) : Int)) (lv' := [(3, .int (i32 ((6 * (t + 1) : Nat) : Int))), (0, .ref b), (1, .ref (gh G + 0)), (2, .ref (gh G + 111))]) X.1 X.2.1 dL_law_1454 hl (k := 0) rfl (i32_add _ _) (by decide) rfl (fun ls hl => ?_)
  refine lv_goto (tgt := 18) X.1 X.2.1 dL_law_1457 (by decide) ?_
  exact next _ H locs ls hP hI hS hl
set_option maxHeartbeats 4000000 in
theorem law_case_30 {p : Program} {l : Launch} {e : Env} {s : State} {m : MethodId} {below : List Frame} {meth : Method} {c : Code} {G : GT} {b L : Nat} {xs : Nat → Int32} {Inv : Mem → Prop} (X : CX p room_1 s m #[Value.ref b] meth c code 4 RL ret 2048 84000 G) (hX : va_X b L xs s s.heap) (hbl : b < s.heap.size) (hgh : gh G = s.heap.size) (hL : L ≤ 384) {t : Nat} (ht : 6 * t + 6 ≤ L) (next : ∀ (σ : Mem) (H : Heap) (locs : List Loc) (ls : Array Slot), PW G σ H → Inv σ → va_S (AA G) s.heap H locs → lv_has ls 4 [(3, .int (i32 ((6 * (t + 1) : Nat) : Int))), (0, .ref b), (1, .ref (gh G + 0)), (2, .ref (gh G + 111))] → W p l e room_1 s m #[Value.ref b] below meth c H locs 137 33782 (lw_Z below #[Value.ref b] s) (F0 m 18 ls [])) {σ : Mem} {H : Heap} {locs : List Loc} {ls : Array Slot} (hP : PW G σ H) (hstep : Step30 Inv σ) (hS : va_S (AA G) s.heap H locs) (hl : lv_has ls 4 [(3, .int (i32 ((6 * t : Nat) : Int))), (0, .ref b), (1, .ref (gh G + 0)), (2, .ref (gh G + 111))]) : W p l e room_1 s m #[Value.ref b] below meth c H locs 137 33782 (lw_Z below #[Value.ref b] s) (F0 m 1240 ls []) := by
  obtain ⟨r, σ1, σ2, hf1, hf2, hI⟩ := hstep (ax xs (6 * t + 1)) (ax xs (6 * t + 2)) (ax xs (6 * t + 3)) (ax xs (6 * t + 4)) (ax xs (6 * t + 5)) (ax_in xs _) (ax_in xs _) (ax_in xs _) (ax_in xs _) (ax_in xs _)
  refine lv_aload_n X.1 X.2.1 dL_law_1240 rfl (lv_at hl 2 rfl) ?_
  refine lv_aload_n X.1 X.2.1 dL_law_1241 rfl (lv_at hl 1 rfl) ?_
  refine lv_iload_n X.1 X.2.1 dL_law_1242 rfl (lv_at hl 0 rfl) ?_
  refine lv_iconst (v := i32 1) X.1 X.2.1 dL_law_1243 rfl ?_
  refine lv_iadd X.1 X.2.1 dL_law_1244 ?_
  refine l_ld (j := 6 * t + 1) X hX hbl hgh hS (i32_add _ _) (by omega) hL dL_law_1245 ?_
  refine lv_aload_n X.1 X.2.1 dL_law_1246 rfl (lv_at hl 1 rfl) ?_
  refine lv_iload_n X.1 X.2.1 dL_law_1247 rfl (lv_at hl 0 rfl) ?_
  refine lv_iconst (v := i32 2) X.1 X.2.1 dL_law_1248 rfl ?_
  refine lv_iadd X.1 X.2.1 dL_law_1249 ?_
  refine l_ld (j := 6 * t + 2) X hX hbl hgh hS (i32_add _ _) (by omega) hL dL_law_1250 ?_
  refine lv_aload_n X.1 X.2.1 dL_law_1251 rfl (lv_at hl 1 rfl) ?_
  refine lv_iload_n X.1 X.2.1 dL_law_1252 rfl (lv_at hl 0 rfl) ?_
  refine lv_iconst (v := i32 3) X.1 X.2.1 dL_law_1253 rfl ?_
  refine lv_iadd X.1 X.2.1 dL_law_1254 ?_
  refine l_ld (j := 6 * t + 3) X hX hbl hgh hS (i32_add _ _) (by omega) hL dL_law_1255 ?_
  refine lv_aload_n X.1 X.2.1 dL_law_1256 rfl (lv_at hl 1 rfl) ?_
  refine lv_iload_n X.1 X.2.1 dL_law_1257 rfl (lv_at hl 0 rfl) ?_
  refine lv_iconst (v := i32 4) X.1 X.2.1 dL_law_1258 rfl ?_
  refine lv_iadd X.1 X.2.1 dL_law_1259 ?_
  refine l_ld (j := 6 * t + 4) X hX hbl hgh hS (i32_add _ _) (by omega) hL dL_law_1260 ?_
  refine lv_aload_n X.1 X.2.1 dL_law_1261 rfl (lv_at hl 1 rfl) ?_
  refine lv_iload_n X.1 X.2.1 dL_law_1262 rfl (lv_at hl 0 rfl) ?_
  refine lv_iconst (v := i32 5) X.1 X.2.1 dL_law_1263 rfl ?_
  refine lv_iadd X.1 X.2.1 dL_law_1264 ?_
  refine l_ld (j := 6 * t + 5) X hX hbl hgh hS (i32_add _ _) (by omega) hL dL_law_1265 ?_
  refine l_callV (n := 5) (As := [.int (i32 (ax xs (6 * t + 1))), .int (i32 (ax xs (6 * t + 2))), .int (i32 (ax xs (6 * t + 3))), .int (i32 (ax xs (6 * t + 4))), .int (i32 (ax xs (6 * t + 5)))]) X hP hS hl.1 (c_X10_copy hf1) (tb t_1019 rfl) (tb t_1020 rfl) (tb t_1021 rfl) (tb t_75 rfl) (tb t_1022 rfl) (by decide +kernel) ⟨Nat.le_of_ble_eq_true rfl, Nat.le_of_ble_eq_true rfl⟩ (r_recv X hP (kd_lt ks_10 (by decide)) (cE_10 ks_10) rfl) rfl rfl (Nat.le_of_ble_eq_true rfl) dL_law_1266 ⟨Nat.le_of_ble_eq_true rfl, Nat.le_of_ble_eq_true rfl⟩ (fun H locs hP hS => ?_)
  refine lv_aload_n X.1 X.2.1 dL_law_1269 rfl (lv_at hl 3 rfl) ?_
  refine lv_aload_n X.1 X.2.1 dL_law_1270 rfl (lv_at hl 1 rfl) ?_
  refine lv_iload_n X.1 X.2.1 dL_law_1271 rfl (lv_at hl 0 rfl) ?_
  refine lv_iconst (v := i32 1) X.1 X.2.1 dL_law_1272 rfl ?_
  refine lv_iadd X.1 X.2.1 dL_law_1273 ?_
  refine l_ld (j := 6 * t + 1) X hX hbl hgh hS (i32_add _ _) (by omega) hL dL_law_1274 ?_
  refine lv_aload_n X.1 X.2.1 dL_law_1275 rfl (lv_at hl 1 rfl) ?_
  refine lv_iload_n X.1 X.2.1 dL_law_1276 rfl (lv_at hl 0 rfl) ?_
  refine lv_iconst (v := i32 2) X.1 X.2.1 dL_law_1277 rfl ?_
  refine lv_iadd X.1 X.2.1 dL_law_1278 ?_
  refine l_ld (j := 6 * t + 2) X hX hbl hgh hS (i32_add _ _) (by omega) hL dL_law_1279 ?_
  refine lv_aload_n X.1 X.2.1 dL_law_1280 rfl (lv_at hl 1 rfl) ?_
  refine lv_iload_n X.1 X.2.1 dL_law_1281 rfl (lv_at hl 0 rfl) ?_
  refine lv_iconst (v := i32 3) X.1 X.2.1 dL_law_1282 rfl ?_
  refine lv_iadd X.1 X.2.1 dL_law_1283 ?_
  refine l_ld (j := 6 * t + 3) X hX hbl hgh hS (i32_add _ _) (by omega) hL dL_law_1284 ?_
  refine lv_aload_n X.1 X.2.1 dL_law_1285 rfl (lv_at hl 1 rfl) ?_
  refine lv_iload_n X.1 X.2.1 dL_law_1286 rfl (lv_at hl 0 rfl) ?_
  refine lv_iconst (v := i32 4) X.1 X.2.1 dL_law_1287 rfl ?_
  refine lv_iadd X.1 X.2.1 dL_law_1288 ?_
  refine l_ld (j := 6 * t + 4) X hX hbl hgh hS (i32_add _ _) (by omega) hL dL_law_1289 ?_
  refine lv_aload_n X.1 X.2.1 dL_law_1290 rfl (lv_at hl 1 rfl) ?_
  refine lv_iload_n X.1 X.2.1 dL_law_1291 rfl (lv_at hl 0 rfl) ?_
  refine lv_iconst (v := i32 5) X.1 X.2.1 dL_law_1292 rfl ?_
  refine lv_iadd X.1 X.2.1 dL_law_1293 ?_
  refine l_ld (j := 6 * t + 5) X hX hbl hgh hS (i32_add _ _) (by omega) hL dL_law_1294 ?_
  refine l_callV (n := 5) (As := [.int (i32 (ax xs (6 * t + 1))), .int (i32 (ax xs (6 * t + 2))), .int (i32 (ax xs (6 * t + 3))), .int (i32 (ax xs (6 * t + 4))), .int (i32 (ax xs (6 * t + 5)))]) X hP hS hl.1 (c_X11_copy hf2) (tb t_1539 rfl) (tb t_1540 rfl) (tb t_1541 rfl) (tb t_87 rfl) (tb t_1542 rfl) (by decide +kernel) ⟨Nat.le_of_ble_eq_true rfl, Nat.le_of_ble_eq_true rfl⟩ (r_recv X hP (kd_lt ks_11 (by decide)) (cE_11 ks_11) rfl) rfl rfl (Nat.le_of_ble_eq_true rfl) dL_law_1295 ⟨Nat.le_of_ble_eq_true rfl, Nat.le_of_ble_eq_true rfl⟩ (fun H locs hP hS => ?_)
  refine lv_icmp_eq (tgt := 1454) X.1 X.2.1 dL_law_1298 (by decide) (fun _ => ?_) (fun q => absurd rfl q)
  refine lv_iinc (v := i32 ((6 * (t + 1) : Nat) : Int)) (lv' := [(3, .int (i32 ((6 * (t + 1) : Nat) : Int))), (0, .ref b), (1, .ref (gh G + 0)), (2, .ref (gh G + 111))]) X.1 X.2.1 dL_law_1454 hl (k := 0) rfl (i32_add _ _) (by decide) rfl (fun ls hl => ?_)
  refine lv_goto (tgt := 18) X.1 X.2.1 dL_law_1457 (by decide) ?_
  exact next _ H locs ls hP hI hS hl
set_option maxHeartbeats 4000000 in
theorem law_case_31 {p : Program} {l : Launch} {e : Env} {s : State} {m : MethodId} {below : List Frame} {meth : Method} {c : Code} {G : GT} {b L : Nat} {xs : Nat → Int32} {Inv : Mem → Prop} (X : CX p room_1 s m #[Value.ref b] meth c code 4 RL ret 2048 84000 G) (hX : va_X b L xs s s.heap) (hbl : b < s.heap.size) (hgh : gh G = s.heap.size) (hL : L ≤ 384) {t : Nat} (ht : 6 * t + 6 ≤ L) (next : ∀ (σ : Mem) (H : Heap) (locs : List Loc) (ls : Array Slot), PW G σ H → Inv σ → va_S (AA G) s.heap H locs → lv_has ls 4 [(3, .int (i32 ((6 * (t + 1) : Nat) : Int))), (0, .ref b), (1, .ref (gh G + 0)), (2, .ref (gh G + 111))] → W p l e room_1 s m #[Value.ref b] below meth c H locs 137 33782 (lw_Z below #[Value.ref b] s) (F0 m 18 ls [])) {σ : Mem} {H : Heap} {locs : List Loc} {ls : Array Slot} (hP : PW G σ H) (hstep : Step31 Inv σ) (hS : va_S (AA G) s.heap H locs) (hl : lv_has ls 4 [(3, .int (i32 ((6 * t : Nat) : Int))), (0, .ref b), (1, .ref (gh G + 0)), (2, .ref (gh G + 111))]) : W p l e room_1 s m #[Value.ref b] below meth c H locs 137 33782 (lw_Z below #[Value.ref b] s) (F0 m 1303 ls []) := by
  obtain ⟨r, σ1, σ2, hf1, hf2, hI⟩ := hstep (ax xs (6 * t + 1)) (ax xs (6 * t + 2)) (ax_in xs _) (ax_in xs _)
  refine lv_aload_n X.1 X.2.1 dL_law_1303 rfl (lv_at hl 2 rfl) ?_
  refine lv_aload_n X.1 X.2.1 dL_law_1304 rfl (lv_at hl 1 rfl) ?_
  refine lv_iload_n X.1 X.2.1 dL_law_1305 rfl (lv_at hl 0 rfl) ?_
  refine lv_iconst (v := i32 1) X.1 X.2.1 dL_law_1306 rfl ?_
  refine lv_iadd X.1 X.2.1 dL_law_1307 ?_
  refine l_ld (j := 6 * t + 1) X hX hbl hgh hS (i32_add _ _) (by omega) hL dL_law_1308 ?_
  refine lv_aload_n X.1 X.2.1 dL_law_1309 rfl (lv_at hl 1 rfl) ?_
  refine lv_iload_n X.1 X.2.1 dL_law_1310 rfl (lv_at hl 0 rfl) ?_
  refine lv_iconst (v := i32 2) X.1 X.2.1 dL_law_1311 rfl ?_
  refine lv_iadd X.1 X.2.1 dL_law_1312 ?_
  refine l_ld (j := 6 * t + 2) X hX hbl hgh hS (i32_add _ _) (by omega) hL dL_law_1313 ?_
  refine l_callV (n := 2) (As := [.int (i32 (ax xs (6 * t + 1))), .int (i32 (ax xs (6 * t + 2)))]) X hP hS hl.1 (c_X10_rooms hf1) (tb t_1028 rfl) (tb t_1029 rfl) (tb t_1030 rfl) (tb t_75 rfl) (tb t_1031 rfl) (by decide +kernel) ⟨Nat.le_of_ble_eq_true rfl, Nat.le_of_ble_eq_true rfl⟩ (r_recv X hP (kd_lt ks_10 (by decide)) (cE_10 ks_10) rfl) rfl rfl (Nat.le_of_ble_eq_true rfl) dL_law_1314 ⟨Nat.le_of_ble_eq_true rfl, Nat.le_of_ble_eq_true rfl⟩ (fun H locs hP hS => ?_)
  refine lv_aload_n X.1 X.2.1 dL_law_1317 rfl (lv_at hl 3 rfl) ?_
  refine lv_aload_n X.1 X.2.1 dL_law_1318 rfl (lv_at hl 1 rfl) ?_
  refine lv_iload_n X.1 X.2.1 dL_law_1319 rfl (lv_at hl 0 rfl) ?_
  refine lv_iconst (v := i32 1) X.1 X.2.1 dL_law_1320 rfl ?_
  refine lv_iadd X.1 X.2.1 dL_law_1321 ?_
  refine l_ld (j := 6 * t + 1) X hX hbl hgh hS (i32_add _ _) (by omega) hL dL_law_1322 ?_
  refine lv_aload_n X.1 X.2.1 dL_law_1323 rfl (lv_at hl 1 rfl) ?_
  refine lv_iload_n X.1 X.2.1 dL_law_1324 rfl (lv_at hl 0 rfl) ?_
  refine lv_iconst (v := i32 2) X.1 X.2.1 dL_law_1325 rfl ?_
  refine lv_iadd X.1 X.2.1 dL_law_1326 ?_
  refine l_ld (j := 6 * t + 2) X hX hbl hgh hS (i32_add _ _) (by omega) hL dL_law_1327 ?_
  refine l_callV (n := 2) (As := [.int (i32 (ax xs (6 * t + 1))), .int (i32 (ax xs (6 * t + 2)))]) X hP hS hl.1 (c_X11_rooms_ hf2) (tb t_1543 rfl) (tb t_1544 rfl) (tb t_1545 rfl) (tb t_87 rfl) (tb t_1546 rfl) (by decide +kernel) ⟨Nat.le_of_ble_eq_true rfl, Nat.le_of_ble_eq_true rfl⟩ (r_recv X hP (kd_lt ks_11 (by decide)) (cE_11 ks_11) rfl) rfl rfl (Nat.le_of_ble_eq_true rfl) dL_law_1328 ⟨Nat.le_of_ble_eq_true rfl, Nat.le_of_ble_eq_true rfl⟩ (fun H locs hP hS => ?_)
  refine lv_icmp_eq (tgt := 1454) X.1 X.2.1 dL_law_1331 (by decide) (fun _ => ?_) (fun q => absurd rfl q)
  refine lv_iinc (v := i32 ((6 * (t + 1) : Nat) : Int)) (lv' := [(3, .int (i32 ((6 * (t + 1) : Nat) : Int))), (0, .ref b), (1, .ref (gh G + 0)), (2, .ref (gh G + 111))]) X.1 X.2.1 dL_law_1454 hl (k := 0) rfl (i32_add _ _) (by decide) rfl (fun ls hl => ?_)
  refine lv_goto (tgt := 18) X.1 X.2.1 dL_law_1457 (by decide) ?_
  exact next _ H locs ls hP hI hS hl
set_option maxHeartbeats 4000000 in
theorem law_case_32 {p : Program} {l : Launch} {e : Env} {s : State} {m : MethodId} {below : List Frame} {meth : Method} {c : Code} {G : GT} {b L : Nat} {xs : Nat → Int32} {Inv : Mem → Prop} (X : CX p room_1 s m #[Value.ref b] meth c code 4 RL ret 2048 84000 G) (hX : va_X b L xs s s.heap) (hbl : b < s.heap.size) (hgh : gh G = s.heap.size) (hL : L ≤ 384) {t : Nat} (ht : 6 * t + 6 ≤ L) (next : ∀ (σ : Mem) (H : Heap) (locs : List Loc) (ls : Array Slot), PW G σ H → Inv σ → va_S (AA G) s.heap H locs → lv_has ls 4 [(3, .int (i32 ((6 * (t + 1) : Nat) : Int))), (0, .ref b), (1, .ref (gh G + 0)), (2, .ref (gh G + 111))] → W p l e room_1 s m #[Value.ref b] below meth c H locs 137 33782 (lw_Z below #[Value.ref b] s) (F0 m 18 ls [])) {σ : Mem} {H : Heap} {locs : List Loc} {ls : Array Slot} (hP : PW G σ H) (hstep : Step32 Inv σ) (hS : va_S (AA G) s.heap H locs) (hl : lv_has ls 4 [(3, .int (i32 ((6 * t : Nat) : Int))), (0, .ref b), (1, .ref (gh G + 0)), (2, .ref (gh G + 111))]) : W p l e room_1 s m #[Value.ref b] below meth c H locs 137 33782 (lw_Z below #[Value.ref b] s) (F0 m 1336 ls []) := by
  obtain ⟨r, σ1, σ2, hf1, hf2, hI⟩ := hstep (ax xs (6 * t + 1)) (ax xs (6 * t + 2)) (ax_in xs _) (ax_in xs _)
  refine lv_aload_n X.1 X.2.1 dL_law_1336 rfl (lv_at hl 2 rfl) ?_
  refine lv_aload_n X.1 X.2.1 dL_law_1337 rfl (lv_at hl 1 rfl) ?_
  refine lv_iload_n X.1 X.2.1 dL_law_1338 rfl (lv_at hl 0 rfl) ?_
  refine lv_iconst (v := i32 1) X.1 X.2.1 dL_law_1339 rfl ?_
  refine lv_iadd X.1 X.2.1 dL_law_1340 ?_
  refine l_ld (j := 6 * t + 1) X hX hbl hgh hS (i32_add _ _) (by omega) hL dL_law_1341 ?_
  refine lv_aload_n X.1 X.2.1 dL_law_1342 rfl (lv_at hl 1 rfl) ?_
  refine lv_iload_n X.1 X.2.1 dL_law_1343 rfl (lv_at hl 0 rfl) ?_
  refine lv_iconst (v := i32 2) X.1 X.2.1 dL_law_1344 rfl ?_
  refine lv_iadd X.1 X.2.1 dL_law_1345 ?_
  refine l_ld (j := 6 * t + 2) X hX hbl hgh hS (i32_add _ _) (by omega) hL dL_law_1346 ?_
  refine l_callV (n := 2) (As := [.int (i32 (ax xs (6 * t + 1))), .int (i32 (ax xs (6 * t + 2)))]) X hP hS hl.1 (c_X10_pages hf1) (tb t_1032 rfl) (tb t_1033 rfl) (tb t_1034 rfl) (tb t_75 rfl) (tb t_1035 rfl) (by decide +kernel) ⟨Nat.le_of_ble_eq_true rfl, Nat.le_of_ble_eq_true rfl⟩ (r_recv X hP (kd_lt ks_10 (by decide)) (cE_10 ks_10) rfl) rfl rfl (Nat.le_of_ble_eq_true rfl) dL_law_1347 ⟨Nat.le_of_ble_eq_true rfl, Nat.le_of_ble_eq_true rfl⟩ (fun H locs hP hS => ?_)
  refine lv_aload_n X.1 X.2.1 dL_law_1350 rfl (lv_at hl 3 rfl) ?_
  refine lv_aload_n X.1 X.2.1 dL_law_1351 rfl (lv_at hl 1 rfl) ?_
  refine lv_iload_n X.1 X.2.1 dL_law_1352 rfl (lv_at hl 0 rfl) ?_
  refine lv_iconst (v := i32 1) X.1 X.2.1 dL_law_1353 rfl ?_
  refine lv_iadd X.1 X.2.1 dL_law_1354 ?_
  refine l_ld (j := 6 * t + 1) X hX hbl hgh hS (i32_add _ _) (by omega) hL dL_law_1355 ?_
  refine lv_aload_n X.1 X.2.1 dL_law_1356 rfl (lv_at hl 1 rfl) ?_
  refine lv_iload_n X.1 X.2.1 dL_law_1357 rfl (lv_at hl 0 rfl) ?_
  refine lv_iconst (v := i32 2) X.1 X.2.1 dL_law_1358 rfl ?_
  refine lv_iadd X.1 X.2.1 dL_law_1359 ?_
  refine l_ld (j := 6 * t + 2) X hX hbl hgh hS (i32_add _ _) (by omega) hL dL_law_1360 ?_
  refine l_callV (n := 2) (As := [.int (i32 (ax xs (6 * t + 1))), .int (i32 (ax xs (6 * t + 2)))]) X hP hS hl.1 (c_X11_pages hf2) (tb t_1548 rfl) (tb t_1549 rfl) (tb t_1550 rfl) (tb t_87 rfl) (tb t_1551 rfl) (by decide +kernel) ⟨Nat.le_of_ble_eq_true rfl, Nat.le_of_ble_eq_true rfl⟩ (r_recv X hP (kd_lt ks_11 (by decide)) (cE_11 ks_11) rfl) rfl rfl (Nat.le_of_ble_eq_true rfl) dL_law_1361 ⟨Nat.le_of_ble_eq_true rfl, Nat.le_of_ble_eq_true rfl⟩ (fun H locs hP hS => ?_)
  refine lv_icmp_eq (tgt := 1454) X.1 X.2.1 dL_law_1364 (by decide) (fun _ => ?_) (fun q => absurd rfl q)
  refine lv_iinc (v := i32 ((6 * (t + 1) : Nat) : Int)) (lv' := [(3, .int (i32 ((6 * (t + 1) : Nat) : Int))), (0, .ref b), (1, .ref (gh G + 0)), (2, .ref (gh G + 111))]) X.1 X.2.1 dL_law_1454 hl (k := 0) rfl (i32_add _ _) (by decide) rfl (fun ls hl => ?_)
  refine lv_goto (tgt := 18) X.1 X.2.1 dL_law_1457 (by decide) ?_
  exact next _ H locs ls hP hI hS hl
set_option maxHeartbeats 4000000 in
theorem law_case_33 {p : Program} {l : Launch} {e : Env} {s : State} {m : MethodId} {below : List Frame} {meth : Method} {c : Code} {G : GT} {b L : Nat} {xs : Nat → Int32} {Inv : Mem → Prop} (X : CX p room_1 s m #[Value.ref b] meth c code 4 RL ret 2048 84000 G) (hX : va_X b L xs s s.heap) (hbl : b < s.heap.size) (hgh : gh G = s.heap.size) (hL : L ≤ 384) {t : Nat} (ht : 6 * t + 6 ≤ L) (next : ∀ (σ : Mem) (H : Heap) (locs : List Loc) (ls : Array Slot), PW G σ H → Inv σ → va_S (AA G) s.heap H locs → lv_has ls 4 [(3, .int (i32 ((6 * (t + 1) : Nat) : Int))), (0, .ref b), (1, .ref (gh G + 0)), (2, .ref (gh G + 111))] → W p l e room_1 s m #[Value.ref b] below meth c H locs 137 33782 (lw_Z below #[Value.ref b] s) (F0 m 18 ls [])) {σ : Mem} {H : Heap} {locs : List Loc} {ls : Array Slot} (hP : PW G σ H) (hstep : Step33 Inv σ) (hS : va_S (AA G) s.heap H locs) (hl : lv_has ls 4 [(3, .int (i32 ((6 * t : Nat) : Int))), (0, .ref b), (1, .ref (gh G + 0)), (2, .ref (gh G + 111))]) : W p l e room_1 s m #[Value.ref b] below meth c H locs 137 33782 (lw_Z below #[Value.ref b] s) (F0 m 1369 ls []) := by
  obtain ⟨r, σ1, σ2, hf1, hf2, hI⟩ := hstep
  refine lv_aload_n X.1 X.2.1 dL_law_1369 rfl (lv_at hl 2 rfl) ?_
  refine l_callV (n := 0) (As := []) X hP hS hl.1 (c_X10_image hf1) (tb t_1036 rfl) (tb t_1037 rfl) (tb t_1038 rfl) (tb t_75 rfl) (tb t_1039 rfl) (by decide +kernel) ⟨Nat.le_of_ble_eq_true rfl, Nat.le_of_ble_eq_true rfl⟩ (r_recv X hP (kd_lt ks_10 (by decide)) (cE_10 ks_10) rfl) rfl rfl (Nat.le_of_ble_eq_true rfl) dL_law_1370 ⟨Nat.le_of_ble_eq_true rfl, Nat.le_of_ble_eq_true rfl⟩ (fun H locs hP hS => ?_)
  refine lv_aload_n X.1 X.2.1 dL_law_1373 rfl (lv_at hl 3 rfl) ?_
  refine l_callV (n := 0) (As := []) X hP hS hl.1 (c_X11_image hf2) (tb t_1552 rfl) (tb t_1553 rfl) (tb t_1554 rfl) (tb t_87 rfl) (tb t_1555 rfl) (by decide +kernel) ⟨Nat.le_of_ble_eq_true rfl, Nat.le_of_ble_eq_true rfl⟩ (r_recv X hP (kd_lt ks_11 (by decide)) (cE_11 ks_11) rfl) rfl rfl (Nat.le_of_ble_eq_true rfl) dL_law_1374 ⟨Nat.le_of_ble_eq_true rfl, Nat.le_of_ble_eq_true rfl⟩ (fun H locs hP hS => ?_)
  refine lv_icmp_eq (tgt := 1454) X.1 X.2.1 dL_law_1377 (by decide) (fun _ => ?_) (fun q => absurd rfl q)
  refine lv_iinc (v := i32 ((6 * (t + 1) : Nat) : Int)) (lv' := [(3, .int (i32 ((6 * (t + 1) : Nat) : Int))), (0, .ref b), (1, .ref (gh G + 0)), (2, .ref (gh G + 111))]) X.1 X.2.1 dL_law_1454 hl (k := 0) rfl (i32_add _ _) (by decide) rfl (fun ls hl => ?_)
  refine lv_goto (tgt := 18) X.1 X.2.1 dL_law_1457 (by decide) ?_
  exact next _ H locs ls hP hI hS hl
set_option maxHeartbeats 4000000 in
theorem law_case_34 {p : Program} {l : Launch} {e : Env} {s : State} {m : MethodId} {below : List Frame} {meth : Method} {c : Code} {G : GT} {b L : Nat} {xs : Nat → Int32} {Inv : Mem → Prop} (X : CX p room_1 s m #[Value.ref b] meth c code 4 RL ret 2048 84000 G) (hX : va_X b L xs s s.heap) (hbl : b < s.heap.size) (hgh : gh G = s.heap.size) (hL : L ≤ 384) {t : Nat} (ht : 6 * t + 6 ≤ L) (next : ∀ (σ : Mem) (H : Heap) (locs : List Loc) (ls : Array Slot), PW G σ H → Inv σ → va_S (AA G) s.heap H locs → lv_has ls 4 [(3, .int (i32 ((6 * (t + 1) : Nat) : Int))), (0, .ref b), (1, .ref (gh G + 0)), (2, .ref (gh G + 111))] → W p l e room_1 s m #[Value.ref b] below meth c H locs 137 33782 (lw_Z below #[Value.ref b] s) (F0 m 18 ls [])) {σ : Mem} {H : Heap} {locs : List Loc} {ls : Array Slot} (hP : PW G σ H) (hstep : Step34 Inv σ) (hS : va_S (AA G) s.heap H locs) (hl : lv_has ls 4 [(3, .int (i32 ((6 * t : Nat) : Int))), (0, .ref b), (1, .ref (gh G + 0)), (2, .ref (gh G + 111))]) : W p l e room_1 s m #[Value.ref b] below meth c H locs 137 33782 (lw_Z below #[Value.ref b] s) (F0 m 1382 ls []) := by
  obtain ⟨r, σ1, σ2, hf1, hf2, hI⟩ := hstep
  refine lv_aload_n X.1 X.2.1 dL_law_1382 rfl (lv_at hl 2 rfl) ?_
  refine l_callV (n := 0) (As := []) X hP hS hl.1 (c_X10_undo hf1) (tb t_1054 rfl) (tb t_1055 rfl) (tb t_1056 rfl) (tb t_75 rfl) (tb t_1057 rfl) (by decide +kernel) ⟨Nat.le_of_ble_eq_true rfl, Nat.le_of_ble_eq_true rfl⟩ (r_recv X hP (kd_lt ks_10 (by decide)) (cE_10 ks_10) rfl) rfl rfl (Nat.le_of_ble_eq_true rfl) dL_law_1383 ⟨Nat.le_of_ble_eq_true rfl, Nat.le_of_ble_eq_true rfl⟩ (fun H locs hP hS => ?_)
  refine lv_aload_n X.1 X.2.1 dL_law_1386 rfl (lv_at hl 3 rfl) ?_
  refine l_callV (n := 0) (As := []) X hP hS hl.1 (c_X11_undo hf2) (tb t_1556 rfl) (tb t_1557 rfl) (tb t_1558 rfl) (tb t_87 rfl) (tb t_1559 rfl) (by decide +kernel) ⟨Nat.le_of_ble_eq_true rfl, Nat.le_of_ble_eq_true rfl⟩ (r_recv X hP (kd_lt ks_11 (by decide)) (cE_11 ks_11) rfl) rfl rfl (Nat.le_of_ble_eq_true rfl) dL_law_1387 ⟨Nat.le_of_ble_eq_true rfl, Nat.le_of_ble_eq_true rfl⟩ (fun H locs hP hS => ?_)
  refine lv_icmp_eq (tgt := 1454) X.1 X.2.1 dL_law_1390 (by decide) (fun _ => ?_) (fun q => absurd rfl q)
  refine lv_iinc (v := i32 ((6 * (t + 1) : Nat) : Int)) (lv' := [(3, .int (i32 ((6 * (t + 1) : Nat) : Int))), (0, .ref b), (1, .ref (gh G + 0)), (2, .ref (gh G + 111))]) X.1 X.2.1 dL_law_1454 hl (k := 0) rfl (i32_add _ _) (by decide) rfl (fun ls hl => ?_)
  refine lv_goto (tgt := 18) X.1 X.2.1 dL_law_1457 (by decide) ?_
  exact next _ H locs ls hP hI hS hl
set_option maxHeartbeats 4000000 in
theorem law_case_35 {p : Program} {l : Launch} {e : Env} {s : State} {m : MethodId} {below : List Frame} {meth : Method} {c : Code} {G : GT} {b L : Nat} {xs : Nat → Int32} {Inv : Mem → Prop} (X : CX p room_1 s m #[Value.ref b] meth c code 4 RL ret 2048 84000 G) (hX : va_X b L xs s s.heap) (hbl : b < s.heap.size) (hgh : gh G = s.heap.size) (hL : L ≤ 384) {t : Nat} (ht : 6 * t + 6 ≤ L) (next : ∀ (σ : Mem) (H : Heap) (locs : List Loc) (ls : Array Slot), PW G σ H → Inv σ → va_S (AA G) s.heap H locs → lv_has ls 4 [(3, .int (i32 ((6 * (t + 1) : Nat) : Int))), (0, .ref b), (1, .ref (gh G + 0)), (2, .ref (gh G + 111))] → W p l e room_1 s m #[Value.ref b] below meth c H locs 137 33782 (lw_Z below #[Value.ref b] s) (F0 m 18 ls [])) {σ : Mem} {H : Heap} {locs : List Loc} {ls : Array Slot} (hP : PW G σ H) (hstep : Step35 Inv σ) (hS : va_S (AA G) s.heap H locs) (hl : lv_has ls 4 [(3, .int (i32 ((6 * t : Nat) : Int))), (0, .ref b), (1, .ref (gh G + 0)), (2, .ref (gh G + 111))]) : W p l e room_1 s m #[Value.ref b] below meth c H locs 137 33782 (lw_Z below #[Value.ref b] s) (F0 m 1395 ls []) := by
  obtain ⟨r, σ1, σ2, hf1, hf2, hI⟩ := hstep
  refine lv_aload_n X.1 X.2.1 dL_law_1395 rfl (lv_at hl 2 rfl) ?_
  refine l_callV (n := 0) (As := []) X hP hS hl.1 (c_X10_tear hf1) (tb t_1062 rfl) (tb t_1063 rfl) (tb t_1064 rfl) (tb t_75 rfl) (tb t_1065 rfl) (by decide +kernel) ⟨Nat.le_of_ble_eq_true rfl, Nat.le_of_ble_eq_true rfl⟩ (r_recv X hP (kd_lt ks_10 (by decide)) (cE_10 ks_10) rfl) rfl rfl (Nat.le_of_ble_eq_true rfl) dL_law_1396 ⟨Nat.le_of_ble_eq_true rfl, Nat.le_of_ble_eq_true rfl⟩ (fun H locs hP hS => ?_)
  refine lv_aload_n X.1 X.2.1 dL_law_1399 rfl (lv_at hl 3 rfl) ?_
  refine l_callV (n := 0) (As := []) X hP hS hl.1 (c_X11_tear hf2) (tb t_1564 rfl) (tb t_1565 rfl) (tb t_1566 rfl) (tb t_87 rfl) (tb t_1567 rfl) (by decide +kernel) ⟨Nat.le_of_ble_eq_true rfl, Nat.le_of_ble_eq_true rfl⟩ (r_recv X hP (kd_lt ks_11 (by decide)) (cE_11 ks_11) rfl) rfl rfl (Nat.le_of_ble_eq_true rfl) dL_law_1400 ⟨Nat.le_of_ble_eq_true rfl, Nat.le_of_ble_eq_true rfl⟩ (fun H locs hP hS => ?_)
  refine lv_icmp_eq (tgt := 1454) X.1 X.2.1 dL_law_1403 (by decide) (fun _ => ?_) (fun q => absurd rfl q)
  refine lv_iinc (v := i32 ((6 * (t + 1) : Nat) : Int)) (lv' := [(3, .int (i32 ((6 * (t + 1) : Nat) : Int))), (0, .ref b), (1, .ref (gh G + 0)), (2, .ref (gh G + 111))]) X.1 X.2.1 dL_law_1454 hl (k := 0) rfl (i32_add _ _) (by decide) rfl (fun ls hl => ?_)
  refine lv_goto (tgt := 18) X.1 X.2.1 dL_law_1457 (by decide) ?_
  exact next _ H locs ls hP hI hS hl
set_option maxHeartbeats 4000000 in
theorem law_case_36 {p : Program} {l : Launch} {e : Env} {s : State} {m : MethodId} {below : List Frame} {meth : Method} {c : Code} {G : GT} {b L : Nat} {xs : Nat → Int32} {Inv : Mem → Prop} (X : CX p room_1 s m #[Value.ref b] meth c code 4 RL ret 2048 84000 G) (hX : va_X b L xs s s.heap) (hbl : b < s.heap.size) (hgh : gh G = s.heap.size) (hL : L ≤ 384) {t : Nat} (ht : 6 * t + 6 ≤ L) (next : ∀ (σ : Mem) (H : Heap) (locs : List Loc) (ls : Array Slot), PW G σ H → Inv σ → va_S (AA G) s.heap H locs → lv_has ls 4 [(3, .int (i32 ((6 * (t + 1) : Nat) : Int))), (0, .ref b), (1, .ref (gh G + 0)), (2, .ref (gh G + 111))] → W p l e room_1 s m #[Value.ref b] below meth c H locs 137 33782 (lw_Z below #[Value.ref b] s) (F0 m 18 ls [])) {σ : Mem} {H : Heap} {locs : List Loc} {ls : Array Slot} (hP : PW G σ H) (hstep : Step36 Inv σ) (hS : va_S (AA G) s.heap H locs) (hl : lv_has ls 4 [(3, .int (i32 ((6 * t : Nat) : Int))), (0, .ref b), (1, .ref (gh G + 0)), (2, .ref (gh G + 111))]) : W p l e room_1 s m #[Value.ref b] below meth c H locs 137 33782 (lw_Z below #[Value.ref b] s) (F0 m 1408 ls []) := by
  obtain ⟨r, σ1, σ2, hf1, hf2, hI⟩ := hstep (ax xs (6 * t + 1)) (ax_in xs _)
  refine lv_aload_n X.1 X.2.1 dL_law_1408 rfl (lv_at hl 2 rfl) ?_
  refine lv_aload_n X.1 X.2.1 dL_law_1409 rfl (lv_at hl 1 rfl) ?_
  refine lv_iload_n X.1 X.2.1 dL_law_1410 rfl (lv_at hl 0 rfl) ?_
  refine lv_iconst (v := i32 1) X.1 X.2.1 dL_law_1411 rfl ?_
  refine lv_iadd X.1 X.2.1 dL_law_1412 ?_
  refine l_ld (j := 6 * t + 1) X hX hbl hgh hS (i32_add _ _) (by omega) hL dL_law_1413 ?_
  refine l_callV (n := 1) (As := [.int (i32 (ax xs (6 * t + 1)))]) X hP hS hl.1 (c_X10_count hf1) (tb t_1066 rfl) (tb t_1067 rfl) (tb t_1068 rfl) (tb t_75 rfl) (tb t_1069 rfl) (by decide +kernel) ⟨Nat.le_of_ble_eq_true rfl, Nat.le_of_ble_eq_true rfl⟩ (r_recv X hP (kd_lt ks_10 (by decide)) (cE_10 ks_10) rfl) rfl rfl (Nat.le_of_ble_eq_true rfl) dL_law_1414 ⟨Nat.le_of_ble_eq_true rfl, Nat.le_of_ble_eq_true rfl⟩ (fun H locs hP hS => ?_)
  refine lv_aload_n X.1 X.2.1 dL_law_1417 rfl (lv_at hl 3 rfl) ?_
  refine lv_aload_n X.1 X.2.1 dL_law_1418 rfl (lv_at hl 1 rfl) ?_
  refine lv_iload_n X.1 X.2.1 dL_law_1419 rfl (lv_at hl 0 rfl) ?_
  refine lv_iconst (v := i32 1) X.1 X.2.1 dL_law_1420 rfl ?_
  refine lv_iadd X.1 X.2.1 dL_law_1421 ?_
  refine l_ld (j := 6 * t + 1) X hX hbl hgh hS (i32_add _ _) (by omega) hL dL_law_1422 ?_
  refine l_callV (n := 1) (As := [.int (i32 (ax xs (6 * t + 1)))]) X hP hS hl.1 (c_X11_count hf2) (tb t_1568 rfl) (tb t_1569 rfl) (tb t_1570 rfl) (tb t_87 rfl) (tb t_1571 rfl) (by decide +kernel) ⟨Nat.le_of_ble_eq_true rfl, Nat.le_of_ble_eq_true rfl⟩ (r_recv X hP (kd_lt ks_11 (by decide)) (cE_11 ks_11) rfl) rfl rfl (Nat.le_of_ble_eq_true rfl) dL_law_1423 ⟨Nat.le_of_ble_eq_true rfl, Nat.le_of_ble_eq_true rfl⟩ (fun H locs hP hS => ?_)
  refine lv_icmp_eq (tgt := 1454) X.1 X.2.1 dL_law_1426 (by decide) (fun _ => ?_) (fun q => absurd rfl q)
  refine lv_iinc (v := i32 ((6 * (t + 1) : Nat) : Int)) (lv' := [(3, .int (i32 ((6 * (t + 1) : Nat) : Int))), (0, .ref b), (1, .ref (gh G + 0)), (2, .ref (gh G + 111))]) X.1 X.2.1 dL_law_1454 hl (k := 0) rfl (i32_add _ _) (by decide) rfl (fun ls hl => ?_)
  refine lv_goto (tgt := 18) X.1 X.2.1 dL_law_1457 (by decide) ?_
  exact next _ H locs ls hP hI hS hl
set_option maxHeartbeats 4000000 in
theorem law_case_37 {p : Program} {l : Launch} {e : Env} {s : State} {m : MethodId} {below : List Frame} {meth : Method} {c : Code} {G : GT} {b L : Nat} {xs : Nat → Int32} {Inv : Mem → Prop} (X : CX p room_1 s m #[Value.ref b] meth c code 4 RL ret 2048 84000 G) (hX : va_X b L xs s s.heap) (hbl : b < s.heap.size) (hgh : gh G = s.heap.size) (hL : L ≤ 384) {t : Nat} (ht : 6 * t + 6 ≤ L) (next : ∀ (σ : Mem) (H : Heap) (locs : List Loc) (ls : Array Slot), PW G σ H → Inv σ → va_S (AA G) s.heap H locs → lv_has ls 4 [(3, .int (i32 ((6 * (t + 1) : Nat) : Int))), (0, .ref b), (1, .ref (gh G + 0)), (2, .ref (gh G + 111))] → W p l e room_1 s m #[Value.ref b] below meth c H locs 137 33782 (lw_Z below #[Value.ref b] s) (F0 m 18 ls [])) {σ : Mem} {H : Heap} {locs : List Loc} {ls : Array Slot} (hP : PW G σ H) (hstep : Step37 Inv σ) (hS : va_S (AA G) s.heap H locs) (hl : lv_has ls 4 [(3, .int (i32 ((6 * t : Nat) : Int))), (0, .ref b), (1, .ref (gh G + 0)), (2, .ref (gh G + 111))]) : W p l e room_1 s m #[Value.ref b] below meth c H locs 137 33782 (lw_Z below #[Value.ref b] s) (F0 m 1431 ls []) := by
  obtain ⟨r, σ1, σ2, hf1, hf2, hI⟩ := hstep (ax xs (6 * t + 1)) (ax_in xs _)
  refine lv_aload_n X.1 X.2.1 dL_law_1431 rfl (lv_at hl 2 rfl) ?_
  refine lv_aload_n X.1 X.2.1 dL_law_1432 rfl (lv_at hl 1 rfl) ?_
  refine lv_iload_n X.1 X.2.1 dL_law_1433 rfl (lv_at hl 0 rfl) ?_
  refine lv_iconst (v := i32 1) X.1 X.2.1 dL_law_1434 rfl ?_
  refine lv_iadd X.1 X.2.1 dL_law_1435 ?_
  refine l_ld (j := 6 * t + 1) X hX hbl hgh hS (i32_add _ _) (by omega) hL dL_law_1436 ?_
  refine l_callV (n := 1) (As := [.int (i32 (ax xs (6 * t + 1)))]) X hP hS hl.1 (c_X10_status hf1) (tb t_1074 rfl) (tb t_1075 rfl) (tb t_1076 rfl) (tb t_75 rfl) (tb t_1077 rfl) (by decide +kernel) ⟨Nat.le_of_ble_eq_true rfl, Nat.le_of_ble_eq_true rfl⟩ (r_recv X hP (kd_lt ks_10 (by decide)) (cE_10 ks_10) rfl) rfl rfl (Nat.le_of_ble_eq_true rfl) dL_law_1437 ⟨Nat.le_of_ble_eq_true rfl, Nat.le_of_ble_eq_true rfl⟩ (fun H locs hP hS => ?_)
  refine lv_aload_n X.1 X.2.1 dL_law_1440 rfl (lv_at hl 3 rfl) ?_
  refine lv_aload_n X.1 X.2.1 dL_law_1441 rfl (lv_at hl 1 rfl) ?_
  refine lv_iload_n X.1 X.2.1 dL_law_1442 rfl (lv_at hl 0 rfl) ?_
  refine lv_iconst (v := i32 1) X.1 X.2.1 dL_law_1443 rfl ?_
  refine lv_iadd X.1 X.2.1 dL_law_1444 ?_
  refine l_ld (j := 6 * t + 1) X hX hbl hgh hS (i32_add _ _) (by omega) hL dL_law_1445 ?_
  refine l_callV (n := 1) (As := [.int (i32 (ax xs (6 * t + 1)))]) X hP hS hl.1 (c_X11_status hf2) (tb t_1572 rfl) (tb t_1573 rfl) (tb t_1574 rfl) (tb t_87 rfl) (tb t_1575 rfl) (by decide +kernel) ⟨Nat.le_of_ble_eq_true rfl, Nat.le_of_ble_eq_true rfl⟩ (r_recv X hP (kd_lt ks_11 (by decide)) (cE_11 ks_11) rfl) rfl rfl (Nat.le_of_ble_eq_true rfl) dL_law_1446 ⟨Nat.le_of_ble_eq_true rfl, Nat.le_of_ble_eq_true rfl⟩ (fun H locs hP hS => ?_)
  refine lv_icmp_eq (tgt := 1454) X.1 X.2.1 dL_law_1449 (by decide) (fun _ => ?_) (fun q => absurd rfl q)
  refine lv_iinc (v := i32 ((6 * (t + 1) : Nat) : Int)) (lv' := [(3, .int (i32 ((6 * (t + 1) : Nat) : Int))), (0, .ref b), (1, .ref (gh G + 0)), (2, .ref (gh G + 111))]) X.1 X.2.1 dL_law_1454 hl (k := 0) rfl (i32_add _ _) (by decide) rfl (fun ls hl => ?_)
  refine lv_goto (tgt := 18) X.1 X.2.1 dL_law_1457 (by decide) ?_
  exact next _ H locs ls hP hI hS hl
