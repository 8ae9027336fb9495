/-! the memory as the constructors leave it -/
def tr0 (j : Nat) : Int := if j = 0 then 60 else if j = 2 then -1 else 0
def ru0 (j : Nat) : Int := if j = 0 then 60 else if j = 1 then 3 else if j = 2 then 150 else if j = 4 then 50 else 0
def sp0 (j : Nat) : Int := if j < 10 then -1 else 0
def m0 (j : Nat) : Int := if j < 5 then ru0 j else if j < 665 then (if (j - 5) % 165 < 4 then tr0 ((j - 5) % 165) else 0) else if 756 ≤ j ∧ j < 766 then -1 else 0
def zsp (k : Nat) : Nat := if [10, 13, 16, 19, 30, 33, 36, 39].contains k then 1 else if k = 3 ∨ k = 23 then 2 else if k = 8 ∨ k = 28 then 3 else if k = 112 then 4 else 0
def z0 (k : Nat) : Nat → Int := match zsp k with
  | 1 => tr0
  | 2 => ru0
  | 3 => sp0
  | 4 => m0
  | _ => fun _ => 0
def mw (G : GT) (f : Nat → va_E) (a : Nat) (L : List (Nat × va_E)) : Nat → va_E := fun k => if k < a then f k else (L.lookup k).getD (cE G z0 k)
theorem mw_start {G : GT} {f : Nat → va_E} {a : Nat} {E : va_E} {H : Heap} (hf : f a = E) (h : PWc G (a + 1) f H) : PWc G (a + 1) (mw G f a [(a, E)]) H := by
  refine h.congr (fun k hk => Or.inl ?_)
  by_cases hka : k < a
  · simp [mw, hka]
  · have : k = a := by omega
    subst this
    simp [mw, List.lookup, hf]
theorem lookup_filter (k q : Nat) (h : q ≠ k) : ∀ L : List (Nat × va_E), (L.filter (fun x => !(x.1 == k))).lookup q = L.lookup q := by
  intro L
  induction L with
  | nil => rfl
  | cons x L ih =>
    obtain ⟨a, E⟩ := x
    by_cases ha : a = k
    · subst ha
      have h1 : (q == a) = false := by simp [h]
      simp [List.filter, List.lookup, h1, ih]
    · have h2 : (!(a == k)) = true := by simp [ha]
      simp only [List.filter, h2, List.lookup]
      split <;> first | rfl | exact ih
theorem mw_up {G : GT} {f : Nat → va_E} {a k : Nat} {L : List (Nat × va_E)} {E : va_E} (h : a ≤ k) : upE (mw G f a L) k E = mw G f a ((k, E) :: L.filter (fun x => !(x.1 == k))) := by
  funext q
  by_cases hq : q = k
  · subst hq
    simp [upE, mw, List.lookup, Nat.not_lt.mpr h]
  · have h1 : (q == k) = false := by simp [hq]
    simp only [upE, hq, if_false, mw, List.lookup, h1, lookup_filter k q hq]
theorem lookup_none (b q : Nat) (hq : b ≤ q) : ∀ L : List (Nat × va_E), (L.map Prod.fst).all (fun x => decide (x < b)) = true → L.lookup q = none := by
  intro L
  induction L with
  | nil => intro _; rfl
  | cons x L ih =>
    obtain ⟨a, E⟩ := x
    intro h
    simp only [List.map_cons, List.all_cons, Bool.and_eq_true, decide_eq_true_eq] at h
    have h1 : (q == a) = false := by simp; omega
    simp [List.lookup, h1, ih h.2]
theorem mw_mw {G : GT} {f : Nat → va_E} {a b : Nat} {L : List (Nat × va_E)} {E : va_E} (h : a ≤ b) (hL : (L.map Prod.fst).all (fun x => decide (x < b)) = true) : mw G (mw G f a ((b, E) :: L)) b [] = mw G f a L := by
  funext k
  by_cases hk : k < b
  · have h1 : (k == b) = false := by simp; omega
    simp [mw, hk, List.lookup, h1]
  · have h2 : ¬ k < a := by omega
    simp [mw, hk, h2, List.lookup, lookup_none b k (by omega) L hL]
theorem mw_no {G : GT} {f : Nat → va_E} {a k : Nat} {L : List (Nat × va_E)} (h : L.lookup k = none) : mw G f a L k = mw G f a [] k := by
  simp [mw, h, List.lookup]
theorem mw_out {G : GT} {f : Nat → va_E} {a k : Nat} {L : List (Nat × va_E)} (ha : a ≤ k) (hL : L.lookup k = none) : mw G f a L k = cE G z0 k := by
  simp [mw, Nat.not_lt.mpr ha, hL]
theorem fin_o {G : GT} {f : Nat → va_E} {a k : Nat} {L : List (Nat × va_E)} {E : va_E} (ha : a ≤ k) (hL : L.lookup k = some E) (hE : E = cE G z0 k) : eqE (mw G f a L k) (mw G f a [] k) := by
  refine Or.inl ?_
  simp [mw, Nat.not_lt.mpr ha, hL, List.lookup, hE]
theorem fin_r {G : GT} {f : Nat → va_E} {a k N : Nat} {L : List (Nat × va_E)} {cA : ClassId} {F F' : Nat → Option Nat} (ha : a ≤ k) (hL : L.lookup k = some (.inl (cA, N, .inr (.inr (.inr (.inr F)))))) (hE : cE G z0 k = .inl (cA, ln k, .inr (.inr (.inr (.inr F'))))) (hl : ln k = N) (hF : ∀ j, j < N → F j = F' j) : eqE (mw G f a L k) (mw G f a [] k) := by
  refine Or.inr ⟨cA, N, F, F', ?_, ?_, hF⟩
  · simp [mw, Nat.not_lt.mpr ha, hL]
  · simp [mw, Nat.not_lt.mpr ha, List.lookup, hE, hl]
theorem fin_i {cA : ClassId} {k N : Nat} {g h : Nat → Int32} (hl : ln k = N) (hg : g = h) : ((.inl (cA, N, .inl g)) : va_E) = .inl (cA, ln k, .inl h) := by rw [hl, hg]
theorem fin_l {cA : ClassId} {k N : Nat} {g h : Nat → Int64} (hl : ln k = N) (hg : g = h) : ((.inl (cA, N, .inr (.inl g))) : va_E) = .inl (cA, ln k, .inr (.inl h)) := by rw [hl, hg]
theorem z0_z {k : Nat} (h : zsp k = 0) : (fun _ => 0 : Nat → Int32) = fun j => i32 (z0 k j) := by
  funext j
  simp only [z0, h]
  rfl
theorem z0_zl {k : Nat} (h : zsp k = 0) : (fun _ => 0 : Nat → Int64) = fun j => i64 (z0 k j) := by
  funext j
  simp only [z0, h]
  rfl
theorem z0_tr {k : Nat} (h : zsp k = 1) : upd (upd (upd (upd (fun _ => 0) 0 (i32 60)) 1 (i32 0)) 2 (i32 (-1))) 3 (i32 0) = fun j => i32 (z0 k j) := by
  funext j
  simp only [z0, h, tr0, upd]
  by_cases h0 : j = 0
  · subst h0; rfl
  by_cases h1 : j = 1
  · subst h1; rfl
  by_cases h2 : j = 2
  · subst h2; rfl
  by_cases h3 : j = 3
  · subst h3; rfl
  simp [h0, h1, h2, h3]
  rfl
theorem z0_ru {k : Nat} (h : zsp k = 2) : upd (upd (upd (upd (upd (fun _ => 0) 0 (i32 60)) 1 (i32 3)) 2 (i32 150)) 3 (i32 0)) 4 (i32 50) = fun j => i32 (z0 k j) := by
  funext j
  simp only [z0, h, ru0, upd]
  by_cases h0 : j = 0
  · subst h0; rfl
  by_cases h1 : j = 1
  · subst h1; rfl
  by_cases h2 : j = 2
  · subst h2; rfl
  by_cases h3 : j = 3
  · subst h3; rfl
  by_cases h4 : j = 4
  · subst h4; rfl
  simp [h0, h1, h2, h3, h4]
  rfl
theorem z0_sp {k : Nat} (h : zsp k = 3) : (fun j => if j < 10 then i32 (-1) else (fun _ => 0) j : Nat → Int32) = fun j => i32 (z0 k j) := by
  funext j
  simp only [z0, h, sp0]
  split <;> rfl
section Cons2
variable {p : Program} {l : Launch} {e : Env} {R : Room} {s : State} {m : MethodId} {args : Array Value} {below : List Frame} {meth : Method} {c : Code} {H : Heap} {locs : List Loc} {cells slots : Nat} {Q : State → Prop}
variable {cc : ByteArray} {nL : Nat} {own : String} {ret : Option FieldType} {fF fL : Nat} {G : GT} {pc : Nat} {ls : Array Slot} {rest : List Value} {σ : Mem}
theorem lv_eqv {x y : Int32} (h : x = y) (k : W p l e R s m args below meth c H locs (cells) (slots) Q (F0 m (pc) ls (.int y :: rest))) : W p l e R s m args below meth c H locs (cells) (slots) Q (F0 m (pc) ls (.int x :: rest)) := h ▸ k
theorem lv_eqi {x y : Int} (h : x = y) (k : W p l e R s m args below meth c H locs (cells) (slots) Q (F0 m (pc) ls (.int (i32 y) :: rest))) : W p l e R s m args below meth c H locs (cells) (slots) Q (F0 m (pc) ls (.int (i32 x) :: rest)) := h ▸ k
end Cons2

theorem ct_fill {l : Launch} {G : GT} {n : Nat} {f : Nat → va_E} {k N : Nat} {g : Nat → Int32} {v : Int} (hk : k < n) (he : f k = .inl (gC G 13, N, .inl g)) (hN : N < 2147483648) : CTc l yJ7_fill_53178 cJ7_fill_53178 4 1 60 0 0 G [.ref (gh G + k), .int (i32 v)] n f n (upE f k (.inl (gC G 13, N, .inl (fun j => if j < N then i32 v else g j)))) := by
  refine CTc.mk (own := RJ7) (by decide) rfl (Nat.le_of_ble_eq_true rfl) ?_
  intro p e s m below meth c ls X hin hO hP hS hl
  have hl : lv_has ls 4 [(0, .ref (gh G + k)), (1, .int (i32 v))] := hl
  have hz0 := hP.1
  have loop : ∀ (r i : Nat) (H : Heap) (locs : List Loc) (ls : Array Slot), i + r = N → PWc G n (upE f k (.inl (gC G 13, N, .inl (fun j => if j < i then i32 v else g j)))) H → va_S (AA G) s.heap H locs → lv_has ls 4 [(2, .int (i32 (i : Int))), (3, .int (i32 (N : Int))), (0, .ref (gh G + k)), (1, .int (i32 v))] → W p l e ({ frames := 1, cells := 0, slots := 0, locals := 60 }) s m ([Value.ref (gh G + k), Value.int (i32 v)] : List Value).toArray below meth c H locs 0 0 (MQ below (QC G n (upE f k (.inl (gC G 13, N, .inl (fun j => if j < N then i32 v else g j))))) ([Value.ref (gh G + k), Value.int (i32 v)] : List Value).toArray s 0 0 (AA G)) (F0 m 5 ls []) := by
    intro r
    induction r with
    | zero =>
      intro i H locs ls hi hP hS hl
      refine lv_iload_n X.1 X.2.1 dJ7_fill_53178_5 rfl (lv_at hl 0 rfl) ?_
      refine lv_iload_n X.1 X.2.1 dJ7_fill_53178_6 rfl (lv_at hl 1 rfl) ?_
      refine r_icmp_ge (tgt := 20) X dJ7_fill_53178_7 (by decide) (fun _ => ?_) (fun q => absurd (by rw [show i = N by omega]; exact Int.le_refl _) q)
      have hiN : i = N := by omega
      subst hiN
      exact q_vret X hP hS dJ7_fill_53178_20
    | succ r ih =>
      intro i H locs ls hi hP hS hl
      have hw : w32 (i : Int) = (i : Int) := w32_id (by omega) (by omega)
      have hw2 : w32 (N : Int) = (N : Int) := w32_id (by omega) (by omega)
      refine lv_iload_n X.1 X.2.1 dJ7_fill_53178_5 rfl (lv_at hl 0 rfl) ?_
      refine lv_iload_n X.1 X.2.1 dJ7_fill_53178_6 rfl (lv_at hl 1 rfl) ?_
      refine r_icmp_ge (tgt := 20) X dJ7_fill_53178_7 (by decide) (fun q => absurd q (by rw [hw, hw2]; omega)) (fun _ => ?_)
      refine lv_aload_n X.1 X.2.1 dJ7_fill_53178_10 rfl (lv_at hl 2 rfl) ?_
      refine lv_iload_n X.1 X.2.1 dJ7_fill_53178_11 rfl (lv_at hl 0 rfl) ?_
      refine lv_iload_n X.1 X.2.1 dJ7_fill_53178_12 rfl (lv_at hl 3 rfl) ?_
      refine q_iast (j := i) (N := N) (g := fun j => if j < i then i32 v else g j) X hP hS (by omega) hk (by simp [upE]) (by rw [hw]; omega) (by rw [hw]; rfl) dJ7_fill_53178_13 (fun H locs hP hS => ?_)
      refine lv_iinc (v := i32 ((i + 1 : Nat) : Int)) (lv' := [(2, .int (i32 ((i + 1 : Nat) : Int))), (3, .int (i32 (N : Int))), (0, .ref (gh G + k)), (1, .int (i32 v))]) X.1 X.2.1 dJ7_fill_53178_14 hl (k := 0) rfl (i32_add _ _) (by decide) rfl (fun ls hl => ?_)
      refine lv_goto (tgt := 5) X.1 X.2.1 dJ7_fill_53178_17 (by decide) ?_
      refine ih (i + 1) H locs ls (by omega) ?_ hS hl
      refine hP.congr (fun q hq => Or.inl ?_)
      by_cases hqk : q = k
      · subst hqk
        simp only [upE, if_true]
        refine congrArg (fun h : Nat → Int32 => (Sum.inl (gC G 13, N, Sum.inl h) : va_E)) ?_
        funext j
        simp only [upd]
        by_cases hji : j = i
        · subst hji; simp
        · by_cases hj2 : j < i
          · simp [hji, hj2, Nat.lt_succ_of_lt hj2]
          · have : ¬ j < i + 1 := by omega
            simp [hji, hj2, this]
      · simp [upE, hqk]
  refine r_iconst X 0 dJ7_fill_53178_0 ?_
  refine lv_istore_n (lv' := [(2, .int (i32 0)), (0, .ref (gh G + k)), (1, .int (i32 v))]) X.1 X.2.1 dJ7_fill_53178_1 rfl hl (by decide) rfl (fun ls hl => ?_)
  refine lv_aload_n X.1 X.2.1 dJ7_fill_53178_2 rfl (lv_at hl 1 rfl) ?_
  refine q_alen X hP hk he dJ7_fill_53178_3 ?_
  refine lv_istore_n (lv' := [(3, .int (i32 (N : Int))), (2, .int (i32 0)), (0, .ref (gh G + k)), (1, .int (i32 v))]) X.1 X.2.1 dJ7_fill_53178_4 rfl hl (by decide) rfl (fun ls hl => ?_)
  refine loop N 0 _ _ ls (by omega) ?_ hS (lv_sub hl [1, 0, 2, 3] rfl)
  refine hP.congr (fun q hq => Or.inl ?_)
  by_cases hqk : q = k
  · subst hqk
    simp [upE, he]
  · simp [upE, hqk]
def CTi (l : Launch) (y : MethodName) (cc : ByteArray) (nL : Nat) (fF fL : Nat) (G : GT) (As : List Value) (n : Nat) (f : Nat → va_E) (r : Int) : Prop :=
  Met l y (Cond.code y cc nL (some .int) :: TB) ({ frames := fF, cells := 0, slots := 0, locals := fL }) (va_Pc As (fun U => (ST G U ∧ AOs U) ∧ PWc G n f U.heap)) (fun _ st oc t => oc = .returned (some (.int (i32 r))) ∧ PWc G n f t.heap ∧ va_F (AA G) st t) 0 0 (AA G)
theorem ct_part {l : Launch} {G : GT} {n : Nat} {f : Nat → va_E} {x : Int} : CTi l yX11_part cX11_part 1 1 60 G [.int (i32 x)] n f (5 + 165 * x) := by
  refine Met.ofW (cc := cX11_part) (maxL := 1) (ret := some .int) (by decide) rfl ?_
  intro p e s m args below meth c s₁ B hml hv
  obtain ⟨rfl, ⟨hG, hO⟩, hP⟩ := hv
  have hts := atoms_spec (ws := Cond.code yX11_part cX11_part 1 (some .int) :: TB) B.pre
  have X : CX p ({ frames := 1, cells := 0, slots := 0, locals := 60 }) s m ([Value.int (i32 x)] : List Value).toArray meth c cX11_part 1 RX11 (some .int) 1 60 G := ⟨B.exec, B.bytes, hml, findClass_of_methodNamed B.named, fun w hw => hts w (List.mem_cons_of_mem _ hw), B.notSynchronized, B.returns, ⟨Nat.le_refl _, Nat.le_refl _⟩, hG⟩
  have hS : va_S (AA G) s.heap s.heap [] := va_S.rf
  have hl := lv_entry ([.int (i32 x)]) (n := 1) (Nat.le_of_ble_eq_true rfl)
  rw [lg_entry_eq]
  generalize (lg_sl ([.int (i32 x)]) ++ List.replicate (1 - (lg_sl ([.int (i32 x)])).length) Slot.unset).toArray = ls at hl ⊢
  have hl : lv_has ls 1 [(0, .int (i32 x))] := hl
  refine r_iconst X 5 dX11_part_0 ?_
  refine r_sipush X 165 (by decide) dX11_part_1 ?_
  refine lv_iload_n X.1 X.2.1 dX11_part_4 rfl (lv_at hl 0 rfl) ?_
  refine r_imul X dX11_part_5 ?_
  refine r_iadd X dX11_part_6 ?_
  exact W.iret X.1 X.2.1 X.2.2.2.2.2.2.1 (fun t ht _ => ⟨rfl, by rw [ht]; exact hP, hS.F ht⟩) (fun q hq => hS.2.2 q hq) dX11_part_7 X.2.2.2.2.2.1
section Cons3
variable {p : Program} {l : Launch} {e : Env} {R : Room} {s : State} {m : MethodId} {args : Array Value} {below : List Frame} {meth : Method} {c : Code} {H : Heap} {locs : List Loc} {cells slots : Nat} {Q : State → Prop}
variable {cc : ByteArray} {nL : Nat} {own : String} {ret : Option FieldType} {fF fL : Nat} {G : GT} {pc : Nat} {ls : Array Slot} {rest : List Value} {σ : Mem} {f : Nat → va_E} {n : Nat}
theorem q_fill (X : CX p R s m args meth c cc nL own ret fF fL G) (hP : PWc G n f H) (hS : va_S (AA G) s.heap H locs) (hO : AOs s) (hsz : s.heap.size + cells ≤ gh G + n) (hls : ls.size = nL) {k N idx : Nat} {g : Nat → Int32} {v : Int} (hk : k < n) (he : f k = .inl (gC G 13, N, .inl g)) (h1 : Cond.methodLink own idx yJ7_fill_53178 ∈ TB) (hR : 2 ≤ fF ∧ N < 2147483648 ∧ 90 ≤ fL) (hW : (rest.map fun v => v.category).sum ≤ 8) (hd : decode cc pc = .ok (.invokestatic idx, 3)) (hcs : cells ≤ R.cells ∧ slots ≤ R.slots) (kk : ∀ (H1 : Heap) (locs1 : List Loc), PWc G n (upE f k (.inl (gC G 13, N, .inl (fun j => if j < N then i32 v else g j)))) H1 → va_S (AA G) s.heap H1 locs1 → W p l e R s m args below meth c H1 locs1 (cells) (slots) Q (F0 m (pc + 3) ls (rest))) : W p l e R s m args below meth c H locs (cells) (slots) Q (F0 m (pc) ls (.int (i32 v) :: .ref (gh G + k) :: rest)) := by
  refine q_call (va_runS (As := [.ref (gh G + k), .int (i32 v)]) (rest := rest) (Ts := TB) (n := 2) ⟨X.1, X.2.1, X.2.2.1, X.ow, X.ts⟩ (ct_fill hk he hR.2.1) (va_cwS 2 X.ts (goodIn_s ?_ (TB_self (tb t_119 rfl))) rfl rfl rfl (by decide +kernel) ⟨Nat.le_trans hR.1 X.2.2.2.2.2.2.2.1.1, Nat.le_trans (Nat.le_trans (by show 8 + (4 + 11) + 60 ≤ 90; decide) hR.2.2) X.2.2.2.2.2.2.2.1.2⟩) ⟨qc_blind, qc_at X.S hO hP hS⟩ rfl rfl hls rfl (lv_room hW) hd ⟨hcs.1, hcs.2⟩) hS kk
  intro w hw
  simp only [List.mem_cons, List.not_mem_nil, or_false] at hw
  rcases hw with rfl | rfl | rfl
  · exact ⟨h1, TB_good h1⟩
  · exact ⟨(tb t_118 rfl), TB_good (tb t_118 rfl)⟩
  · exact ⟨(tb t_78 rfl), TB_good (tb t_78 rfl)⟩
theorem q_part (X : CX p R s m args meth c cc nL own ret fF fL G) (hP : PWc G n f H) (hS : va_S (AA G) s.heap H locs) (hO : AOs s) (hls : ls.size = nL) {idx : Nat} {x : Int} (h1 : Cond.methodLink own idx yX11_part ∈ TB) (hR : 2 ≤ fF ∧ 90 ≤ fL) (hW : (rest.map fun v => v.category).sum ≤ 8) (hd : decode cc pc = .ok (.invokestatic idx, 3)) (hcs : cells ≤ R.cells ∧ slots ≤ R.slots) (kk : ∀ (H1 : Heap) (locs1 : List Loc), PWc G n f H1 → va_S (AA G) s.heap H1 locs1 → W p l e R s m args below meth c H1 locs1 (cells) (slots) Q (F0 m (pc + 3) ls (.int (i32 (5 + 165 * x)) :: rest))) : W p l e R s m args below meth c H locs (cells) (slots) Q (F0 m (pc) ls (.int (i32 x) :: rest)) := by
  have hr := va_runS (l := l) (e := e) (R := R) (below := below) (meth := meth) (H := H) (locs := locs) (cells := cells) (slots := slots) (g := F0 m pc ls (.int (i32 x) :: rest)) (As := [.int (i32 x)]) (rest := rest) (Ts := TB) (n := 1) ⟨X.1, X.2.1, X.2.2.1, X.ow, X.ts⟩ (ct_part (l := l) (G := G) (n := n) (f := f) (x := x)) (va_cwS 1 X.ts (goodIn_s (by
    intro w hw
    simp only [List.mem_cons, List.not_mem_nil, or_false] at hw
    rcases hw with rfl | rfl | rfl
    · exact ⟨h1, TB_good h1⟩
    · exact ⟨(tb t_1085 rfl), TB_good (tb t_1085 rfl)⟩
    · exact ⟨(tb t_87 rfl), TB_good (tb t_87 rfl)⟩) (TB_self (tb t_1086 rfl))) rfl rfl rfl (by decide +kernel) ⟨Nat.le_trans hR.1 X.2.2.2.2.2.2.2.1.1, Nat.le_trans (Nat.le_trans (by show 8 + (1 + 11) + 60 ≤ 90; decide) hR.2) X.2.2.2.2.2.2.2.1.2⟩) ⟨qc_blind, qc_at X.S hO hP hS⟩ rfl rfl hls rfl (lv_room hW) hd ⟨hcs.1, hcs.2⟩
  intro T hT XX
  obtain ⟨v', st₀, t, T', L, h0, X', hL, e1, e2, ⟨hv, hP1, hz, hk⟩, hst⟩ := hr T hT XX
  cases hv
  rw [h0] at hz hk
  obtain ⟨t2, a1, b1⟩ := kk T'.heap (locs ++ L) (by rw [e1]; exact hP1) ⟨Nat.le_trans hS.1 (by rw [e1]; exact hz), fun q h1 h2 => by rw [e1, hk q (Nat.lt_of_lt_of_le h1 hS.1) h2]; exact hS.2.1 q h1 h2, fun q hq => by
      rcases List.mem_append.mp hq with h | h
      · exact hS.2.2 q h
      · exact hL q h⟩ T' rfl X'
  exact ⟨t2, hst t2 a1, b1⟩
end Cons3
