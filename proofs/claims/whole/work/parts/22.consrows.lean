/-! CONSTRUCTORS: a world that grows, cell by cell -/
def upE (f : Nat → va_E) (n : Nat) (E : va_E) : Nat → va_E := fun k => if k = n then E else f k
def wsc (G : GT) (n : Nat) (f : Nat → va_E) : va_W := (List.range n).map (fun k => (gh G + k, f k))
def PWc (G : GT) (n : Nat) (f : Nat → va_E) (H : Heap) : Prop := H.size = gh G + n ∧ va_P (gD G) vwCl (wsc G n f) H
theorem wsc_len (G : GT) (n : Nat) (f : Nat → va_E) : (wsc G n f).length = n := by simp [wsc]
theorem wsc_at {G : GT} {n k : Nat} {f : Nat → va_E} {E : va_E} (hk : k < n) (hE : f k = E) : (wsc G n f)[k]? = some (gh G + k, E) := by
  subst hE
  simp [wsc, hk]
theorem wsc_D (G : GT) (n : Nat) (f : Nat → va_E) : va_D (AA G) (wsc G n f) := by
  have key : ∀ (k : Nat) (q : Nat × va_E), (wsc G n f)[k]? = some q → q.1 = gh G + k := by
    intro k q h
    have hl := (List.getElem?_eq_some_iff.mp h).1
    rw [wsc_len] at hl
    rw [wsc_at hl rfl] at h
    cases h
    rfl
  refine ⟨fun i j p q hi hj e => ?_, fun k q h => ?_⟩
  · have h1 := key i p hi
    have h2 := key j q hj
    omega
  · have h1 := key k q h
    show gh G ≤ q.1
    omega
theorem wsc_set {G : GT} {n k : Nat} {f : Nat → va_E} {E : va_E} : (wsc G n f).set k (gh G + k, E) = wsc G n (upE f k E) := by
  apply List.ext_getElem?
  intro i
  by_cases hi : i < n
  · by_cases hik : i = k
    · subst hik
      rw [List.getElem?_set_self (by rw [wsc_len]; exact hi), wsc_at hi rfl]
      simp [upE]
    · rw [List.getElem?_set_ne (fun h => hik h.symm), wsc_at hi rfl, wsc_at hi rfl]
      simp [upE, hik]
  · rw [List.getElem?_eq_none (by rw [List.length_set, wsc_len]; omega), List.getElem?_eq_none (by rw [wsc_len]; omega)]
theorem PWc.at {G : GT} {n k : Nat} {f : Nat → va_E} {H : Heap} (h : PWc G n f H) (hk : k < n) : va_at (gD G) vwCl (gh G + k, f k) H := h.2 k _ (wsc_at hk rfl)
theorem PWc.of {G : GT} {n : Nat} {f : Nat → va_E} {H : Heap} (hz : H.size = gh G + n) (h : ∀ k, k < n → va_at (gD G) vwCl (gh G + k, f k) H) : PWc G n f H := by
  refine ⟨hz, fun k q hq => ?_⟩
  have hl := (List.getElem?_eq_some_iff.mp hq).1
  rw [wsc_len] at hl
  rw [wsc_at hl rfl] at hq
  cases hq
  exact h k hl
theorem PWc.push {G : GT} {n : Nat} {f : Nat → va_E} {E : va_E} {H H1 : Heap} (h : PWc G n f H) (hz : H1.size = H.size + 1) (ho : ∀ q, q < H.size → H1[q]? = H[q]?) (hE : va_at (gD G) vwCl (H.size, E) H1) : PWc G (n + 1) (upE f n E) H1 := by
  refine PWc.of (by rw [hz, h.1]; omega) (fun k hk => ?_)
  by_cases hkn : k = n
  · subst hkn
    rw [show upE f k E k = E by simp [upE], ← h.1]
    exact hE
  · rw [show upE f n E k = f k by simp [upE, hkn]]
    exact (h.at (by omega)).kept (ho _ (by have := h.1; show gh G + k < H.size; omega))
/-- rows of references count up to their length alone -/
def eqE (E E' : va_E) : Prop := E = E' ∨ ∃ (cA : ClassId) (n : Nat) (F F' : Nat → Option Nat), E = .inl (cA, n, .inr (.inr (.inr (.inr F)))) ∧ E' = .inl (cA, n, .inr (.inr (.inr (.inr F')))) ∧ ∀ j, j < n → F j = F' j
theorem va_at_eq {D : va_G} {a : Nat} {E E' : va_E} {H : Heap} (h : eqE E E') (hv : va_at D vwCl (a, E) H) : va_at D vwCl (a, E') H := by
  rcases h with rfl | ⟨cA, n, F, F', rfl, rfl, hF⟩
  · exact hv
  · have h1 : H[a]? = some (vp_cell cA (n, .inr (.inr (.inr (.inr F))))) := hv
    show H[a]? = some (vp_cell cA (n, .inr (.inr (.inr (.inr F')))))
    rw [h1]
    show some (arrV cA n (fun j => va_rf (F j))) = some (arrV cA n (fun j => va_rf (F' j)))
    congr 1
    unfold arrV
    congr 1
    congr 1
    funext j
    show va_rf (F j.val) = va_rf (F' j.val)
    rw [hF j.val j.isLt]
theorem PWc.congr {G : GT} {n : Nat} {f g : Nat → va_E} {H : Heap} (h : PWc G n f H) (hf : ∀ k, k < n → eqE (f k) (g k)) : PWc G n g H := PWc.of h.1 (fun k hk => va_at_eq (hf k hk) (h.at hk))
def AOs (U : State) : Prop := va_AO "PageTurns$Part" U ∧ va_AO "PageTurns$Sheet" U ∧ va_AO "PageTurns$PageTable" U ∧ va_AO "PageTurns$Laying" U
theorem AOs.go {s U : State} (h : AOs s) (hW : s.WarmedH U.vm) : AOs U := ⟨h.1.moved hW.alike, h.2.1.moved hW.alike, h.2.2.1.moved hW.alike, h.2.2.2.moved hW.alike⟩
/-- a constructor's contract -/
def QC (G : GT) (n : Nat) (f : Nat → va_E) : Array Value → State → Outcome → State → Prop := fun _ st oc t => oc = .returned none ∧ PWc G n f t.heap ∧ va_F (AA G) st t
def CTc (l : Launch) (y : MethodName) (cc : ByteArray) (nL : Nat) (fF fL mc ms : Nat) (G : GT) (As : List Value) (n : Nat) (f : Nat → va_E) (n' : Nat) (f' : Nat → va_E) : Prop :=
  Met l y (Cond.code y cc nL none :: TB) ({ frames := fF, cells := mc, slots := ms, locals := fL }) (va_Pc As (fun U => (ST G U ∧ AOs U) ∧ PWc G n f U.heap)) (QC G n' f') mc ms (AA G)
theorem wsc_S {G : GT} {s : State} {H H1 : Heap} {locs : List Loc} (hS : va_S (AA G) s.heap H locs) (hz : H1.size = H.size + 1) (ho : ∀ q, q < H.size → H1[q]? = H[q]?) : va_S (AA G) s.heap H1 locs := ⟨Nat.le_trans hS.1 (by omega), fun x h1 h2 => (ho x (Nat.lt_of_lt_of_le h1 hS.1)).trans (hS.2.1 x h1 h2), hS.2.2⟩
section Cons
variable {p : Program} {l : Launch} {e : Env} {R : Room} {s : State} {m : MethodId} {args : Array Value} {below : List Frame} {meth : Method} {c : Code} {H : Heap} {locs : List Loc} {cells slots : Nat} {Q : State → Prop}
variable {cc : ByteArray} {nL : Nat} {own : String} {ret : Option FieldType} {fF fL : Nat} {G : GT} {pc : Nat} {ls : Array Slot} {rest : List Value} {σ : Mem} {f : Nat → va_E} {n : Nat}
theorem W.sz {g : JFrame} (kk : H.size ≤ s.heap.size + cells → W p l e R s m args below meth c H locs cells slots Q g) : W p l e R s m args below meth c H locs cells slots Q g := fun T hT X => kk (by rw [← hT]; exact X.heapSize) T hT X
theorem PWc.mk {H1 : Heap} (hn : 0 < n) (hz : H1.size ≤ gh G + n) (h : va_P (gD G) vwCl (wsc G n f) H1) : PWc G n f H1 := by
  refine ⟨?_, h⟩
  have := (h (n - 1) _ (wsc_at (by omega) rfl)).lt
  have h2 : gh G + (n - 1) < H1.size := this
  omega
theorem q_new (X : CX p R s m args meth c cc nL own ret fF fL G) (hP : PWc G n f H) (hS : va_S (AA G) s.heap H locs) {ci N idx : Nat} {C : String} {T : u_T} {fs : List Value} (hc : vwCl[ci]? = some (C, T, N)) (hin : ∀ w ∈ u_ws C T N, w ∈ TB) (ty : Nat → FieldType) (hty : ∀ k, k < N → parseFieldDescriptor (T k).2.2.1 = some (ty k)) (h1 : Cond.classLink own idx C ∈ TB) (h2 : Cond.instantiable C N ∈ TB) (h3 : Cond.initialized C ∈ TB) (hfs : ∀ j, j < N → defaultValue (ty j) = vp_V fs j) (hcells : cells + 1 ≤ R.cells) (hslots : slots + N ≤ R.slots) (hd : decode cc pc = .ok (.new idx, 3)) (kk : ∀ H1 : Heap, PWc G (n + 1) (upE f n (.inr (ci, fs))) H1 → va_S (AA G) s.heap H1 locs → W p l e R s m args below meth c H1 locs (cells + 1) (slots + N) Q (F0 m (pc + 3) ls (.ref (gh G + n) :: rest))) : W p l e R s m args below meth c H locs (cells) (slots) Q (F0 m (pc) ls (rest)) := by
  have hKn := X.K.1 ci _ hc
  refine W.newcK X.1 X.2.1 X.ow (X.ts _ h1) (X.ts _ h2) (X.ts _ h3) rfl hd hcells hslots hKn.2.1 rfl fun H1 kC hkC e1 z1 o1 => ?_
  have := kk H1 (hP.push z1 o1 ⟨_, hc, (u_born ty X.ts hin hKn hkC e1 hty).to hfs⟩) (wsc_S hS z1 o1)
  rw [← hP.1] at this
  exact this
theorem q_newa12 (X : CX p R s m args meth c cc nL own ret fF fL G) (hP : PWc G n f H) (hS : va_S (AA G) s.heap H locs) (h1 : Cond.arrayClass .byte ∈ TB) {x : Int} {N : Nat} (hx : w32 x = (N : Int)) (hbytes : N * componentBytes .byte ≤ 536870912) (hcells : cells + 1 ≤ R.cells) (hslots : slots + N ≤ R.slots) (hd : decode cc pc = .ok (.newarray .byte, 2)) (kk : ∀ H1 : Heap, PWc G (n + 1) (upE f n (.inl (gC G 12, N, .inl (fun _ => 0)))) H1 → va_S (AA G) s.heap H1 locs → W p l e R s m args below meth c H1 locs (cells + 1) (slots + N) Q (F0 m (pc + 2) ls (.ref (gh G + n) :: rest))) : W p l e R s m args below meth c H locs (cells) (slots) Q (F0 m (pc) ls (.int (i32 x) :: rest)) := by
  refine va_newaK (atype := .byte) X.1 X.2.1 (X.ts _ h1) rfl hd rfl (by rw [i32_lt0]; omega) (N := N) (by rw [i32_nat]; omega) hbytes hcells hslots rfl fun H1 cA e1 z1 o1 _ hNm => ?_
  have hcA : gC G 12 = cA := by
    have h2 := (X.K.2 0 _ rfl).2
    exact Option.some.inj (h2.symm.trans hNm)
  have := kk H1 (hP.push z1 o1 (by rw [hcA]; exact e1)) (wsc_S hS z1 o1)
  rw [← hP.1] at this
  exact this
theorem q_newa13 (X : CX p R s m args meth c cc nL own ret fF fL G) (hP : PWc G n f H) (hS : va_S (AA G) s.heap H locs) (h1 : Cond.arrayClass .int ∈ TB) {x : Int} {N : Nat} (hx : w32 x = (N : Int)) (hbytes : N * componentBytes .int ≤ 536870912) (hcells : cells + 1 ≤ R.cells) (hslots : slots + N ≤ R.slots) (hd : decode cc pc = .ok (.newarray .int, 2)) (kk : ∀ H1 : Heap, PWc G (n + 1) (upE f n (.inl (gC G 13, N, .inl (fun _ => 0)))) H1 → va_S (AA G) s.heap H1 locs → W p l e R s m args below meth c H1 locs (cells + 1) (slots + N) Q (F0 m (pc + 2) ls (.ref (gh G + n) :: rest))) : W p l e R s m args below meth c H locs (cells) (slots) Q (F0 m (pc) ls (.int (i32 x) :: rest)) := by
  refine va_newaK (atype := .int) X.1 X.2.1 (X.ts _ h1) rfl hd rfl (by rw [i32_lt0]; omega) (N := N) (by rw [i32_nat]; omega) hbytes hcells hslots rfl fun H1 cA e1 z1 o1 _ hNm => ?_
  have hcA : gC G 13 = cA := by
    have h2 := (X.K.2 1 _ rfl).2
    exact Option.some.inj (h2.symm.trans hNm)
  have := kk H1 (hP.push z1 o1 (by rw [hcA]; exact e1)) (wsc_S hS z1 o1)
  rw [← hP.1] at this
  exact this
theorem q_newa14 (X : CX p R s m args meth c cc nL own ret fF fL G) (hP : PWc G n f H) (hS : va_S (AA G) s.heap H locs) (h1 : Cond.arrayClass .long ∈ TB) {x : Int} {N : Nat} (hx : w32 x = (N : Int)) (hbytes : N * componentBytes .long ≤ 536870912) (hcells : cells + 1 ≤ R.cells) (hslots : slots + N ≤ R.slots) (hd : decode cc pc = .ok (.newarray .long, 2)) (kk : ∀ H1 : Heap, PWc G (n + 1) (upE f n (.inl (gC G 14, N, .inr (.inl (fun _ => 0))))) H1 → va_S (AA G) s.heap H1 locs → W p l e R s m args below meth c H1 locs (cells + 1) (slots + N) Q (F0 m (pc + 2) ls (.ref (gh G + n) :: rest))) : W p l e R s m args below meth c H locs (cells) (slots) Q (F0 m (pc) ls (.int (i32 x) :: rest)) := by
  refine va_newaK (atype := .long) X.1 X.2.1 (X.ts _ h1) rfl hd rfl (by rw [i32_lt0]; omega) (N := N) (by rw [i32_nat]; omega) hbytes hcells hslots rfl fun H1 cA e1 z1 o1 _ hNm => ?_
  have hcA : gC G 14 = cA := by
    have h2 := (X.K.2 2 _ rfl).2
    exact Option.some.inj (h2.symm.trans hNm)
  have := kk H1 (hP.push z1 o1 (by rw [hcA]; exact e1)) (wsc_S hS z1 o1)
  rw [← hP.1] at this
  exact this
theorem q_newa15 (X : CX p R s m args meth c cc nL own ret fF fL G) (hP : PWc G n f H) (hS : va_S (AA G) s.heap H locs) (h1 : Cond.arrayClass .boolean ∈ TB) {x : Int} {N : Nat} (hx : w32 x = (N : Int)) (hbytes : N * componentBytes .boolean ≤ 536870912) (hcells : cells + 1 ≤ R.cells) (hslots : slots + N ≤ R.slots) (hd : decode cc pc = .ok (.newarray .boolean, 2)) (kk : ∀ H1 : Heap, PWc G (n + 1) (upE f n (.inl (gC G 15, N, .inl (fun _ => 0)))) H1 → va_S (AA G) s.heap H1 locs → W p l e R s m args below meth c H1 locs (cells + 1) (slots + N) Q (F0 m (pc + 2) ls (.ref (gh G + n) :: rest))) : W p l e R s m args below meth c H locs (cells) (slots) Q (F0 m (pc) ls (.int (i32 x) :: rest)) := by
  refine va_newaK (atype := .boolean) X.1 X.2.1 (X.ts _ h1) rfl hd rfl (by rw [i32_lt0]; omega) (N := N) (by rw [i32_nat]; omega) hbytes hcells hslots rfl fun H1 cA e1 z1 o1 _ hNm => ?_
  have hcA : gC G 15 = cA := by
    have h2 := (X.K.2 3 _ rfl).2
    exact Option.some.inj (h2.symm.trans hNm)
  have := kk H1 (hP.push z1 o1 (by rw [hcA]; exact e1)) (wsc_S hS z1 o1)
  rw [← hP.1] at this
  exact this
theorem q_newq16 (X : CX p R s m args meth c cc nL own ret fF fL G) (hP : PWc G n f H) (hS : va_S (AA G) s.heap H locs) {idx : Nat} (h1 : Cond.classLink own idx "PageTurns$Laying" ∈ TB) (h2 : va_AO "PageTurns$Laying" s) {x : Int} {N : Nat} (hx : w32 x = (N : Int)) (hbytes : N * 4 ≤ 536870912) (hcells : cells + 1 ≤ R.cells) (hslots : slots + N ≤ R.slots) (hd : decode cc pc = .ok (.anewarray idx, 3)) (kk : ∀ H1 : Heap, PWc G (n + 1) (upE f n (.inl (gC G 16, N, .inr (.inr (.inr (.inr (fun _ => none))))))) H1 → va_S (AA G) s.heap H1 locs → W p l e R s m args below meth c H1 locs (cells + 1) (slots + N) Q (F0 m (pc + 3) ls (.ref (gh G + n) :: rest))) : W p l e R s m args below meth c H locs (cells) (slots) Q (F0 m (pc) ls (.int (i32 x) :: rest)) := by
  have hN : (i32 x).toNatClampNeg = N := by rw [i32_nat]; omega
  subst hN
  refine W.anew X.1 X.2.1 X.ow (X.ts _ h1) (va_AO.use h2) rfl hd rfl (by rw [i32_lt0]; omega) hbytes hcells hslots fun cA kA comp f1 f2 f3 f4 => ?_
  generalize hH1 : H.push ({ cls := cA, slots := Array.replicate (i32 x).toNatClampNeg .null, vm := .none } : Cell) = H1
  have z1 : H1.size = H.size + 1 := by rw [← hH1, Array.size_push]
  have e1 : H1[H.size]? = some (arrV cA (i32 x).toNatClampNeg (fun _ => .null)) := by rw [← hH1, Array.getElem?_push_size, ← arrV_new]
  have o1 : ∀ q : Nat, q < H.size → H1[q]? = H[q]? := fun q hq => by rw [← hH1, Array.getElem?_push, if_neg (Nat.ne_of_lt hq)]
  have hcA : gC G 16 = cA := by
    obtain ⟨-, -, -, -, -, h3⟩ := (X.K.2 4 _ rfl).2
    exact Option.some.inj (h3.symm.trans f1)
  have := kk H1 (hP.push z1 o1 (by rw [hcA]; show H1[H.size]? = some (vp_cell _ _); rw [vp_cell_q]; exact e1)) (wsc_S hS z1 o1)
  rw [← hP.1] at this
  exact this
theorem q_newq17 (X : CX p R s m args meth c cc nL own ret fF fL G) (hP : PWc G n f H) (hS : va_S (AA G) s.heap H locs) {idx : Nat} (h1 : Cond.classLink own idx "PageTurns$PageTable" ∈ TB) (h2 : va_AO "PageTurns$PageTable" s) {x : Int} {N : Nat} (hx : w32 x = (N : Int)) (hbytes : N * 4 ≤ 536870912) (hcells : cells + 1 ≤ R.cells) (hslots : slots + N ≤ R.slots) (hd : decode cc pc = .ok (.anewarray idx, 3)) (kk : ∀ H1 : Heap, PWc G (n + 1) (upE f n (.inl (gC G 17, N, .inr (.inr (.inr (.inr (fun _ => none))))))) H1 → va_S (AA G) s.heap H1 locs → W p l e R s m args below meth c H1 locs (cells + 1) (slots + N) Q (F0 m (pc + 3) ls (.ref (gh G + n) :: rest))) : W p l e R s m args below meth c H locs (cells) (slots) Q (F0 m (pc) ls (.int (i32 x) :: rest)) := by
  have hN : (i32 x).toNatClampNeg = N := by rw [i32_nat]; omega
  subst hN
  refine W.anew X.1 X.2.1 X.ow (X.ts _ h1) (va_AO.use h2) rfl hd rfl (by rw [i32_lt0]; omega) hbytes hcells hslots fun cA kA comp f1 f2 f3 f4 => ?_
  generalize hH1 : H.push ({ cls := cA, slots := Array.replicate (i32 x).toNatClampNeg .null, vm := .none } : Cell) = H1
  have z1 : H1.size = H.size + 1 := by rw [← hH1, Array.size_push]
  have e1 : H1[H.size]? = some (arrV cA (i32 x).toNatClampNeg (fun _ => .null)) := by rw [← hH1, Array.getElem?_push_size, ← arrV_new]
  have o1 : ∀ q : Nat, q < H.size → H1[q]? = H[q]? := fun q hq => by rw [← hH1, Array.getElem?_push, if_neg (Nat.ne_of_lt hq)]
  have hcA : gC G 17 = cA := by
    obtain ⟨-, -, -, -, -, h3⟩ := (X.K.2 5 _ rfl).2
    exact Option.some.inj (h3.symm.trans f1)
  have := kk H1 (hP.push z1 o1 (by rw [hcA]; show H1[H.size]? = some (vp_cell _ _); rw [vp_cell_q]; exact e1)) (wsc_S hS z1 o1)
  rw [← hP.1] at this
  exact this
theorem q_newq18 (X : CX p R s m args meth c cc nL own ret fF fL G) (hP : PWc G n f H) (hS : va_S (AA G) s.heap H locs) {idx : Nat} (h1 : Cond.classLink own idx "PageTurns$Part" ∈ TB) (h2 : va_AO "PageTurns$Part" s) {x : Int} {N : Nat} (hx : w32 x = (N : Int)) (hbytes : N * 4 ≤ 536870912) (hcells : cells + 1 ≤ R.cells) (hslots : slots + N ≤ R.slots) (hd : decode cc pc = .ok (.anewarray idx, 3)) (kk : ∀ H1 : Heap, PWc G (n + 1) (upE f n (.inl (gC G 18, N, .inr (.inr (.inr (.inr (fun _ => none))))))) H1 → va_S (AA G) s.heap H1 locs → W p l e R s m args below meth c H1 locs (cells + 1) (slots + N) Q (F0 m (pc + 3) ls (.ref (gh G + n) :: rest))) : W p l e R s m args below meth c H locs (cells) (slots) Q (F0 m (pc) ls (.int (i32 x) :: rest)) := by
  have hN : (i32 x).toNatClampNeg = N := by rw [i32_nat]; omega
  subst hN
  refine W.anew X.1 X.2.1 X.ow (X.ts _ h1) (va_AO.use h2) rfl hd rfl (by rw [i32_lt0]; omega) hbytes hcells hslots fun cA kA comp f1 f2 f3 f4 => ?_
  generalize hH1 : H.push ({ cls := cA, slots := Array.replicate (i32 x).toNatClampNeg .null, vm := .none } : Cell) = H1
  have z1 : H1.size = H.size + 1 := by rw [← hH1, Array.size_push]
  have e1 : H1[H.size]? = some (arrV cA (i32 x).toNatClampNeg (fun _ => .null)) := by rw [← hH1, Array.getElem?_push_size, ← arrV_new]
  have o1 : ∀ q : Nat, q < H.size → H1[q]? = H[q]? := fun q hq => by rw [← hH1, Array.getElem?_push, if_neg (Nat.ne_of_lt hq)]
  have hcA : gC G 18 = cA := by
    obtain ⟨-, -, -, -, -, h3⟩ := (X.K.2 6 _ rfl).2
    exact Option.some.inj (h3.symm.trans f1)
  have := kk H1 (hP.push z1 o1 (by rw [hcA]; show H1[H.size]? = some (vp_cell _ _); rw [vp_cell_q]; exact e1)) (wsc_S hS z1 o1)
  rw [← hP.1] at this
  exact this
theorem q_newq19 (X : CX p R s m args meth c cc nL own ret fF fL G) (hP : PWc G n f H) (hS : va_S (AA G) s.heap H locs) {idx : Nat} (h1 : Cond.classLink own idx "PageTurns$Sheet" ∈ TB) (h2 : va_AO "PageTurns$Sheet" s) {x : Int} {N : Nat} (hx : w32 x = (N : Int)) (hbytes : N * 4 ≤ 536870912) (hcells : cells + 1 ≤ R.cells) (hslots : slots + N ≤ R.slots) (hd : decode cc pc = .ok (.anewarray idx, 3)) (kk : ∀ H1 : Heap, PWc G (n + 1) (upE f n (.inl (gC G 19, N, .inr (.inr (.inr (.inr (fun _ => none))))))) H1 → va_S (AA G) s.heap H1 locs → W p l e R s m args below meth c H1 locs (cells + 1) (slots + N) Q (F0 m (pc + 3) ls (.ref (gh G + n) :: rest))) : W p l e R s m args below meth c H locs (cells) (slots) Q (F0 m (pc) ls (.int (i32 x) :: rest)) := by
  have hN : (i32 x).toNatClampNeg = N := by rw [i32_nat]; omega
  subst hN
  refine W.anew X.1 X.2.1 X.ow (X.ts _ h1) (va_AO.use h2) rfl hd rfl (by rw [i32_lt0]; omega) hbytes hcells hslots fun cA kA comp f1 f2 f3 f4 => ?_
  generalize hH1 : H.push ({ cls := cA, slots := Array.replicate (i32 x).toNatClampNeg .null, vm := .none } : Cell) = H1
  have z1 : H1.size = H.size + 1 := by rw [← hH1, Array.size_push]
  have e1 : H1[H.size]? = some (arrV cA (i32 x).toNatClampNeg (fun _ => .null)) := by rw [← hH1, Array.getElem?_push_size, ← arrV_new]
  have o1 : ∀ q : Nat, q < H.size → H1[q]? = H[q]? := fun q hq => by rw [← hH1, Array.getElem?_push, if_neg (Nat.ne_of_lt hq)]
  have hcA : gC G 19 = cA := by
    obtain ⟨-, -, -, -, -, h3⟩ := (X.K.2 7 _ rfl).2
    exact Option.some.inj (h3.symm.trans f1)
  have := kk H1 (hP.push z1 o1 (by rw [hcA]; show H1[H.size]? = some (vp_cell _ _); rw [vp_cell_q]; exact e1)) (wsc_S hS z1 o1)
  rw [← hP.1] at this
  exact this
theorem q_putF (X : CX p R s m args meth c cc nL own ret fF fL G) (hP : PWc G n f H) (hS : va_S (AA G) s.heap H locs) {ci j N k idx : Nat} {C : String} {T : u_T} {fs : List Value} {v : Value} {ty : FieldType} (hsz : s.heap.size + cells ≤ gh G + n) (hk : k < n) (he : f k = .inr (ci, fs)) (hc : vwCl[ci]? = some (C, T, N)) (hin : ∀ w ∈ u_ws C T N, w ∈ TB) (ty0 : Nat → FieldType) (hty : ∀ k, k < N → parseFieldDescriptor (T k).2.2.1 = some (ty0 k)) (hnm : ∀ a, a < N → ∀ b, b < N → a ≠ b → (T a).2.1 ≠ (T b).2.1) (hj : j < N) (hlink : Cond.fieldLink own idx (T j).1 (T j).2.1 (T j).2.2.1 ∈ TB) (hfin : (T j).2.2.2 = true) (hin2 : meth.name = "<init>") (hdecl : (T j).1 = own) (hde : parseFieldDescriptor (T j).2.2.1 = some ty) (hn : narrow ty v = v) (hfit : fits ty v = true) (hl : j < fs.length) (hd : decode cc pc = .ok (.putfield idx, 3)) (kk : ∀ (H1 : Heap) (locs1 : List Loc), PWc G n (upE f k (.inr (ci, fs.set j v))) H1 → va_S (AA G) s.heap H1 locs1 → W p l e R s m args below meth c H1 locs1 (cells) (slots) Q (F0 m (pc + 3) ls (rest))) : W p l e R s m args below meth c H locs (cells) (slots) Q (F0 m (pc) ls (v :: .ref (gh G + k) :: rest)) := by
  refine va_putF X.1 X.2.1 X.ts hin ty0 hty hnm X.ow X.K hP.2 (wsc_D G n f) hS k (wsc_at hk he) hc j hj (X.ts _ hlink) (fun _ h => h) hfin hin2 hdecl hde hn hfit hl hd (fun H1 locs1 hP1 hD1 hS1 => W.sz (fun hz => kk H1 locs1 (PWc.mk (by omega) (by omega) ?_) hS1))
  rw [wsc_set] at hP1
  exact hP1
theorem q_put (X : CX p R s m args meth c cc nL own ret fF fL G) (hP : PWc G n f H) (hS : va_S (AA G) s.heap H locs) {ci j N k idx : Nat} {C : String} {T : u_T} {fs : List Value} {v : Value} {ty : FieldType} (hsz : s.heap.size + cells ≤ gh G + n) (hk : k < n) (he : f k = .inr (ci, fs)) (hc : vwCl[ci]? = some (C, T, N)) (hin : ∀ w ∈ u_ws C T N, w ∈ TB) (ty0 : Nat → FieldType) (hty : ∀ k, k < N → parseFieldDescriptor (T k).2.2.1 = some (ty0 k)) (hnm : ∀ a, a < N → ∀ b, b < N → a ≠ b → (T a).2.1 ≠ (T b).2.1) (hj : j < N) (hlink : Cond.fieldLink own idx (T j).1 (T j).2.1 (T j).2.2.1 ∈ TB) (hfin : (T j).2.2.2 = false) (hde : parseFieldDescriptor (T j).2.2.1 = some ty) (hn : narrow ty v = v) (hfit : fits ty v = true) (hl : j < fs.length) (hd : decode cc pc = .ok (.putfield idx, 3)) (kk : ∀ (H1 : Heap) (locs1 : List Loc), PWc G n (upE f k (.inr (ci, fs.set j v))) H1 → va_S (AA G) s.heap H1 locs1 → W p l e R s m args below meth c H1 locs1 (cells) (slots) Q (F0 m (pc + 3) ls (rest))) : W p l e R s m args below meth c H locs (cells) (slots) Q (F0 m (pc) ls (v :: .ref (gh G + k) :: rest)) := by
  refine va_put X.1 X.2.1 X.ts hin ty0 hty hnm X.ow X.K hP.2 (wsc_D G n f) hS k (wsc_at hk he) hc j hj (X.ts _ hlink) (fun _ h => h) hfin hde hn hfit hl hd (fun H1 locs1 hP1 hD1 hS1 => W.sz (fun hz => kk H1 locs1 (PWc.mk (by omega) (by omega) ?_) hS1))
  rw [wsc_set] at hP1
  exact hP1
theorem q_iast (X : CX p R s m args meth c cc nL own ret fF fL G) (hP : PWc G n f H) (hS : va_S (AA G) s.heap H locs) {k N j : Nat} {g : Nat → Int32} (hsz : s.heap.size + cells ≤ gh G + n) (hk : k < n) (he : f k = .inl (gC G 13, N, .inl g)) {i v : Int} (hi : 0 ≤ w32 i ∧ w32 i < (N : Int)) (hj : (w32 i).toNat = j) (hd : decode cc pc = .ok (.iastore, 1)) (kk : ∀ (H1 : Heap) (locs1 : List Loc), PWc G n (upE f k (.inl (gC G 13, N, .inl (upd g j (i32 v))))) H1 → va_S (AA G) s.heap H1 locs1 → W p l e R s m args below meth c H1 locs1 (cells) (slots) Q (F0 m (pc + 1) ls (rest))) : W p l e R s m args below meth c H locs (cells) (slots) Q (F0 m (pc) ls (.int (i32 v) :: .int (i32 i) :: .ref (gh G + k) :: rest)) := by
  subst hj
  refine va_iast X.1 X.2.1 X.K hP.2 (wsc_D G n f) hS k 1 (wsc_at hk he) rfl (i32_in.mpr hi) hd (fun H1 locs1 hP1 hD1 hS1 => W.sz (fun hz => kk H1 locs1 (PWc.mk (by omega) (by omega) ?_) hS1))
  rw [wsc_set, i32_nat] at hP1
  exact hP1
theorem q_get (X : CX p R s m args meth c cc nL own ret fF fL G) (hP : PWc G n f H) (hS : va_S (AA G) s.heap H locs) {ci j N k idx : Nat} {C : String} {T : u_T} {fs : List Value} {v : Value} (hk : k < n) (he : f k = .inr (ci, fs)) (hc : vwCl[ci]? = some (C, T, N)) (hin : ∀ w ∈ u_ws C T N, w ∈ TB) (hj : j < N) (hv : fs[j]? = some v) (hlink : Cond.fieldLink own idx (T j).1 (T j).2.1 (T j).2.2.1 ∈ TB) (hd : decode cc pc = .ok (.getfield idx, 3)) (kk : W p l e R s m args below meth c H locs (cells) (slots) Q (F0 m (pc + 3) ls (v :: rest))) : W p l e R s m args below meth c H locs (cells) (slots) Q (F0 m (pc) ls (.ref (gh G + k) :: rest)) :=
  va_get X.1 X.2.1 X.ts hin X.ow X.K hP.2 k (wsc_at hk he) hc j hj (X.ts _ hlink) (fun _ h => h) hv hd kk
theorem q_alen (X : CX p R s m args meth c cc nL own ret fF fL G) (hP : PWc G n f H) {k N : Nat} {g : Nat → Int32} (hk : k < n) (he : f k = .inl (gC G 13, N, .inl g)) (hd : decode cc pc = .ok (.arraylength, 1)) (kk : W p l e R s m args below meth c H locs (cells) (slots) Q (F0 m (pc + 1) ls (.int (i32 (N : Int)) :: rest))) : W p l e R s m args below meth c H locs (cells) (slots) Q (F0 m (pc) ls (.ref (gh G + k) :: rest)) := va_alen X.1 X.2.1 X.K hP.2 k 1 (wsc_at hk he) (ty := .int) rfl rfl hd kk
theorem q_aast16 (X : CX p R s m args meth c cc nL own ret fF fL G) (hP : PWc G n f H) (hS : va_S (AA G) s.heap H locs) {k N j q : Nat} {F : Nat → Option Nat} {vs : List Value} (hsz : s.heap.size + cells ≤ gh G + n) (hk : k < n) (he : f k = .inl (gC G 16, N, .inr (.inr (.inr (.inr F))))) (hq : q < n) (heq : f q = .inr (2, vs)) {i : Int} (hi : 0 ≤ w32 i ∧ w32 i < (N : Int)) (hj : (w32 i).toNat = j) (hd : decode cc pc = .ok (.aastore, 1)) (kk : ∀ (H1 : Heap) (locs1 : List Loc), PWc G n (upE f k (.inl (gC G 16, N, .inr (.inr (.inr (.inr (va_up F j (some (gh G + q))))))))) H1 → va_S (AA G) s.heap H1 locs1 → W p l e R s m args below meth c H1 locs1 (cells) (slots) Q (F0 m (pc + 1) ls (rest))) : W p l e R s m args below meth c H locs (cells) (slots) Q (F0 m (pc) ls (.ref (gh G + q) :: .int (i32 i) :: .ref (gh G + k) :: rest)) := by
  subst hj
  refine va_astq X.1 X.2.1 X.K hP.2 (wsc_D G n f) hS k 4 q 2 (r := (RX2, TX2, 13)) (wsc_at hk he) rfl (wsc_at hq heq) rfl (i32_in.mpr hi) hd (fun H1 locs1 hP1 hD1 hS1 => W.sz (fun hz => kk H1 locs1 (PWc.mk (by omega) (by omega) ?_) hS1))
  rw [wsc_set, i32_nat] at hP1
  exact hP1
theorem q_aast17 (X : CX p R s m args meth c cc nL own ret fF fL G) (hP : PWc G n f H) (hS : va_S (AA G) s.heap H locs) {k N j q : Nat} {F : Nat → Option Nat} {vs : List Value} (hsz : s.heap.size + cells ≤ gh G + n) (hk : k < n) (he : f k = .inl (gC G 17, N, .inr (.inr (.inr (.inr F))))) (hq : q < n) (heq : f q = .inr (4, vs)) {i : Int} (hi : 0 ≤ w32 i ∧ w32 i < (N : Int)) (hj : (w32 i).toNat = j) (hd : decode cc pc = .ok (.aastore, 1)) (kk : ∀ (H1 : Heap) (locs1 : List Loc), PWc G n (upE f k (.inl (gC G 17, N, .inr (.inr (.inr (.inr (va_up F j (some (gh G + q))))))))) H1 → va_S (AA G) s.heap H1 locs1 → W p l e R s m args below meth c H1 locs1 (cells) (slots) Q (F0 m (pc + 1) ls (rest))) : W p l e R s m args below meth c H locs (cells) (slots) Q (F0 m (pc) ls (.ref (gh G + q) :: .int (i32 i) :: .ref (gh G + k) :: rest)) := by
  subst hj
  refine va_astq X.1 X.2.1 X.K hP.2 (wsc_D G n f) hS k 5 q 4 (r := (RX4, TX4, 3)) (wsc_at hk he) rfl (wsc_at hq heq) rfl (i32_in.mpr hi) hd (fun H1 locs1 hP1 hD1 hS1 => W.sz (fun hz => kk H1 locs1 (PWc.mk (by omega) (by omega) ?_) hS1))
  rw [wsc_set, i32_nat] at hP1
  exact hP1
theorem q_aast18 (X : CX p R s m args meth c cc nL own ret fF fL G) (hP : PWc G n f H) (hS : va_S (AA G) s.heap H locs) {k N j q : Nat} {F : Nat → Option Nat} {vs : List Value} (hsz : s.heap.size + cells ≤ gh G + n) (hk : k < n) (he : f k = .inl (gC G 18, N, .inr (.inr (.inr (.inr F))))) (hq : q < n) (heq : f q = .inr (5, vs)) {i : Int} (hi : 0 ≤ w32 i ∧ w32 i < (N : Int)) (hj : (w32 i).toNat = j) (hd : decode cc pc = .ok (.aastore, 1)) (kk : ∀ (H1 : Heap) (locs1 : List Loc), PWc G n (upE f k (.inl (gC G 18, N, .inr (.inr (.inr (.inr (va_up F j (some (gh G + q))))))))) H1 → va_S (AA G) s.heap H1 locs1 → W p l e R s m args below meth c H1 locs1 (cells) (slots) Q (F0 m (pc + 1) ls (rest))) : W p l e R s m args below meth c H locs (cells) (slots) Q (F0 m (pc) ls (.ref (gh G + q) :: .int (i32 i) :: .ref (gh G + k) :: rest)) := by
  subst hj
  refine va_astq X.1 X.2.1 X.K hP.2 (wsc_D G n f) hS k 6 q 5 (r := (RX5, TX5, 3)) (wsc_at hk he) rfl (wsc_at hq heq) rfl (i32_in.mpr hi) hd (fun H1 locs1 hP1 hD1 hS1 => W.sz (fun hz => kk H1 locs1 (PWc.mk (by omega) (by omega) ?_) hS1))
  rw [wsc_set, i32_nat] at hP1
  exact hP1
theorem q_aast19 (X : CX p R s m args meth c cc nL own ret fF fL G) (hP : PWc G n f H) (hS : va_S (AA G) s.heap H locs) {k N j q : Nat} {F : Nat → Option Nat} {vs : List Value} (hsz : s.heap.size + cells ≤ gh G + n) (hk : k < n) (he : f k = .inl (gC G 19, N, .inr (.inr (.inr (.inr F))))) (hq : q < n) (heq : f q = .inr (6, vs)) {i : Int} (hi : 0 ≤ w32 i ∧ w32 i < (N : Int)) (hj : (w32 i).toNat = j) (hd : decode cc pc = .ok (.aastore, 1)) (kk : ∀ (H1 : Heap) (locs1 : List Loc), PWc G n (upE f k (.inl (gC G 19, N, .inr (.inr (.inr (.inr (va_up F j (some (gh G + q))))))))) H1 → va_S (AA G) s.heap H1 locs1 → W p l e R s m args below meth c H1 locs1 (cells) (slots) Q (F0 m (pc + 1) ls (rest))) : W p l e R s m args below meth c H locs (cells) (slots) Q (F0 m (pc) ls (.ref (gh G + q) :: .int (i32 i) :: .ref (gh G + k) :: rest)) := by
  subst hj
  refine va_astq X.1 X.2.1 X.K hP.2 (wsc_D G n f) hS k 7 q 6 (r := (RX6, TX6, 3)) (wsc_at hk he) rfl (wsc_at hq heq) rfl (i32_in.mpr hi) hd (fun H1 locs1 hP1 hD1 hS1 => W.sz (fun hz => kk H1 locs1 (PWc.mk (by omega) (by omega) ?_) hS1))
  rw [wsc_set, i32_nat] at hP1
  exact hP1
theorem q_obj (X : CX p R s m args meth c cc nL own ret fF fL G) (hls : ls.size = nL) {idx a : Nat} (h1 : Cond.methodLink own idx objectInit ∈ TB) (h2 : Cond.instanceMethod objectInit ∈ TB) (h3 : Cond.code objectInit ⟨#[0xb1]⟩ 1 none ∈ TB) (hR : 1 ≤ fF ∧ 20 ≤ fL) (hW : (rest.map fun v => v.category).sum ≤ 8) (hd : decode cc pc = .ok (.invokespecial idx, 3)) (kk : W p l e R s m args below meth c H locs (cells) (slots) Q (F0 m (pc + 3) ls (rest))) : W p l e R s m args below meth c H locs (cells) (slots) Q (F0 m (pc) ls (.ref a :: rest)) := W.objInit X.1 X.2.1 X.ow (X.ts _ h1) (X.ts _ h2) (X.ts _ h3) rfl (hls.trans X.2.2.1.symm) rfl hd (Nat.le_trans hR.1 X.2.2.2.2.2.2.2.1.1) (Nat.le_trans (Nat.le_trans (by show 2 * 0 + _ + 12 ≤ 20; omega) hR.2) X.2.2.2.2.2.2.2.1.2) kk
theorem q_call {n' : Nat} {f' : Nat → va_E} {a : Array Value} {st0 : List Value} {mc ms : Nat} (hr : va_Run p l e R s m args below meth c H locs cells slots mc ms (F0 m pc ls st0) rest (QC G n' f' a) (AA G)) (hS : va_S (AA G) s.heap H locs) (kk : ∀ (H1 : Heap) (locs1 : List Loc), PWc G n' f' H1 → va_S (AA G) s.heap H1 locs1 → W p l e R s m args below meth c H1 locs1 (cells + mc) (slots + ms) Q (F0 m (pc + 3) ls (rest))) : W p l e R s m args below meth c H locs (cells) (slots) Q (F0 m (pc) ls (st0)) := by
  intro T hT X
  obtain ⟨v', st₀, t, T', L, h0, X', hL, e1, e2, ⟨hv, hP1, hz, hk⟩, hst⟩ := hr T hT X
  cases hv
  rw [h0] at hz hk
  obtain ⟨t2, a1, b1⟩ := kk T'.heap (locs ++ L) (by rw [e1]; exact hP1) ⟨Nat.le_trans hS.1 (by rw [e1]; exact hz), fun q h1 h2 => by rw [e1, hk q (Nat.lt_of_lt_of_le h1 hS.1) h2]; exact hS.2.1 q h1 h2, fun q hq => by
      rcases List.mem_append.mp hq with h | h
      · exact hS.2.2 q h
      · exact hL q h⟩ T' rfl X'
  exact ⟨t2, hst t2 a1, b1⟩
theorem qc_blind {As : List Value} : FrameBlind (va_Pc As (fun U => (ST G U ∧ AOs U) ∧ PWc G n f U.heap)) := fun _ U g mk h => ⟨h.1, ⟨h.2.1.1.go (fun _ _ _ => rfl) (State.WarmedH.refl U), h.2.1.2.go (State.WarmedH.refl U)⟩, h.2.2⟩
theorem qc_at {As : List Value} (hG : ST G s) (hO : AOs s) (hP : PWc G n f H) (hS : va_S (AA G) s.heap H locs) : ∀ U : State, U.heap = H → s.WarmedH U.vm → va_Pc As (fun U => (ST G U ∧ AOs U) ∧ PWc G n f U.heap) As.toArray U := fun U hU hW => ⟨rfl, ⟨hG.go (fun a h1 h2 => by rw [hU]; exact hS.2.1 a h1 h2) hW, hO.go hW⟩, by rw [hU]; exact hP⟩
theorem q_callI (X : CX p R s m args meth c cc nL own ret fF fL G) (hP : PWc G n f H) (hS : va_S (AA G) s.heap H locs) (hO : AOs s) (hls : ls.size = nL) {y : MethodName} {cc' : ByteArray} {nL' f1 l1 idx mc ms n' b : Nat} {f' : Nat → va_E} (hM : CTc l y cc' nL' f1 l1 mc ms G [.ref b] n f n' f') (h1 : Cond.methodLink own idx y ∈ TB) (h2 : Cond.instanceMethod y ∈ TB) (h4 : Cond.initialized y.cls ∈ TB) (h5 : Cond.code y cc' nL' none ∈ TB) (hy1 : y.name = "<init>") (hy : y.cls ≠ "java/lang/invoke/MethodHandle" ∧ y.cls ≠ "java/lang/invoke/VarHandle" ∧ (parseMethodDescriptor y.desc).map (fun d => d.parameters.length) = some 0) (hR : f1 + 1 ≤ fF ∧ 8 + (nL' + 11) + l1 ≤ fL) (hc : cells + mc ≤ R.cells ∧ slots + ms ≤ R.slots) (hW : (rest.map fun v => v.category).sum ≤ 8) (hd : decode cc pc = .ok (.invokespecial idx, 3)) (kk : ∀ (H1 : Heap) (locs1 : List Loc), PWc G n' f' H1 → va_S (AA G) s.heap H1 locs1 → W p l e R s m args below meth c H1 locs1 (cells + mc) (slots + ms) Q (F0 m (pc + 3) ls (rest))) : W p l e R s m args below meth c H locs (cells) (slots) Q (F0 m (pc) ls (.ref b :: rest)) :=
  q_call (va_runI (As := []) (rest := rest) (Ts := TB) ⟨X.1, X.2.1, X.2.2.1, X.ow, X.ts⟩ hM (cwI 0 X.ts (TB_self h5) rfl rfl rfl (X.ts _ h4) (X.ts _ h1) (X.ts _ h2) hy1 hy ⟨Nat.le_trans hR.1 X.2.2.2.2.2.2.2.1.1, Nat.le_trans hR.2 X.2.2.2.2.2.2.2.1.2⟩) ⟨qc_blind, qc_at X.S hO hP hS⟩ rfl rfl hls rfl (lv_room hW) hd hc) hS kk
theorem q_callIN (X : CX p R s m args meth c cc nL own ret fF fL G) (hP : PWc G n f H) (hS : va_S (AA G) s.heap H locs) (hO : AOs s) (hls : ls.size = nL) {y : MethodName} {cc' : ByteArray} {nL' f1 l1 idx mc ms n' b : Nat} {host : String} {f' : Nat → va_E} (hM : CTc l y cc' nL' f1 l1 mc ms G [.ref b] n f n' f') (h1 : Cond.methodLinkNest own idx y host ∈ NWl) (h2 : Cond.instanceMethod y ∈ TB) (h4 : Cond.initialized y.cls ∈ TB) (h5 : Cond.code y cc' nL' none ∈ TB) (hy1 : y.name = "<init>") (hy : y.cls ≠ "java/lang/invoke/MethodHandle" ∧ y.cls ≠ "java/lang/invoke/VarHandle" ∧ (parseMethodDescriptor y.desc).map (fun d => d.parameters.length) = some 0) (hR : f1 + 1 ≤ fF ∧ 8 + (nL' + 11) + l1 ≤ fL) (hc : cells + mc ≤ R.cells ∧ slots + ms ≤ R.slots) (hW : (rest.map fun v => v.category).sum ≤ 8) (hd : decode cc pc = .ok (.invokespecial idx, 3)) (kk : ∀ (H1 : Heap) (locs1 : List Loc), PWc G n' f' H1 → va_S (AA G) s.heap H1 locs1 → W p l e R s m args below meth c H1 locs1 (cells + mc) (slots + ms) Q (F0 m (pc + 3) ls (rest))) : W p l e R s m args below meth c H locs (cells) (slots) Q (F0 m (pc) ls (.ref b :: rest)) :=
  q_call (va_runIN (As := []) (rest := rest) (Ts := TB) (host := host) ⟨X.1, X.2.1, X.2.2.1, X.ow, X.ts⟩ hM ⟨va_cnB 0 X.ts (TB_self h5) rfl rfl rfl (X.S.2.1 _ h1) (X.ts _ h4) hy ⟨Nat.le_trans hR.1 X.2.2.2.2.2.2.2.1.1, Nat.le_trans hR.2 X.2.2.2.2.2.2.2.1.2⟩, hy1, X.ts _ h2⟩ ⟨qc_blind, qc_at X.S hO hP hS⟩ rfl rfl hls rfl (lv_room hW) hd hc) hS kk
theorem q_vret (X : CX p R s m args meth c cc nL own none fF fL G) (hP : PWc G n f H) (hS : va_S (AA G) s.heap H locs) (hd : decode cc pc = .ok (.return_, 1)) : W p l e R s m args below meth c H locs (cells) (slots) (MQ below (QC G n f) args s cells slots (AA G)) (F0 m (pc) ls ([])) := W.vret X.1 X.2.1 X.2.2.2.2.2.2.1 (fun t ht _ => ⟨rfl, by rw [ht]; exact hP, hS.F ht⟩) (fun q hq => hS.2.2 q hq) hd X.2.2.2.2.2.1
theorem CTc.mk {y : MethodName} {As : List Value} {mc ms n' : Nat} {f' : Nat → va_E} (hy : plainName y.cls = true) (hown : y.cls = own) (hsz : (lg_sl As).length ≤ nL) (body : ∀ (p : Program) (e : Env) (s : State) (m : MethodId) (below : List Frame) (meth : Method) (c : Code) (ls : Array Slot), CX p ({ frames := fF, cells := mc, slots := ms, locals := fL }) s m As.toArray meth c cc nL own none fF fL G → meth.name = y.name → AOs s → PWc G n f s.heap → va_S (AA G) s.heap s.heap [] → lv_has ls nL (lv_args 0 As) → W p l e ({ frames := fF, cells := mc, slots := ms, locals := fL }) s m As.toArray below meth c s.heap [] 0 0 (MQ below (QC G n' f') As.toArray s mc ms (AA G)) (F0 m 0 ls [])) : CTc l y cc nL fF fL mc ms G As n f n' f' := by
  refine Met.ofW (cc := cc) (maxL := nL) (ret := none) hy rfl ?_
  intro p e s m args below meth c s₁ B hml hv
  obtain ⟨rfl, ⟨hG, hO⟩, hP⟩ := hv
  have hts := atoms_spec (ws := Cond.code y cc nL none :: TB) B.pre
  rw [lg_entry_eq]
  refine body p e s m below meth c _ ⟨B.exec, B.bytes, hml, ?_, fun w hw => hts w (List.mem_cons_of_mem _ hw), B.notSynchronized, B.returns, ⟨Nat.le_refl _, Nat.le_refl _⟩, hG⟩ (name_of_methodNamed B.named B.method).1 hO hP va_S.rf (lv_entry As hsz)
  rw [← hown]
  exact findClass_of_methodNamed B.named
end Cons
