/-! THE STORE: what lies at an address: an array (0 ints, 1 longs, 2 booleans, 3 pages) or an object (the number of its kind in qcl, its fields); and the heap's size -/
abbrev qEn : Type := (Nat × vp_A) ⊕ (Nat × List Value)
abbrev qX : Type := (Nat → Option qEn) × Nat
abbrev qC : Type := va_G × (Nat → ClassId)
def qty : List FieldType := [.int, .long, .boolean, .object "PastTree$Page"]
def qw (C : qC) (e : qEn) : va_E := match e with
  | .inl a => .inl (C.2 a.1, a.2)
  | .inr o => .inr o
/-- a method: its name, code, locals, answer, handlers -/
abbrev qM : Type := MethodName × ByteArray × Nat × Option FieldType × List (Nat × Nat × Nat × Nat)
/-- the word that says a method's code -/
def qword (μ : qM) : Cond := match μ.2.2.2.2 with
  | [] => .code μ.1 μ.2.1 μ.2.2.1 μ.2.2.2.1
  | hh => .codeWith μ.1 μ.2.1 μ.2.2.1 μ.2.2.2.1 hh
/-- what is known of the state in which the law begins -/
def qB (l : Launch) (s0 : State) (C : qC) : Prop :=
  l.stackTraces = false ∧ (∃ A0 : Array Value, (∀ w ∈ lw_tbl, w.before A0 s0 = true) ∧ (Jvm.Cond.and given_1 narrow_1).before A0 s0 = true) ∧
  (∀ (c : Nat) (q : vw_C), qcl[c]? = some q → u_Kn s0 q.1 q.2.1 q.2.2 (C.1.1 c) (C.1.2 c)) ∧
  (∀ (t : Nat) (ty : FieldType), qty[t]? = some ty → ArrOfT s0 (C.2 t) ty ∧ va_RA s0 (C.2 t) ty)
/-- the heap holds the store, and what was there in the beginning -/
def qR (C : qC) (s0 : State) (X : qX) (H : Heap) : Prop :=
  H.size = X.2 ∧ s0.heap.size ≤ H.size ∧ (∀ q : Nat, q < s0.heap.size → H[q]? = s0.heap[q]?) ∧
  ∀ (a : Nat) (e : qEn), X.1 a = some e → s0.heap.size ≤ a ∧ va_at C.1 qcl (a, qw C e) H
def qG (s0 : State) (μ : qM) (p : Program) (s : State) (m : MethodId) (meth : Method) (c : Code) : Prop :=
  p.tables.exec = Jvm.exec ∧ c.code = μ.2.1 ∧ c.maxLocals = μ.2.2.1 ∧ meth.sig.returnType = μ.2.2.2.1 ∧ meth.locks = false ∧ s.vm.findClass μ.1.cls = some m.cls ∧
  c.exceptionTable.toList.map (fun h => (h.startPc, h.endPc, h.handlerPc, h.catchType)) = μ.2.2.2.2 ∧ meth.name = μ.1.name ∧ s0.WarmedH s.vm ∧ s0.heap.size ≤ s.heap.size ∧ (∀ q : Nat, q < s0.heap.size → s.heap[q]? = s0.heap[q]?)
def qQ (C : qC) (s0 : State) (Qp : Option Value → qX → Prop) : Array Value → State → Outcome → State → Prop := fun _ _ o t => ∃ (v : Option Value) (X : qX), o = .returned v ∧ qR C s0 X t.heap ∧ Qp v X
def qE (C : qC) (s0 : State) (Ep : String → qX → Prop) : String → State → State → Prop := fun E _ t => ∃ X : qX, qR C s0 X t.heap ∧ Ep E X
def qF (s0 : State) : Addr → Prop := fun q => s0.heap.size ≤ q
def qPc (C : qC) (s0 : State) (As : List Value) (X : qX) : Array Value → State → Prop := fun a U => a = As.toArray ∧ s0.WarmedH U.vm ∧ qR C s0 X U.heap
/-- A METHOD'S CONTRACT: called with As in the store X it returns v with Qp v X', or throws an E with Ep E X' -/
def qMet (l : Launch) (s0 : State) (C : qC) (μ : qM) (rm : Room) (As : List Value) (X : qX) (Qp : Option Value → qX → Prop) (Ep : String → qX → Prop) : Prop :=
  vx_Met l μ.1 [qword μ] rm (qPc C s0 As X) (qQ C s0 Qp) (qE C s0 Ep) rm.cells rm.slots (qF s0)
/-- INSIDE A METHOD: at pc, with the locals L, the stack st, the store X, k cells of n slots made so far -/
def qV (l : Launch) (s0 : State) (C : qC) (μ : qM) (rm : Room) (Qp : Option Value → qX → Prop) (Ep : String → qX → Prop) (k n : Nat) (X : qX) (pc : Nat) (L : List (Nat × Value)) (st : List Value) : Prop :=
  ∀ (p : Program) (e : Env) (s : State) (m : MethodId) (args : Array Value) (below : List Frame) (meth : Method) (c : Code), qG s0 μ p s m meth c →
  ∀ (H : Heap) (locs : List Loc) (ls : Array Slot), qR C s0 X H → (∀ q ∈ locs, s0.heap.size ≤ q.base) → lv_has ls μ.2.2.1 L →
  W p l e rm s m args below meth c H locs k n (vx_MQ below (qQ C s0 Qp) (qE C s0 Ep) args s rm.cells rm.slots (qF s0)) (F0 m pc ls st)
def qget (L : List (Nat × Value)) (i : Nat) : Option Value := (L.find? (fun q => q.1 == i)).map (fun q => q.2)
theorem qget_at {ls : Array Slot} {nL : Nat} {L : List (Nat × Value)} (h : lv_has ls nL L) {i : Nat} {v : Value} (hg : qget L i = some v) : ls[i]? = some (.val v) := by
  unfold qget at hg
  cases hf : L.find? (fun q => q.1 == i) with
  | none => rw [hf] at hg; cases hg
  | some q =>
    rw [hf] at hg
    have h1 := List.mem_of_find?_eq_some hf
    have h2 := List.find?_some hf
    have h3 : q.1 = i := by simpa using h2
    have h4 := h.2.2 q h1
    rw [h3] at h4
    cases hg
    exact h4
def qput (L : List (Nat × Value)) (i : Nat) (v : Value) : List (Nat × Value) := (i, v) :: L.filter (fun q => !(q.1 == i) && !(q.1 + 1 == i && q.2.category == 2))
def qput2 (L : List (Nat × Value)) (i : Nat) (v : Value) : List (Nat × Value) := (i, v) :: L.filter (fun q => !(q.1 == i) && (!(q.1 == i + 1) && !(q.1 + 1 == i && q.2.category == 2)))
/-- a good word of the tables holds in every later state -/
theorem qword_at {l : Launch} {s0 : State} {C : qC} (B : qB l s0 C) {w : Cond} (hw : w ∈ lw_tbl) (hg : goodWord w = true) {a : Array Value} {U : State} (hW : s0.WarmedH U.vm) : w.before a U = true := by
  obtain ⟨-, ⟨A0, h1, -⟩, -⟩ := B
  exact word_at hW (good_of_word hg) (h1 w hw)
theorem qword_spec {μ : qM} {args : Array Value} {s : State} {m : MethodId} (hn : s.methodNamed? μ.1 = some m) (h : (qword μ).before args s = true) :
    ∃ meth c, s.vm.method? m = some meth ∧ meth.code = some c ∧ c.code = μ.2.1 ∧ c.maxLocals = μ.2.2.1 ∧ meth.sig.returnType = μ.2.2.2.1 ∧ meth.locks = false ∧
      c.exceptionTable.toList.map (fun h => (h.startPc, h.endPc, h.handlerPc, h.catchType)) = μ.2.2.2.2 ∧ parseMethodDescriptor μ.1.desc = some meth.sig := by
  obtain ⟨y, cc, mL, rt, hh⟩ := μ
  cases hh with
  | nil =>
    obtain ⟨meth, c, h1, h2, h3, h4, h5, h6, h7, h8⟩ := Cond.code_spec hn (show (Cond.code y cc mL rt).before args s = true from h)
    refine ⟨meth, c, h1, h2, h3, h4, h5, h6, ?_, h8⟩
    have : c.exceptionTable = #[] := by simpa using h7
    rw [this]; rfl
  | cons a b =>
    obtain ⟨m9, meth, c, h0, h1, h2, h3, h4, h7, h5, h6, h8⟩ := Cond.codeWith_spec (show (Cond.codeWith y cc mL rt (a :: b)).before args s = true from h)
    cases hn.symm.trans h0
    exact ⟨meth, c, h1, h2, h3, h4, h5, h6, h7, h8⟩
set_option maxHeartbeats 1000000 in
/-- a contract out of the walk of the method's body -/
theorem q_of {l : Launch} {s0 : State} {C : qC} {μ : qM} {rm : Room} {As : List Value} {X : qX} {Qp : Option Value → qX → Prop} {Ep : String → qX → Prop} (hy : plainName μ.1.cls = true) (hn : (lg_sl As).length ≤ μ.2.2.1)
    (hV : qV l s0 C μ rm Qp Ep 0 0 X 0 (lv_args 0 As) []) : qMet l s0 C μ rm As X Qp Ep := by
  refine MetFree.of_bodyS (code := μ.2.1) (maxLocals := μ.2.2.1) (ret := μ.2.2.2.1) hy ?_ ?_
  · intro args s m h hnm
    obtain ⟨meth, c, h1, h2, h3, h4, h5, h6, -, -⟩ := qword_spec hnm (atoms_spec (ws := [qword μ]) h _ List.mem_cons_self)
    exact ⟨meth, c, h1, h2, h3, h4, h5, h6⟩
  · intro p e s m args below meth c s₁ B hml hP _
    obtain ⟨rfl, hW, hR⟩ := hP
    have hh0 : s₁.heap = s.heap := by rw [B.state]; rfl
    have hT : c.exceptionTable.toList.map (fun h => (h.startPc, h.endPc, h.handlerPc, h.catchType)) = μ.2.2.2.2 := by
      obtain ⟨meth9, c9, h1, h2, -, -, -, -, h7, -⟩ := qword_spec B.named (atoms_spec (ws := [qword μ]) B.pre _ List.mem_cons_self)
      cases Option.some.inj (h1.symm.trans B.method)
      cases Option.some.inj (h2.symm.trans (Stand.of_body B).code)
      exact h7
    have hl := lv_entry As (n := μ.2.2.1) hn
    have K := hV p e s m As.toArray below meth c ⟨B.exec, B.bytes, hml, B.returns, B.notSynchronized, findClass_of_methodNamed B.named, hT, (name_of_methodNamed B.named B.method).1, hW, hR.1 ▸ (hR.1 ▸ hR.2.1), hR.2.2.1⟩ s.heap [] _ hR (fun q h => nomatch h) hl
    rw [← lg_entry_eq] at K
    obtain ⟨t, a1, o, b1, b2, b3⟩ := K s₁ hh0 (Stand.of_body B)
    exact ⟨t, o, a1, b1, b2, b3⟩
section QV
variable {l : Launch} {s0 : State} {C : qC} {μ : qM} {rm : Room} {Qp : Option Value → qX → Prop} {Ep : String → qX → Prop} {k n : Nat} {X : qX} {pc : Nat} {L : List (Nat × Value)} {st : List Value}
theorem v_L {L' : List (Nat × Value)} (h : L = L') (K : qV l s0 C μ rm Qp Ep k n X pc L' st) : qV l s0 C μ rm Qp Ep k n X pc L st := h ▸ K
theorem v_X {X' : qX} (h : X = X') (K : qV l s0 C μ rm Qp Ep k n X' pc L st) : qV l s0 C μ rm Qp Ep k n X pc L st := h ▸ K
/-- fewer or other locals, each found by its number -/
theorem v_sub {L' : List (Nat × Value)} (h : ∀ q ∈ L', qget L q.1 = some q.2) (K : qV l s0 C μ rm Qp Ep k n X pc L' st) : qV l s0 C μ rm Qp Ep k n X pc L st :=
  fun p e s m args below meth c G H locs ls hR hL hl => K p e s m args below meth c G H locs ls hR hL ⟨hl.1, hl.2.1, fun q hq => qget_at hl (h q hq)⟩

theorem v_iconst {i : Int} {v : Int32} (hd : decode μ.2.1 pc = .ok (.iconst i, 1)) (hv : Int32.ofInt i = v) (K : qV l s0 C μ rm Qp Ep k n X (pc + 1) L (.int v :: st)) : qV l s0 C μ rm Qp Ep k n X pc L (st) :=
  fun p e s m args below meth c G H locs ls hR hL hl => lv_iconst G.1 G.2.1 hd hv (K p e s m args below meth c G H locs ls hR hL hl)

theorem v_bipush {i : Int} {v : Int32} (hd : decode μ.2.1 pc = .ok (.bipush i, 2)) (hv : (Int8.ofInt i).toInt32 = v) (K : qV l s0 C μ rm Qp Ep k n X (pc + 2) L (.int v :: st)) : qV l s0 C μ rm Qp Ep k n X pc L (st) :=
  fun p e s m args below meth c G H locs ls hR hL hl => lv_bipush G.1 G.2.1 hd hv (K p e s m args below meth c G H locs ls hR hL hl)

theorem v_sipush {i : Int} {v : Int32} (hd : decode μ.2.1 pc = .ok (.sipush i, 3)) (hv : (Int16.ofInt i).toInt32 = v) (K : qV l s0 C μ rm Qp Ep k n X (pc + 3) L (.int v :: st)) : qV l s0 C μ rm Qp Ep k n X pc L (st) :=
  fun p e s m args below meth c G H locs ls hR hL hl => lv_sipush G.1 G.2.1 hd hv (K p e s m args below meth c G H locs ls hR hL hl)

theorem v_lconst {i : Fin 2} {v : Int64} (hd : decode μ.2.1 pc = .ok (.lconst i, 1)) (hv : Int64.ofNat (i : Nat) = v) (K : qV l s0 C μ rm Qp Ep k n X (pc + 1) L (.long v :: st)) : qV l s0 C μ rm Qp Ep k n X pc L (st) :=
  fun p e s m args below meth c G H locs ls hR hL hl => lv_lconst G.1 G.2.1 hd hv (K p e s m args below meth c G H locs ls hR hL hl)

theorem v_iload_n {j : Fin 4} {x : Int32} (hd : decode μ.2.1 pc = .ok (.iload_n j, 1)) (h : qget L (j : Nat) = some (.int x)) (K : qV l s0 C μ rm Qp Ep k n X (pc + 1) L (.int x :: st)) : qV l s0 C μ rm Qp Ep k n X pc L (st) :=
  fun p e s m args below meth c G H locs ls hR hL hl => lv_iload_n G.1 G.2.1 hd rfl (qget_at hl h) (K p e s m args below meth c G H locs ls hR hL hl)

theorem v_iload {j : Nat} {x : Int32} (hd : decode μ.2.1 pc = .ok (.iload j, 2)) (h : qget L j = some (.int x)) (K : qV l s0 C μ rm Qp Ep k n X (pc + 2) L (.int x :: st)) : qV l s0 C μ rm Qp Ep k n X pc L (st) :=
  fun p e s m args below meth c G H locs ls hR hL hl => lv_iload G.1 G.2.1 hd (qget_at hl h) (K p e s m args below meth c G H locs ls hR hL hl)

theorem v_istore_n {j : Fin 4} {x : Int32} (hd : decode μ.2.1 pc = .ok (.istore_n j, 1)) (hn : (j : Nat) < μ.2.2.1) {L' : List (Nat × Value)} (hL' : qput L (j : Nat) (.int x) = L') (K : qV l s0 C μ rm Qp Ep k n X (pc + 1) L' st) : qV l s0 C μ rm Qp Ep k n X pc L (.int x :: st) :=
  fun p e s m args below meth c G H locs ls hR hL hl => lv_istore_n (lv' := L') G.1 G.2.1 hd rfl hl hn hL' (fun ls' hl' => K p e s m args below meth c G H locs ls' hR hL hl')

theorem v_istore {j : Nat} {x : Int32} (hd : decode μ.2.1 pc = .ok (.istore j, 2)) (hn : j < μ.2.2.1) {L' : List (Nat × Value)} (hL' : qput L j (.int x) = L') (K : qV l s0 C μ rm Qp Ep k n X (pc + 2) L' st) : qV l s0 C μ rm Qp Ep k n X pc L (.int x :: st) :=
  fun p e s m args below meth c G H locs ls hR hL hl => lv_istore (lv' := L') G.1 G.2.1 hd hl hn hL' (fun ls' hl' => K p e s m args below meth c G H locs ls' hR hL hl')

theorem v_lload_n {j : Fin 4} {x : Int64} (hd : decode μ.2.1 pc = .ok (.lload_n j, 1)) (h : qget L (j : Nat) = some (.long x)) (K : qV l s0 C μ rm Qp Ep k n X (pc + 1) L (.long x :: st)) : qV l s0 C μ rm Qp Ep k n X pc L (st) :=
  fun p e s m args below meth c G H locs ls hR hL hl => lv_lload_n G.1 G.2.1 hd rfl (qget_at hl h) (K p e s m args below meth c G H locs ls hR hL hl)

theorem v_lload {j : Nat} {x : Int64} (hd : decode μ.2.1 pc = .ok (.lload j, 2)) (h : qget L j = some (.long x)) (K : qV l s0 C μ rm Qp Ep k n X (pc + 2) L (.long x :: st)) : qV l s0 C μ rm Qp Ep k n X pc L (st) :=
  fun p e s m args below meth c G H locs ls hR hL hl => lv_lload G.1 G.2.1 hd (qget_at hl h) (K p e s m args below meth c G H locs ls hR hL hl)

theorem v_lstore_n {j : Fin 4} {x : Int64} (hd : decode μ.2.1 pc = .ok (.lstore_n j, 1)) (hn : (j : Nat) + 1 < μ.2.2.1) {L' : List (Nat × Value)} (hL' : qput2 L (j : Nat) (.long x) = L') (K : qV l s0 C μ rm Qp Ep k n X (pc + 1) L' st) : qV l s0 C μ rm Qp Ep k n X pc L (.long x :: st) :=
  fun p e s m args below meth c G H locs ls hR hL hl => lv_lstore_n (lv' := L') G.1 G.2.1 hd rfl hl hn hL' (fun ls' hl' => K p e s m args below meth c G H locs ls' hR hL hl')

theorem v_lstore {j : Nat} {x : Int64} (hd : decode μ.2.1 pc = .ok (.lstore j, 2)) (hn : j + 1 < μ.2.2.1) {L' : List (Nat × Value)} (hL' : qput2 L j (.long x) = L') (K : qV l s0 C μ rm Qp Ep k n X (pc + 2) L' st) : qV l s0 C μ rm Qp Ep k n X pc L (.long x :: st) :=
  fun p e s m args below meth c G H locs ls hR hL hl => lv_lstore (lv' := L') G.1 G.2.1 hd hl hn hL' (fun ls' hl' => K p e s m args below meth c G H locs ls' hR hL hl')

theorem v_aload_n {j : Fin 4} {x : Nat} (hd : decode μ.2.1 pc = .ok (.aload_n j, 1)) (h : qget L (j : Nat) = some (.ref x)) (K : qV l s0 C μ rm Qp Ep k n X (pc + 1) L (.ref x :: st)) : qV l s0 C μ rm Qp Ep k n X pc L (st) :=
  fun p e s m args below meth c G H locs ls hR hL hl => lv_aload_n G.1 G.2.1 hd rfl (qget_at hl h) (K p e s m args below meth c G H locs ls hR hL hl)

theorem v_aload {j : Nat} {x : Nat} (hd : decode μ.2.1 pc = .ok (.aload j, 2)) (h : qget L j = some (.ref x)) (K : qV l s0 C μ rm Qp Ep k n X (pc + 2) L (.ref x :: st)) : qV l s0 C μ rm Qp Ep k n X pc L (st) :=
  fun p e s m args below meth c G H locs ls hR hL hl => lv_aload G.1 G.2.1 hd (qget_at hl h) (K p e s m args below meth c G H locs ls hR hL hl)

theorem v_astore_n {j : Fin 4} {x : Nat} (hd : decode μ.2.1 pc = .ok (.astore_n j, 1)) (hn : (j : Nat) < μ.2.2.1) {L' : List (Nat × Value)} (hL' : qput L (j : Nat) (.ref x) = L') (K : qV l s0 C μ rm Qp Ep k n X (pc + 1) L' st) : qV l s0 C μ rm Qp Ep k n X pc L (.ref x :: st) :=
  fun p e s m args below meth c G H locs ls hR hL hl => lv_astore_n (lv' := L') G.1 G.2.1 hd rfl hl hn hL' (fun ls' hl' => K p e s m args below meth c G H locs ls' hR hL hl')

theorem v_astore {j : Nat} {x : Nat} (hd : decode μ.2.1 pc = .ok (.astore j, 2)) (hn : j < μ.2.2.1) {L' : List (Nat × Value)} (hL' : qput L j (.ref x) = L') (K : qV l s0 C μ rm Qp Ep k n X (pc + 2) L' st) : qV l s0 C μ rm Qp Ep k n X pc L (.ref x :: st) :=
  fun p e s m args below meth c G H locs ls hR hL hl => lv_astore (lv' := L') G.1 G.2.1 hd hl hn hL' (fun ls' hl' => K p e s m args below meth c G H locs ls' hR hL hl')

theorem v_iinc {j : Nat} {i : Int} {x v : Int32} (hd : decode μ.2.1 pc = .ok (.iinc j i, 3)) (h : qget L j = some (.int x)) (hv : x + Int32.ofInt i = v) (hn : j < μ.2.2.1) {L' : List (Nat × Value)} (hL' : qput L j (.int v) = L') (K : qV l s0 C μ rm Qp Ep k n X (pc + 3) L' st) : qV l s0 C μ rm Qp Ep k n X pc L st := by
  have hm : ∃ q : Nat, L[q]? = some (j, .int x) := by
    unfold qget at h
    cases hf : L.find? (fun q => q.1 == j) with
    | none => rw [hf] at h; cases h
    | some q =>
      rw [hf] at h
      have h1 := List.mem_of_find?_eq_some hf
      have h2 := List.find?_some hf
      have h3 : q.1 = j := by simpa using h2
      have h4 : q.2 = .int x := Option.some.inj h
      obtain ⟨i9, hi9⟩ := List.getElem?_of_mem h1
      exact ⟨i9, by rw [hi9]; exact congrArg some (Prod.ext h3 h4)⟩
  obtain ⟨q, hq⟩ := hm
  exact fun p e s m args below meth c G H locs ls hR hL hl => lv_iinc (lv' := L') G.1 G.2.1 hd hl hq hv hn hL' (fun ls' hl' => K p e s m args below meth c G H locs ls' hR hL hl')

theorem v_iadd {x y : Int32} (hd : decode μ.2.1 pc = .ok (.iadd, 1)) (K : qV l s0 C μ rm Qp Ep k n X (pc + 1) L (.int (x + y) :: st)) : qV l s0 C μ rm Qp Ep k n X pc L (.int y :: .int x :: st) :=
  fun p e s m args below meth c G H locs ls hR hL hl => lv_iadd G.1 G.2.1 hd (K p e s m args below meth c G H locs ls hR hL hl)

theorem v_isub {x y : Int32} (hd : decode μ.2.1 pc = .ok (.isub, 1)) (K : qV l s0 C μ rm Qp Ep k n X (pc + 1) L (.int (x - y) :: st)) : qV l s0 C μ rm Qp Ep k n X pc L (.int y :: .int x :: st) :=
  fun p e s m args below meth c G H locs ls hR hL hl => lv_isub G.1 G.2.1 hd (K p e s m args below meth c G H locs ls hR hL hl)

theorem v_imul {x y : Int32} (hd : decode μ.2.1 pc = .ok (.imul, 1)) (K : qV l s0 C μ rm Qp Ep k n X (pc + 1) L (.int (x * y) :: st)) : qV l s0 C μ rm Qp Ep k n X pc L (.int y :: .int x :: st) :=
  fun p e s m args below meth c G H locs ls hR hL hl => lv_imul G.1 G.2.1 hd (K p e s m args below meth c G H locs ls hR hL hl)

theorem v_iand {x y : Int32} (hd : decode μ.2.1 pc = .ok (.iand, 1)) (K : qV l s0 C μ rm Qp Ep k n X (pc + 1) L (.int (x &&& y) :: st)) : qV l s0 C μ rm Qp Ep k n X pc L (.int y :: .int x :: st) :=
  fun p e s m args below meth c G H locs ls hR hL hl => lv_iand G.1 G.2.1 hd (K p e s m args below meth c G H locs ls hR hL hl)

theorem v_idiv {x y : Int32} (hd : decode μ.2.1 pc = .ok (.idiv, 1)) (hne : ¬ y = 0) (K : qV l s0 C μ rm Qp Ep k n X (pc + 1) L (.int (x / y) :: st)) : qV l s0 C μ rm Qp Ep k n X pc L (.int y :: .int x :: st) :=
  fun p e s m args below meth c G H locs ls hR hL hl => lv_idiv G.1 G.2.1 hd hne (K p e s m args below meth c G H locs ls hR hL hl)

theorem v_ladd {x y : Int64} (hd : decode μ.2.1 pc = .ok (.ladd, 1)) (K : qV l s0 C μ rm Qp Ep k n X (pc + 1) L (.long (x + y) :: st)) : qV l s0 C μ rm Qp Ep k n X pc L (.long y :: .long x :: st) :=
  fun p e s m args below meth c G H locs ls hR hL hl => lv_ladd G.1 G.2.1 hd (K p e s m args below meth c G H locs ls hR hL hl)

theorem v_lsub {x y : Int64} (hd : decode μ.2.1 pc = .ok (.lsub, 1)) (K : qV l s0 C μ rm Qp Ep k n X (pc + 1) L (.long (x - y) :: st)) : qV l s0 C μ rm Qp Ep k n X pc L (.long y :: .long x :: st) :=
  fun p e s m args below meth c G H locs ls hR hL hl => lv_lsub G.1 G.2.1 hd (K p e s m args below meth c G H locs ls hR hL hl)

theorem v_lor {x y : Int64} (hd : decode μ.2.1 pc = .ok (.lor, 1)) (K : qV l s0 C μ rm Qp Ep k n X (pc + 1) L (.long (x ||| y) :: st)) : qV l s0 C μ rm Qp Ep k n X pc L (.long y :: .long x :: st) :=
  fun p e s m args below meth c G H locs ls hR hL hl => lv_lor G.1 G.2.1 hd (K p e s m args below meth c G H locs ls hR hL hl)

theorem v_land {x y : Int64} (hd : decode μ.2.1 pc = .ok (.land, 1)) (K : qV l s0 C μ rm Qp Ep k n X (pc + 1) L (.long (x &&& y) :: st)) : qV l s0 C μ rm Qp Ep k n X pc L (.long y :: .long x :: st) :=
  fun p e s m args below meth c G H locs ls hR hL hl => lv_land G.1 G.2.1 hd (K p e s m args below meth c G H locs ls hR hL hl)

theorem v_lshl {x : Int64} {y : Int32} (hd : decode μ.2.1 pc = .ok (.lshl, 1)) (K : qV l s0 C μ rm Qp Ep k n X (pc + 1) L (.long (x <<< (y.toInt64 &&& 63)) :: st)) : qV l s0 C μ rm Qp Ep k n X pc L (.int y :: .long x :: st) :=
  fun p e s m args below meth c G H locs ls hR hL hl => lv_lshl G.1 G.2.1 hd rfl (K p e s m args below meth c G H locs ls hR hL hl)

theorem v_i2l {x : Int32} (hd : decode μ.2.1 pc = .ok (.i2l, 1)) (K : qV l s0 C μ rm Qp Ep k n X (pc + 1) L (.long x.toInt64 :: st)) : qV l s0 C μ rm Qp Ep k n X pc L (.int x :: st) :=
  fun p e s m args below meth c G H locs ls hR hL hl => lv_i2l G.1 G.2.1 hd rfl (K p e s m args below meth c G H locs ls hR hL hl)

theorem v_l2i {x : Int64} (hd : decode μ.2.1 pc = .ok (.l2i, 1)) (K : qV l s0 C μ rm Qp Ep k n X (pc + 1) L (.int x.toInt32 :: st)) : qV l s0 C μ rm Qp Ep k n X pc L (.long x :: st) :=
  fun p e s m args below meth c G H locs ls hR hL hl => lv_l2i G.1 G.2.1 hd rfl (K p e s m args below meth c G H locs ls hR hL hl)

theorem v_lcmp {x y : Int64} (hd : decode μ.2.1 pc = .ok (.lcmp, 1)) (K : qV l s0 C μ rm Qp Ep k n X (pc + 1) L (.int (lg_cmp x y) :: st)) : qV l s0 C μ rm Qp Ep k n X pc L (.long y :: .long x :: st) :=
  fun p e s m args below meth c G H locs ls hR hL hl => W.lcmp G.1 G.2.1 hd (K p e s m args below meth c G H locs ls hR hL hl)

theorem v_dup {v : Value} (hd : decode μ.2.1 pc = .ok (.dup, 1)) (hc : v.category = 1) (K : qV l s0 C μ rm Qp Ep k n X (pc + 1) L (v :: v :: st)) : qV l s0 C μ rm Qp Ep k n X pc L (v :: st) :=
  fun p e s m args below meth c G H locs ls hR hL hl => lv_dup G.1 G.2.1 hd hc (K p e s m args below meth c G H locs ls hR hL hl)

theorem v_dup2 {v w : Value} (hd : decode μ.2.1 pc = .ok (.dup2, 1)) (hc : v.category = 1) (hc2 : w.category = 1) (K : qV l s0 C μ rm Qp Ep k n X (pc + 1) L (v :: w :: v :: w :: st)) : qV l s0 C μ rm Qp Ep k n X pc L (v :: w :: st) :=
  fun p e s m args below meth c G H locs ls hR hL hl => lv_dup2_11 G.1 G.2.1 hd hc hc2 (K p e s m args below meth c G H locs ls hR hL hl)

theorem v_null (hd : decode μ.2.1 pc = .ok (.aconst_null, 1)) (K : qV l s0 C μ rm Qp Ep k n X (pc + 1) L (.null :: st)) : qV l s0 C μ rm Qp Ep k n X pc L (st) :=
  fun p e s m args below meth c G H locs ls hR hL hl => lv_null G.1 G.2.1 hd (K p e s m args below meth c G H locs ls hR hL hl)

theorem v_goto {off : Int} {tgt : Nat} (hd : decode μ.2.1 pc = .ok (.goto off, 3)) (ht : (pc : Int) + off = (tgt : Int)) (K : qV l s0 C μ rm Qp Ep k n X tgt L st) : qV l s0 C μ rm Qp Ep k n X pc L st :=
  fun p e s m args below meth c G H locs ls hR hL hl => lv_goto G.1 G.2.1 hd ht (K p e s m args below meth c G H locs ls hR hL hl)

theorem v_if_eq {x : Int32} {off : Int} {tgt : Nat} (hd : decode μ.2.1 pc = .ok (.ifCond .eq off, 3)) (ht : (pc : Int) + off = (tgt : Int)) (kt : x = 0 → qV l s0 C μ rm Qp Ep k n X tgt L st) (kf : ¬ x = 0 → qV l s0 C μ rm Qp Ep k n X (pc + 3) L st) : qV l s0 C μ rm Qp Ep k n X pc L (.int x :: st) :=
  fun p e s m args below meth c G H locs ls hR hL hl => lv_if_eq G.1 G.2.1 hd ht (fun h => kt h p e s m args below meth c G H locs ls hR hL hl) (fun h => kf h p e s m args below meth c G H locs ls hR hL hl)

theorem v_icmp_eq {x y : Int32} {off : Int} {tgt : Nat} (hd : decode μ.2.1 pc = .ok (.if_icmp .eq off, 3)) (ht : (pc : Int) + off = (tgt : Int)) (kt : x = y → qV l s0 C μ rm Qp Ep k n X tgt L st) (kf : ¬ x = y → qV l s0 C μ rm Qp Ep k n X (pc + 3) L st) : qV l s0 C μ rm Qp Ep k n X pc L (.int y :: .int x :: st) :=
  fun p e s m args below meth c G H locs ls hR hL hl => lv_icmp_eq G.1 G.2.1 hd ht (fun h => kt h p e s m args below meth c G H locs ls hR hL hl) (fun h => kf h p e s m args below meth c G H locs ls hR hL hl)

theorem v_if_ne {x : Int32} {off : Int} {tgt : Nat} (hd : decode μ.2.1 pc = .ok (.ifCond .ne off, 3)) (ht : (pc : Int) + off = (tgt : Int)) (kt : ¬ x = 0 → qV l s0 C μ rm Qp Ep k n X tgt L st) (kf : x = 0 → qV l s0 C μ rm Qp Ep k n X (pc + 3) L st) : qV l s0 C μ rm Qp Ep k n X pc L (.int x :: st) :=
  fun p e s m args below meth c G H locs ls hR hL hl => lv_if_ne G.1 G.2.1 hd ht (fun h => kt h p e s m args below meth c G H locs ls hR hL hl) (fun h => kf h p e s m args below meth c G H locs ls hR hL hl)

theorem v_icmp_ne {x y : Int32} {off : Int} {tgt : Nat} (hd : decode μ.2.1 pc = .ok (.if_icmp .ne off, 3)) (ht : (pc : Int) + off = (tgt : Int)) (kt : ¬ x = y → qV l s0 C μ rm Qp Ep k n X tgt L st) (kf : x = y → qV l s0 C μ rm Qp Ep k n X (pc + 3) L st) : qV l s0 C μ rm Qp Ep k n X pc L (.int y :: .int x :: st) :=
  fun p e s m args below meth c G H locs ls hR hL hl => lv_icmp_ne G.1 G.2.1 hd ht (fun h => kt h p e s m args below meth c G H locs ls hR hL hl) (fun h => kf h p e s m args below meth c G H locs ls hR hL hl)

theorem v_if_lt {x : Int32} {off : Int} {tgt : Nat} (hd : decode μ.2.1 pc = .ok (.ifCond .lt off, 3)) (ht : (pc : Int) + off = (tgt : Int)) (kt : x < 0 → qV l s0 C μ rm Qp Ep k n X tgt L st) (kf : ¬ x < 0 → qV l s0 C μ rm Qp Ep k n X (pc + 3) L st) : qV l s0 C μ rm Qp Ep k n X pc L (.int x :: st) :=
  fun p e s m args below meth c G H locs ls hR hL hl => lv_if_lt G.1 G.2.1 hd ht (fun h => kt h p e s m args below meth c G H locs ls hR hL hl) (fun h => kf h p e s m args below meth c G H locs ls hR hL hl)

theorem v_icmp_lt {x y : Int32} {off : Int} {tgt : Nat} (hd : decode μ.2.1 pc = .ok (.if_icmp .lt off, 3)) (ht : (pc : Int) + off = (tgt : Int)) (kt : x < y → qV l s0 C μ rm Qp Ep k n X tgt L st) (kf : ¬ x < y → qV l s0 C μ rm Qp Ep k n X (pc + 3) L st) : qV l s0 C μ rm Qp Ep k n X pc L (.int y :: .int x :: st) :=
  fun p e s m args below meth c G H locs ls hR hL hl => lv_icmp_lt G.1 G.2.1 hd ht (fun h => kt h p e s m args below meth c G H locs ls hR hL hl) (fun h => kf h p e s m args below meth c G H locs ls hR hL hl)

theorem v_if_ge {x : Int32} {off : Int} {tgt : Nat} (hd : decode μ.2.1 pc = .ok (.ifCond .ge off, 3)) (ht : (pc : Int) + off = (tgt : Int)) (kt : 0 ≤ x → qV l s0 C μ rm Qp Ep k n X tgt L st) (kf : ¬ 0 ≤ x → qV l s0 C μ rm Qp Ep k n X (pc + 3) L st) : qV l s0 C μ rm Qp Ep k n X pc L (.int x :: st) :=
  fun p e s m args below meth c G H locs ls hR hL hl => lv_if_ge G.1 G.2.1 hd ht (fun h => kt h p e s m args below meth c G H locs ls hR hL hl) (fun h => kf h p e s m args below meth c G H locs ls hR hL hl)

theorem v_icmp_ge {x y : Int32} {off : Int} {tgt : Nat} (hd : decode μ.2.1 pc = .ok (.if_icmp .ge off, 3)) (ht : (pc : Int) + off = (tgt : Int)) (kt : y ≤ x → qV l s0 C μ rm Qp Ep k n X tgt L st) (kf : ¬ y ≤ x → qV l s0 C μ rm Qp Ep k n X (pc + 3) L st) : qV l s0 C μ rm Qp Ep k n X pc L (.int y :: .int x :: st) :=
  fun p e s m args below meth c G H locs ls hR hL hl => lv_icmp_ge G.1 G.2.1 hd ht (fun h => kt h p e s m args below meth c G H locs ls hR hL hl) (fun h => kf h p e s m args below meth c G H locs ls hR hL hl)

theorem v_if_gt {x : Int32} {off : Int} {tgt : Nat} (hd : decode μ.2.1 pc = .ok (.ifCond .gt off, 3)) (ht : (pc : Int) + off = (tgt : Int)) (kt : 0 < x → qV l s0 C μ rm Qp Ep k n X tgt L st) (kf : ¬ 0 < x → qV l s0 C μ rm Qp Ep k n X (pc + 3) L st) : qV l s0 C μ rm Qp Ep k n X pc L (.int x :: st) :=
  fun p e s m args below meth c G H locs ls hR hL hl => lv_if_gt G.1 G.2.1 hd ht (fun h => kt h p e s m args below meth c G H locs ls hR hL hl) (fun h => kf h p e s m args below meth c G H locs ls hR hL hl)

theorem v_icmp_gt {x y : Int32} {off : Int} {tgt : Nat} (hd : decode μ.2.1 pc = .ok (.if_icmp .gt off, 3)) (ht : (pc : Int) + off = (tgt : Int)) (kt : y < x → qV l s0 C μ rm Qp Ep k n X tgt L st) (kf : ¬ y < x → qV l s0 C μ rm Qp Ep k n X (pc + 3) L st) : qV l s0 C μ rm Qp Ep k n X pc L (.int y :: .int x :: st) :=
  fun p e s m args below meth c G H locs ls hR hL hl => lv_icmp_gt G.1 G.2.1 hd ht (fun h => kt h p e s m args below meth c G H locs ls hR hL hl) (fun h => kf h p e s m args below meth c G H locs ls hR hL hl)

theorem v_if_le {x : Int32} {off : Int} {tgt : Nat} (hd : decode μ.2.1 pc = .ok (.ifCond .le off, 3)) (ht : (pc : Int) + off = (tgt : Int)) (kt : x ≤ 0 → qV l s0 C μ rm Qp Ep k n X tgt L st) (kf : ¬ x ≤ 0 → qV l s0 C μ rm Qp Ep k n X (pc + 3) L st) : qV l s0 C μ rm Qp Ep k n X pc L (.int x :: st) :=
  fun p e s m args below meth c G H locs ls hR hL hl => lv_if_le G.1 G.2.1 hd ht (fun h => kt h p e s m args below meth c G H locs ls hR hL hl) (fun h => kf h p e s m args below meth c G H locs ls hR hL hl)

theorem v_icmp_le {x y : Int32} {off : Int} {tgt : Nat} (hd : decode μ.2.1 pc = .ok (.if_icmp .le off, 3)) (ht : (pc : Int) + off = (tgt : Int)) (kt : x ≤ y → qV l s0 C μ rm Qp Ep k n X tgt L st) (kf : ¬ x ≤ y → qV l s0 C μ rm Qp Ep k n X (pc + 3) L st) : qV l s0 C μ rm Qp Ep k n X pc L (.int y :: .int x :: st) :=
  fun p e s m args below meth c G H locs ls hR hL hl => lv_icmp_le G.1 G.2.1 hd ht (fun h => kt h p e s m args below meth c G H locs ls hR hL hl) (fun h => kf h p e s m args below meth c G H locs ls hR hL hl)

theorem v_ifnull {x : Nat} {off : Int} (hd : decode μ.2.1 pc = .ok (.ifnull off, 3)) (K : qV l s0 C μ rm Qp Ep k n X (pc + 3) L st) : qV l s0 C μ rm Qp Ep k n X pc L (.ref x :: st) :=
  fun p e s m args below meth c G H locs ls hR hL hl => lv_ifnull G.1 G.2.1 hd (K p e s m args below meth c G H locs ls hR hL hl)
theorem v_ifnullN {off : Int} {tgt : Nat} (hd : decode μ.2.1 pc = .ok (.ifnull off, 3)) (ht : (pc : Int) + off = (tgt : Int)) (K : qV l s0 C μ rm Qp Ep k n X tgt L st) : qV l s0 C μ rm Qp Ep k n X pc L (.null :: st) :=
  fun p e s m args below meth c G H locs ls hR hL hl => lv_ifnullN G.1 G.2.1 hd ht (K p e s m args below meth c G H locs ls hR hL hl)
theorem v_ifnonnull {x : Nat} {off : Int} {tgt : Nat} (hd : decode μ.2.1 pc = .ok (.ifnonnull off, 3)) (ht : (pc : Int) + off = (tgt : Int)) (K : qV l s0 C μ rm Qp Ep k n X tgt L st) : qV l s0 C μ rm Qp Ep k n X pc L (.ref x :: st) :=
  fun p e s m args below meth c G H locs ls hR hL hl => lv_ifnonnull G.1 G.2.1 hd ht (K p e s m args below meth c G H locs ls hR hL hl)
theorem v_ifnonnullN {off : Int} (hd : decode μ.2.1 pc = .ok (.ifnonnull off, 3)) (K : qV l s0 C μ rm Qp Ep k n X (pc + 3) L st) : qV l s0 C μ rm Qp Ep k n X pc L (.null :: st) :=
  fun p e s m args below meth c G H locs ls hR hL hl => lv_ifnonnullN G.1 G.2.1 hd (K p e s m args below meth c G H locs ls hR hL hl)

theorem v_tableIn {dflt lo hi : Int} {offs : Array Int} {len : Nat} {x : Int32} {off : Int} {tgt : Nat} (hd : decode μ.2.1 pc = .ok (.tableswitch dflt lo hi offs, len)) (h1 : ¬ x.toInt < lo) (h2 : ¬ hi < x.toInt) (ho : offs[(x.toInt - lo).toNat]? = some off) (ht : (pc : Int) + off = (tgt : Int)) (K : qV l s0 C μ rm Qp Ep k n X tgt L st) : qV l s0 C μ rm Qp Ep k n X pc L (.int x :: st) :=
  fun p e s m args below meth c G H locs ls hR hL hl => lv_tableIn G.1 G.2.1 hd h1 h2 ho ht (K p e s m args below meth c G H locs ls hR hL hl)
theorem v_tableOut {dflt lo hi : Int} {offs : Array Int} {len : Nat} {x : Int32} {tgt : Nat} (hd : decode μ.2.1 pc = .ok (.tableswitch dflt lo hi offs, len)) (h : x.toInt < lo ∨ hi < x.toInt) (ht : (pc : Int) + dflt = (tgt : Int)) (K : qV l s0 C μ rm Qp Ep k n X tgt L st) : qV l s0 C μ rm Qp Ep k n X pc L (.int x :: st) :=
  fun p e s m args below meth c G H locs ls hR hL hl => lv_tableOut G.1 G.2.1 hd h ht (K p e s m args below meth c G H locs ls hR hL hl)

end QV
