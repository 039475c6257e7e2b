/-! rows for constants of the pool, returns and calls -/
section QK
variable {l : Launch} {s0 : State} {C : qC} {μ : qM} {rm : Room} {Qp : Option Value → qX → Prop} {Ep : String → qX → Prop} {k n : Nat} {X : qX} {pc : Nat} {L : List (Nat × Value)} {st : List Value}
def qIn (w : Cond) : Prop := w ∈ lw_tbl ∧ goodWord w = true
theorem qIn.at {l : Launch} {s0 : State} {C : qC} {w : Cond} (h : qIn w) (B : qB l s0 C) {a : Array Value} {U : State} (hW : s0.WarmedH U.vm) : w.before a U = true := qword_at B h.1 h.2 hW
theorem v_ldc (B : qB l s0 C) {ix : Nat} {v : Int32} (hd : decode μ.2.1 pc = .ok (.ldc ix, 2)) (hw : qIn (Cond.constant μ.1.cls ix v)) (K : qV l s0 C μ rm Qp Ep k n X (pc + 2) L (.int v :: st)) : qV l s0 C μ rm Qp Ep k n X pc L st :=
  fun p e s m args below meth c G H locs ls hR hL hl => lv_ldc G.1 G.2.1 G.2.2.2.2.2.1 (hw.at B G.2.2.2.2.2.2.2.2.1) hd (K p e s m args below meth c G H locs ls hR hL hl)
theorem v_ldc2 (B : qB l s0 C) {ix : Nat} {v : Int64} (hd : decode μ.2.1 pc = .ok (.ldc2_w ix, 3)) (hw : qIn (Cond.constantLong μ.1.cls ix v)) (K : qV l s0 C μ rm Qp Ep k n X (pc + 3) L (.long v :: st)) : qV l s0 C μ rm Qp Ep k n X pc L st :=
  fun p e s m args below meth c G H locs ls hR hL hl => lv_ldc2 G.1 G.2.1 G.2.2.2.2.2.1 (hw.at B G.2.2.2.2.2.2.2.2.1) hd (K p e s m args below meth c G H locs ls hR hL hl)
theorem v_iret {x : Int32} (hd : decode μ.2.1 pc = .ok (.ireturn, 1)) (hr : μ.2.2.2.1 = some .int) (hk : k ≤ rm.cells) (hm : n ≤ rm.slots) (hq : Qp (some (.int x)) X) : qV l s0 C μ rm Qp Ep k n X pc L [.int x] :=
  fun p e s m args below meth c G H locs ls hR hL hl => W.widen hk hm (vx_ret (W.iret G.1 G.2.1 (G.2.2.2.1.trans hr) (fun t ht hW => ⟨_, X, rfl, by rw [ht]; exact hR, hq⟩) hL hd G.2.2.2.2.1))
theorem v_zret {x : Int32} (hd : decode μ.2.1 pc = .ok (.ireturn, 1)) (hr : μ.2.2.2.1 = some .boolean) (hx : x = 0 ∨ x = 1) (hk : k ≤ rm.cells) (hm : n ≤ rm.slots) (hq : Qp (some (.int x)) X) : qV l s0 C μ rm Qp Ep k n X pc L [.int x] :=
  fun p e s m args below meth c G H locs ls hR hL hl => W.widen hk hm (vx_ret (W.zret G.1 G.2.1 (G.2.2.2.1.trans hr) (by rcases hx with rfl | rfl <;> rfl) (fun t ht hW => ⟨_, X, rfl, by rw [ht]; exact hR, hq⟩) hL hd G.2.2.2.2.1))
theorem v_lret {x : Int64} (hd : decode μ.2.1 pc = .ok (.lreturn, 1)) (hr : μ.2.2.2.1 = some .long) (hk : k ≤ rm.cells) (hm : n ≤ rm.slots) (hq : Qp (some (.long x)) X) : qV l s0 C μ rm Qp Ep k n X pc L [.long x] :=
  fun p e s m args below meth c G H locs ls hR hL hl => W.widen hk hm (vx_ret (W.lret G.1 G.2.1 (G.2.2.2.1.trans hr) (fun t ht hW => ⟨_, X, rfl, by rw [ht]; exact hR, hq⟩) hL hd G.2.2.2.2.1))
theorem v_vret (hd : decode μ.2.1 pc = .ok (.return_, 1)) (hr : μ.2.2.2.1 = none) (hk : k ≤ rm.cells) (hm : n ≤ rm.slots) (hq : Qp none X) : qV l s0 C μ rm Qp Ep k n X pc L [] :=
  fun p e s m args below meth c G H locs ls hR hL hl => W.widen hk hm (vx_ret (W.vret G.1 G.2.1 (G.2.2.2.1.trans hr) (fun t ht hW => ⟨_, X, rfl, by rw [ht]; exact hR, hq⟩) hL hd G.2.2.2.2.1))
theorem v_aret {x : Nat} {nm : String} (hd : decode μ.2.1 pc = .ok (.areturn, 1)) (hr : μ.2.2.2.1 = some (.object nm)) (hk : k ≤ rm.cells) (hm : n ≤ rm.slots) (hq : Qp (some (.ref x)) X) : qV l s0 C μ rm Qp Ep k n X pc L [.ref x] :=
  fun p e s m args below meth c G H locs ls hR hL hl => W.widen hk hm (vx_ret (W.aret G.1 G.2.1 (G.2.2.2.1.trans hr) (Or.inl ⟨_, rfl⟩) (Or.inr ⟨_, rfl⟩) (fun t ht hW => ⟨_, X, rfl, by rw [ht]; exact hR, hq⟩) hL hd G.2.2.2.2.1))
/-- Object.<init> -/
def qObj (μ : qM) (pc : Nat) : Prop := ∃ ix : Nat, decode μ.2.1 pc = .ok (.invokespecial ix, 3) ∧ qIn (Cond.methodLink μ.1.cls ix objectInit)
theorem v_obj (B : qB l s0 C) (hi : qObj μ pc) (w1 : qIn (Cond.instanceMethod objectInit)) (w2 : qIn (Cond.code objectInit ⟨#[0xb1]⟩ 1 none)) {a : Nat} (hf : 1 ≤ rm.frames) (hlo : (st.map fun v => v.category).sum + 12 ≤ rm.locals)
    (K : qV l s0 C μ rm Qp Ep k n X (pc + 3) L st) : qV l s0 C μ rm Qp Ep k n X pc L (.ref a :: st) := by
  intro p e s m args below meth c G H locs ls hR hL hl
  obtain ⟨ix, hd, hw⟩ := hi
  have hW := G.2.2.2.2.2.2.2.2.1
  exact W.objInit G.1 G.2.1 G.2.2.2.2.2.1 (hw.at B hW) (w1.at B hW) (w2.at B hW) rfl (by rw [G.2.2.1]; exact hl.1) rfl hd hf (by show 2 * 0 + _ + 12 ≤ _; omega) (K p e s m args below meth c G H locs ls hR hL hl)
/-- a known method -/
def qKn (μ : qM) : Prop := qIn (qword μ) ∧ qIn (Cond.initialized μ.1.cls) ∧ (μ.1.cls ≠ "java/lang/invoke/MethodHandle" ∧ μ.1.cls ≠ "java/lang/invoke/VarHandle")
theorem qPc_blind {C : qC} {s0 : State} {As : List Value} {X : qX} : FrameBlind (qPc C s0 As X) := fun _ _ _ _ h => h
theorem q_back (B : qB l s0 C) {μ' : qM} {rm' R : Room} {As : List Value} {Qp' : Option Value → qX → Prop} {Ep' : String → qX → Prop} (hM : qMet l s0 C μ' rm' As X Qp' Ep') (hkn : qKn μ') {p : Program} {e : Env} {below : List Frame} {s : State} {sargs : Array Value} {len : Nat} (hW : s0.WarmedH s.vm)
    (hf : rm'.frames + 1 ≤ R.frames) (hlo : 8 + (μ'.2.2.1 + 11) + rm'.locals ≤ R.locals) :
    vx_Back l R p e below s sargs μ'.1 len 8 (PreOf R rm'.cells rm'.slots (qPc C s0 As X)) (PostOf (qQ C s0 Qp') rm'.cells rm'.slots (qF s0)) (vx_Post (qE C s0 Ep') rm'.cells rm'.slots (qF s0)) := by
  obtain ⟨h1, h2, -⟩ := hkn
  have hws : ∀ w ∈ [qword μ'], ∀ (a' : Array Value) (U : State), s.WarmedH U.vm → w.before a' U = true := fun w hw a' U hU => by
    rw [List.mem_singleton] at hw
    subst hw
    exact h1.at B (State.WarmedH.trans hW hU)
  obtain ⟨y, cc, mL, rt, hh⟩ := μ'
  cases hh with
  | nil => exact vx_back (bytes := cc) (maxL := mL) (ret := rt) hM qPc_blind rfl rfl hf hlo hws List.mem_cons_self (fun a' U hU => h2.at B (State.WarmedH.trans hW hU))
  | cons a b => exact vx_backW (bytes := cc) (maxL := mL) (ret := rt) (hh := a :: b) hM qPc_blind rfl rfl hf hlo hws List.mem_cons_self (fun a' U hU => h2.at B (State.WarmedH.trans hW hU))
/-- the room that a call asks -/
def qRm (rm rm' : Room) (mL k n : Nat) : Prop := rm'.frames + 1 ≤ rm.frames ∧ 8 + (mL + 11) + rm'.locals ≤ rm.locals ∧ k + rm'.cells ≤ rm.cells ∧ n + rm'.slots ≤ rm.slots
def qInv (μ : qM) (pc : Nat) (μ' : qM) (ci na : Nat) : Prop := ∃ (ix : Nat) (r : vw_C), decode μ.2.1 pc = .ok (.invokevirtual ix, 3) ∧ qcl[ci]? = some r ∧ μ'.1.cls = r.1 ∧ qIn (Cond.methodLink μ.1.cls ix μ'.1) ∧ qIn (Cond.instanceMethod μ'.1) ∧ qIn (Cond.selects r.1 μ'.1 μ'.1) ∧ (parseMethodDescriptor μ'.1.desc).map (fun d => d.parameters.length) = some na
def qInvS (μ : qM) (pc : Nat) (μ' : qM) (na : Nat) : Prop := ∃ ix : Nat, decode μ.2.1 pc = .ok (.invokestatic ix, 3) ∧ qIn (Cond.methodLink μ.1.cls ix μ'.1) ∧ qIn (Cond.static μ'.1) ∧ (parseMethodDescriptor μ'.1.desc).map (fun d => d.parameters.length) = some na
def qInvI (μ : qM) (pc : Nat) (μ' : qM) (na : Nat) : Prop := ∃ ix : Nat, decode μ.2.1 pc = .ok (.invokespecial ix, 3) ∧ μ'.1.name = "<init>" ∧ μ'.2.2.2.1 = none ∧ μ'.2.2.2.2 = [] ∧ qIn (Cond.methodLink μ.1.cls ix μ'.1) ∧ qIn (Cond.instanceMethod μ'.1) ∧ (parseMethodDescriptor μ'.1.desc).map (fun d => d.parameters.length) = some na
theorem qlen {y : MethodName} {na j : Nat} (h : (parseMethodDescriptor y.desc).map (fun d => d.parameters.length) = some na) (hj : j = na) : ∀ sig, parseMethodDescriptor y.desc = some sig → j = sig.parameters.length := fun sig hs => by
  rw [hs] at h
  exact hj.trans (Option.some.inj h).symm
theorem qadd {s0 : State} {locs L2 : List Loc} (hL : ∀ q ∈ locs, s0.heap.size ≤ q.base) (h2 : ∀ q ∈ L2, qF s0 q.base) : ∀ q ∈ locs ++ L2, s0.heap.size ≤ q.base := fun q hq => (List.mem_append.mp hq).elim (hL q) (h2 q)
/-- the two ends of a call: it returned, or it threw and nothing here catches it -/
theorem q_ret {p : Program} {e : Env} {R : Room} {s : State} {m : MethodId} {args : Array Value} {below : List Frame} {meth : Method} {c : Code} {T : State} {locs : List Loc} {As : List Value} {Qp' : Option Value → qX → Prop} {rm' : Room} {v : Option Value} {vm₁ : Vm} {A' : Pt} {Z : State → Prop} {g g0 : JFrame}
    (hL : ∀ q ∈ locs, s0.heap.size ≤ q.base) (X' : Stand p l e R s m args below meth c A'.U A'.locs A'.cells A'.slots) (hP : PostOf (qQ C s0 Qp') rm'.cells rm'.slots (qF s0) ⟨T.setVm vm₁, locs, k, n⟩ As.toArray v A')
    (st9 : ∀ target, Steps p.tables e below (A'.U.setTop g) target → Steps p.tables e below (T.setTop g0) target)
    (kk : ∀ (X9 : qX) (H9 : Heap) (locs9 : List Loc), Qp' v X9 → qR C s0 X9 H9 → (∀ q ∈ locs9, s0.heap.size ≤ q.base) → W p l e R s m args below meth c H9 locs9 (k + rm'.cells) (n + rm'.slots) Z g) : ∃ t, Steps p.tables e below (T.setTop g0) t ∧ Z t := by
  obtain ⟨U', l2, c2, s2⟩ := A'
  obtain ⟨g', mk, t, L2, e1, e2, ⟨v9, X9, hv, hR9, hq⟩, h1, hL2, h2, h3⟩ := hP
  dsimp only [Pt.U, Pt.locs, Pt.cells, Pt.slots] at X' e1 e2 h1 h2 h3 st9
  subst h1; subst h2; subst h3
  cases hv
  obtain ⟨t9, a1, b1⟩ := kk X9 U'.heap (locs ++ L2) hq (by rw [e1]; exact hR9) (qadd hL hL2) U' rfl X'
  exact ⟨t9, st9 _ a1, b1⟩
theorem q_thr {p : Program} {e : Env} {s : State} {m : MethodId} {args : Array Value} {below : List Frame} {meth : Method} {c : Code} {T : State} {locs : List Loc} {As : List Value} {Ep' : String → qX → Prop} {rm' : Room} {q : Addr} {vm₁ : Vm} {A' : Pt} {ls : Array Slot} {g0 : JFrame} (hW1 : s.WarmedH vm₁)
    (hL : ∀ q ∈ locs, s0.heap.size ≤ q.base) (X' : Stand p l e rm s m args below meth c A'.U A'.locs A'.cells A'.slots) (hP : vx_Post (qE C s0 Ep') rm'.cells rm'.slots (qF s0) ⟨T.setVm vm₁, locs, k, n⟩ As.toArray q A')
    (st9 : Steps p.tables e below (T.setTop g0) ((A'.U.setTop (F0 m pc ls st)).pushFrame (.throwing q)))
    (hlocks : meth.locks = false) (hex : c.exceptionTable.toList = []) (hc : k + rm'.cells ≤ rm.cells) (hs : n + rm'.slots ≤ rm.slots) (kx : ∀ (E : String) (X9 : qX), Ep' E X9 → Ep E X9) :
    ∃ t, Steps p.tables e below (T.setTop g0) t ∧ vx_MQ below (qQ C s0 Qp) (qE C s0 Ep) args s rm.cells rm.slots (qF s0) t := by
  obtain ⟨U', l2, c2, s2⟩ := A'
  obtain ⟨g', mk, t, L2, E, ce, e1, e2, ⟨X9, hR9, hq⟩, hce, hcv, hcl, h1, hL2, h2, h3⟩ := hP
  dsimp only [Pt.U, Pt.locs, Pt.cells, Pt.slots] at X' e1 e2 h1 h2 h3 st9
  subst h1; subst h2; subst h3
  obtain ⟨t9, a1, b1⟩ := vx_out (Qc := qQ C s0 Qp) (XC := qE C s0 Ep) (free := qF s0) (mc := rm.cells) (ms := rm.slots) (pc := pc) (rest := st) (ls := ls) (l := l) (e := e) (R := rm) (args := args) (below := below) (H := U'.heap) (q := q) (by rw [hex]; exact fun x h => nomatch h) hlocks (by rw [e1]; exact hce) hcv (vx_cls hW1 hcl) (fun t9 ht9 _ => ⟨X9, by rw [ht9, e1]; exact hR9, kx E X9 hq⟩) (qadd hL hL2) hc hs U' rfl X'
  exact ⟨t9, st9.trans a1, b1⟩
theorem qnoex {c : Code} (h : c.exceptionTable.toList.map (fun h => (h.startPc, h.endPc, h.handlerPc, h.catchType)) = []) : c.exceptionTable.toList = [] := List.map_eq_nil_iff.mp h
set_option maxHeartbeats 2000000 in
/-- a virtual call -/
theorem v_inv (B : qB l s0 C) {μ' : qM} {ci na b : Nat} {rm' : Room} {As fs stk : List Value} {Qp' : Option Value → qX → Prop} {Ep' : String → qX → Prop} (hi : qInv μ pc μ' ci na) (hkn : qKn μ') (hM : qMet l s0 C μ' rm' (.ref b :: As) X Qp' Ep')
    (hb : X.1 b = some (.inr (ci, fs))) (hstk : stk = As.reverse ++ .ref b :: st) (hna : As.length = na) (hcat : (st.map fun v => v.category).sum ≤ 8) (hrm : qRm rm rm' μ'.2.2.1 k n) (hex : μ.2.2.2.2 = [])
    (kr : ∀ (v : Option Value) (X' : qX), Qp' v X' → qV l s0 C μ rm Qp Ep (k + rm'.cells) (n + rm'.slots) X' (pc + 3) L (v.toList ++ st)) (kx : ∀ (E : String) (X' : qX), Ep' E X' → Ep E X') : qV l s0 C μ rm Qp Ep k n X pc L stk := by
  intro p e s m args below meth c G H locs ls hR hL hl
  obtain ⟨ix, r, hd, hr, hcls, w1, w2, w3, hpd⟩ := hi
  obtain ⟨hx, hcc, hml, hrt, hlocks, hown, hexc, hnm, hW, hs1, hs2⟩ := id G
  obtain ⟨r2, h1, cell, q1, q2, q3, -⟩ := (hR.2.2.2 b _ hb).2
  cases Option.some.inj (h1.symm.trans hr)
  have hfc := (B.K hr hW).2.1
  obtain ⟨kn1, kn2, kn3⟩ := id hkn
  have hK := q_back B hM hkn (R := rm) (p := p) (e := e) (below := below) (s := s) (sargs := args) (len := 3) hW hrm.1 hrm.2.1
  intro T hT XX
  subst hstk
  have hpre : ∀ vm₁, s.WarmedH vm₁ → PreOf rm rm'.cells rm'.slots (qPc C s0 (.ref b :: As) X) ⟨T.setVm vm₁, locs, k, n⟩ (Value.ref b :: As).toArray := fun vm₁ hW1 => ⟨hrm.2.2.1, hrm.2.2.2, rfl, State.WarmedH.trans hW hW1, by show qR C s0 X T.heap; rw [hT]; exact hR⟩
  have hcode : (qword μ').before args s = true := kn1.at B hW
  have key : (∃ (v : Option Value) (vm₁ : Vm) (A' : Pt), s.WarmedH vm₁ ∧ Stand p l e rm s m args below meth c A'.U A'.locs A'.cells A'.slots ∧ PostOf (qQ C s0 Qp') rm'.cells rm'.slots (qF s0) ⟨T.setVm vm₁, locs, k, n⟩ (Value.ref b :: As).toArray v A' ∧
      ∀ target, Steps p.tables e below (A'.U.setTop (F0 m (pc + 3) ls (v.toList ++ st))) target → Steps p.tables e below (T.setTop (F0 m pc ls (As.reverse ++ .ref b :: st))) target) ∨
    (∃ (q : Addr) (vm₁ : Vm) (A' : Pt), s.WarmedH vm₁ ∧ Stand p l e rm s m args below meth c A'.U A'.locs A'.cells A'.slots ∧ vx_Post (qE C s0 Ep') rm'.cells rm'.slots (qF s0) ⟨T.setVm vm₁, locs, k, n⟩ (Value.ref b :: As).toArray q A' ∧
      Steps p.tables e below (T.setTop (F0 m pc ls (As.reverse ++ .ref b :: st))) ((A'.U.setTop (F0 m pc ls st)).pushFrame (.throwing q))) := by
    obtain ⟨y, cc, mL, rt, hh⟩ := μ'
    cases hh with
    | nil => exact vx_callV XX hx (bytes := cc) (maxL := mL) (ret := rt) hown (w1.at B hW) (w2.at B hW) (w3.at B hW) hcode kn3 hK (by rw [hT]; exact q1) (by rw [q3]; rfl) (by rw [q2]; exact hfc) (g := F0 m pc ls (As.reverse ++ .ref b :: st)) rfl (by rw [hml]; exact hl.1) (argsL := As) (rest := st) (qlen hpd hna) rfl (lv_room hcat) (by rw [hcc]; exact hd) hpre
    | cons a9 b9 => exact vx_callVX XX hx (bytes := cc) (maxL := mL) (ret := rt) (hh := a9 :: b9) hown (w1.at B hW) (w2.at B hW) (w3.at B hW) hcode kn3 hK (by rw [hT]; exact q1) (by rw [q3]; rfl) (by rw [q2]; exact hfc) (g := F0 m pc ls (As.reverse ++ .ref b :: st)) rfl (by rw [hml]; exact hl.1) (argsL := As) (rest := st) (qlen hpd hna) rfl (lv_room hcat) (by rw [hcc]; exact hd) hpre
  rcases key with ⟨v, vm₁, A', hW1, X', hP, st9⟩ | ⟨q, vm₁, A', hW1, X', hP, st9⟩
  · exact q_ret hL X' hP st9 (fun X9 H9 locs9 hq hR9 hL9 => kr v X9 hq p e s m args below meth c G H9 locs9 ls hR9 hL9 hl)
  · exact q_thr hW1 hL X' hP st9 hlocks (qnoex (by rw [hexc]; exact hex)) hrm.2.2.1 hrm.2.2.2 kx
set_option maxHeartbeats 2000000 in
/-- a static call -/
theorem v_invS (B : qB l s0 C) {μ' : qM} {na : Nat} {rm' : Room} {As stk : List Value} {Qp' : Option Value → qX → Prop} {Ep' : String → qX → Prop} (hi : qInvS μ pc μ' na) (hkn : qKn μ') (hM : qMet l s0 C μ' rm' As X Qp' Ep')
    (hstk : stk = As.reverse ++ st) (hna : As.length = na) (hcat : (st.map fun v => v.category).sum ≤ 8) (hrm : qRm rm rm' μ'.2.2.1 k n) (hex : μ.2.2.2.2 = [])
    (kr : ∀ (v : Option Value) (X' : qX), Qp' v X' → qV l s0 C μ rm Qp Ep (k + rm'.cells) (n + rm'.slots) X' (pc + 3) L (v.toList ++ st)) (kx : ∀ (E : String) (X' : qX), Ep' E X' → Ep E X') : qV l s0 C μ rm Qp Ep k n X pc L stk := by
  intro p e s m args below meth c G H locs ls hR hL hl
  obtain ⟨ix, hd, w1, w2, hpd⟩ := hi
  obtain ⟨hx, hcc, hml, hrt, hlocks, hown, hexc, hnm, hW, hs1, hs2⟩ := id G
  obtain ⟨kn1, kn2, kn3⟩ := id hkn
  have hK := q_back B hM hkn (R := rm) (p := p) (e := e) (below := below) (s := s) (sargs := args) (len := 3) hW hrm.1 hrm.2.1
  intro T hT XX
  subst hstk
  have hpre : ∀ vm₁, s.WarmedH vm₁ → PreOf rm rm'.cells rm'.slots (qPc C s0 As X) ⟨T.setVm vm₁, locs, k, n⟩ As.toArray := fun vm₁ hW1 => ⟨hrm.2.2.1, hrm.2.2.2, rfl, State.WarmedH.trans hW hW1, by show qR C s0 X T.heap; rw [hT]; exact hR⟩
  have hcode : (qword μ').before args s = true := kn1.at B hW
  have key : (∃ (v : Option Value) (vm₁ : Vm) (A' : Pt), s.WarmedH vm₁ ∧ Stand p l e rm s m args below meth c A'.U A'.locs A'.cells A'.slots ∧ PostOf (qQ C s0 Qp') rm'.cells rm'.slots (qF s0) ⟨T.setVm vm₁, locs, k, n⟩ As.toArray v A' ∧
      ∀ target, Steps p.tables e below (A'.U.setTop (F0 m (pc + 3) ls (v.toList ++ st))) target → Steps p.tables e below (T.setTop (F0 m pc ls (As.reverse ++ st))) target) ∨
    (∃ (q : Addr) (vm₁ : Vm) (A' : Pt), s.WarmedH vm₁ ∧ Stand p l e rm s m args below meth c A'.U A'.locs A'.cells A'.slots ∧ vx_Post (qE C s0 Ep') rm'.cells rm'.slots (qF s0) ⟨T.setVm vm₁, locs, k, n⟩ As.toArray q A' ∧
      Steps p.tables e below (T.setTop (F0 m pc ls (As.reverse ++ st))) ((A'.U.setTop (F0 m pc ls st)).pushFrame (.throwing q))) := by
    obtain ⟨y, cc, mL, rt, hh⟩ := μ'
    cases hh with
    | nil => exact vx_callS XX hx (bytes := cc) (maxL := mL) (ret := rt) hown (w1.at B hW) (w2.at B hW) (kn2.at B hW) hcode kn3 hK (g := F0 m pc ls (As.reverse ++ st)) rfl (by rw [hml]; exact hl.1) (argsL := As) (rest := st) (qlen hpd hna) rfl (lv_room hcat) (by rw [hcc]; exact hd) hpre
    | cons a9 b9 => exact vx_callSX XX hx (bytes := cc) (maxL := mL) (ret := rt) (hh := a9 :: b9) hown (w1.at B hW) (w2.at B hW) (kn2.at B hW) hcode kn3 hK (g := F0 m pc ls (As.reverse ++ st)) rfl (by rw [hml]; exact hl.1) (argsL := As) (rest := st) (qlen hpd hna) rfl (lv_room hcat) (by rw [hcc]; exact hd) hpre
  rcases key with ⟨v, vm₁, A', hW1, X', hP, st9⟩ | ⟨q, vm₁, A', hW1, X', hP, st9⟩
  · exact q_ret hL X' hP st9 (fun X9 H9 locs9 hq hR9 hL9 => kr v X9 hq p e s m args below meth c G H9 locs9 ls hR9 hL9 hl)
  · exact q_thr hW1 hL X' hP st9 hlocks (qnoex (by rw [hexc]; exact hex)) hrm.2.2.1 hrm.2.2.2 kx
set_option maxHeartbeats 2000000 in
/-- a constructor is called -/
theorem v_invI (B : qB l s0 C) {μ' : qM} {na b : Nat} {rm' : Room} {As stk : List Value} {Qp' : Option Value → qX → Prop} {Ep' : String → qX → Prop} (hi : qInvI μ pc μ' na) (hkn : qKn μ') (hM : qMet l s0 C μ' rm' (.ref b :: As) X Qp' Ep')
    (hstk : stk = As.reverse ++ .ref b :: st) (hna : As.length = na) (hcat : (st.map fun v => v.category).sum ≤ 8) (hrm : qRm rm rm' μ'.2.2.1 k n) (hex : μ.2.2.2.2 = [])
    (kr : ∀ (v : Option Value) (X' : qX), Qp' v X' → qV l s0 C μ rm Qp Ep (k + rm'.cells) (n + rm'.slots) X' (pc + 3) L (v.toList ++ st)) (kx : ∀ (E : String) (X' : qX), Ep' E X' → Ep E X') : qV l s0 C μ rm Qp Ep k n X pc L stk := by
  intro p e s m args below meth c G H locs ls hR hL hl
  obtain ⟨ix, hd, hin, hrt', hh', w1, w2, hpd⟩ := hi
  obtain ⟨hx, hcc, hml, hrt, hlocks, hown, hexc, hnm, hW, hs1, hs2⟩ := id G
  obtain ⟨kn1, kn2, kn3⟩ := id hkn
  have hK := q_back B hM hkn (R := rm) (p := p) (e := e) (below := below) (s := s) (sargs := args) (len := 3) hW hrm.1 hrm.2.1
  intro T hT XX
  subst hstk
  have hcode : (Cond.code μ'.1 μ'.2.1 μ'.2.2.1 none).before args s = true := by
    have h9 : (qword μ').before args s = true := kn1.at B hW
    unfold qword at h9
    rw [hh', hrt'] at h9
    exact h9
  have hpl : e.platform.magicAccessors = ({} : Platform).magicAccessors := by rw [XX.admits.platform]
  obtain ⟨mk, methM, cM, kP, vm₁, hnamed, hmethM, hcodeM, -, hlocalsM, -, hkP, -, hW₁, hstep₁⟩ := Steps.initColdArgs (e := e) XX.here hx XX.warmed hpl hown hin kn3 (w1.at B hW) (w2.at B hW) hcode (f := F0 m pc ls (As.reverse ++ .ref b :: st)) rfl (qlen hpd hna) (argsL := As) (rest := st) (a := b) rfl (by rw [hcc]; exact hd)
  have X₁ := XX.noted hW₁
  rcases hK m meth c ⟨T.setVm vm₁, locs, k, n⟩ (F0 m pc ls st) (.invokespecial ix) mk (Value.ref b :: As).toArray X₁ rfl (by rw [hml]; exact hl.1) (by rw [hcc]; exact hd) (lv_room hcat) (X₁.named hnamed) ⟨hrm.2.2.1, hrm.2.2.2, rfl, State.WarmedH.trans hW X₁.warmed, by show qR C s0 X T.heap; rw [hT]; exact hR⟩ with ⟨v, A', X', hP, hsteps⟩ | ⟨q, A', X', hP, hsteps⟩
  · exact q_ret hL X' hP (fun target h => hstep₁ _ fun acts => by rw [doInvoke_state]; exact hsteps.trans h) (fun X9 H9 locs9 hq hR9 hL9 => kr v X9 hq p e s m args below meth c G H9 locs9 ls hR9 hL9 hl)
  · exact q_thr X₁.warmed hL X' hP (hstep₁ _ fun acts => by rw [doInvoke_state]; exact hsteps) hlocks (qnoex (by rw [hexc]; exact hex)) hrm.2.2.1 hrm.2.2.2 kx
end QK
