/-! rows that throw, and calls whose throws are caught here -/
def qok (w : Cond) : Bool := goodWord w || (match w with
  | .declares _ => true
  | .castable _ _ => true
  | _ => false)
theorem qok_at {l : Launch} {s0 : State} {C : qC} (B : qB l s0 C) {w : Cond} (hw : w ∈ lw_tbl) (hk : qok w = true) {a : Array Value} {U : State} (hW : s0.WarmedH U.vm) : w.before a U = true := by
  unfold qok at hk
  rw [Bool.or_eq_true] at hk
  rcases hk with hg | hg
  · exact qword_at B hw hg hW
  · obtain ⟨-, ⟨A0, h1, -⟩, -⟩ := B
    have h2 := h1 w hw
    cases w with
    | declares x => exact va_Nw.use rfl (va_Nw.warmD hW (va_Nw.of rfl h2))
    | castable x y => exact va_Nw.use rfl (va_Nw.warmC hW (va_Nw.of rfl h2))
    | _ => cases hg
/-- the words that a throw of cls asks -/
def qThr (ik ic : Nat) (cls : String) : Prop := Bundle.fit cls = true ∧ qIn (Cond.classLink "PastTree" ik cls) ∧ qIn (Cond.initialized cls) ∧
  (vx_atS "PastTree" ic cls ["java/lang/RuntimeException", "java/lang/Exception"]).all (fun w => (qok w && decide (w ∈ lw_tbl)) && vx_ot w) = true
theorem qB.flat {l : Launch} {s0 : State} {C : qC} (B : qB l s0 C) : ∃ A0 : Array Value, (∀ w ∈ lw_tbl, w.before A0 s0 = true) ∧ (Jvm.Cond.and given_1 narrow_1).before A0 s0 = true := B.2.1
theorem qB.zq {l : Launch} {s0 : State} {C : qC} (B : qB l s0 C) {s : State} (hW : s0.WarmedH s.vm) (hs : ∀ q : Nat, q < s0.heap.size → s.heap[q]? = s0.heap[q]?) :
    vx_Zq Bundle.tN "UNASSIGNED_STACK" Bundle.steD (qF s0) s s.heap ∧ vx_Zq Bundle.tN "SUPPRESSED_SENTINEL" Bundle.listD (qF s0) s s.heap := by
  obtain ⟨A0, h1, h2⟩ := B.flat
  have hf := flat_of_before _ h2
  have hini : (Cond.initialized Bundle.tN).before A0 s0 = true := h1 _ (by decide +kernel)
  have hA : ∀ a : Nat, a < s0.heap.size → ¬ qF s0 a := fun a ha hq => by unfold qF at hq; omega
  have hk : ∀ a : Nat, a < s0.heap.size → ¬ qF s0 a → s.heap[a]? = s0.heap[a]? := fun a ha _ => hs a ha
  refine ⟨vx_Zq.moved hW.alike (vx_Zq.kept (vx_Zqof (h1 _ (by decide +kernel)) hini (hf _ (by decide +kernel)) hA) hk), vx_Zq.moved hW.alike (vx_Zq.kept (vx_Zqof (h1 _ (by decide +kernel)) hini (hf _ (by decide +kernel)) hA) hk)⟩
theorem qB.str {l : Launch} {s0 : State} {C : qC} (B : qB l s0 C) {i : Nat} {t : String} (hw : Cond.stringRef "PastTree" i t ∈ lw_tbl) {s : State} (hW : s0.WarmedH s.vm) : ∃ sa : Nat, vk_R "PastTree" i t sa s := by
  obtain ⟨A0, h1, -⟩ := B.flat
  have h2 := h1 _ hw
  have hcur : ∃ cur, s0.vm.findClass "PastTree" = some cur := by
    have h3 := h2
    simp only [Cond.before, Cond.holds, Cond.value] at h3
    cases hc : s0.vm.findClass "PastTree" with
    | none => simp [hc] at h3
    | some cur => exact ⟨cur, rfl⟩
  obtain ⟨cur, hcur⟩ := hcur
  obtain ⟨k, cf, j, a, -, -, -, -, -, he⟩ := Cond.stringRef_spec (args := A0) (first := s0) (o := none) (idx := []) hcur h2
  exact ⟨a, vk_R.warm hW (vk_R.of h2 he)⟩
section QT
variable {l : Launch} {s0 : State} {C : qC} {μ : qM} {rm : Room} {Qp : Option Value → qX → Prop} {Ep : String → qX → Prop} {k n : Nat} {X : qX} {pc : Nat} {L : List (Nat × Value)} {st : List Value}
theorem qR.more {X : qX} {H H1 : Heap} (h : qR C s0 X H) (hz : H.size ≤ H1.size) (oq : ∀ q : Nat, q < H.size → H1[q]? = H[q]?) : qR C s0 (X.1, H1.size) H1 := by
  obtain ⟨h1, h2, h3, h4⟩ := h
  exact ⟨rfl, by omega, fun q hq => by rw [oq q (by omega)]; exact h3 q hq, fun b e9 hb => ⟨(h4 b e9 hb).1, (h4 b e9 hb).2.kept (oq b (h4 b e9 hb).2.lt)⟩⟩
set_option maxHeartbeats 2000000 in
/-- throw new E("text") -/
theorem v_throw (B : qB l s0 C) {cls text : String} {ik is ic : Nat} (hT : qThr ik ic cls) (hcls : μ.1.cls = "PastTree") (hw : Cond.stringRef "PastTree" is text ∈ lw_tbl) (hex : μ.2.2.2.2 = [])
    (d0 : decode μ.2.1 pc = .ok (.new ik, 3)) (d3 : decode μ.2.1 (pc + 3) = .ok (.dup, 1)) (d4 : decode μ.2.1 (pc + 4) = .ok (.ldc is, 2)) (d6 : decode μ.2.1 (pc + 6) = .ok (.invokespecial ic, 3)) (d9 : decode μ.2.1 (pc + 9) = .ok (.athrow, 1))
    (hf : 5 < rm.frames) (hlo : (st.map fun v => v.category).sum + 82 ≤ rm.locals) (hk : k + 1 ≤ rm.cells) (hm : n + 6 ≤ rm.slots) (hE : ∀ N : Nat, X.2 ≤ N → Ep cls (X.1, N)) : qV l s0 C μ rm Qp Ep k n X pc L st := by
  intro p e s m args below meth c G H locs ls hR hL hl
  obtain ⟨hx, hcc, hml, hrt, hlocks, hown, hexc, hnm, hW, hs1, hs2⟩ := id G
  obtain ⟨t1, t2, t3, t4⟩ := hT
  rw [List.all_eq_true] at t4
  obtain ⟨sa, hsa⟩ := B.str hw hW
  obtain ⟨z1, z2⟩ := B.zq hW hs2
  intro T hTH XX
  have hsz : s.heap.size ≤ H.size := by
    have := XX.same.2.1
    rw [← hTH]; exact this
  rw [hcls] at hown
  refine vx_throwS (Qc := qQ C s0 Qp) (XC := qE C s0 Ep) (free := qF s0) (mc := rm.cells) (ms := rm.slots) (names := ["java/lang/RuntimeException", "java/lang/Exception"]) (A := qF s0) hx hcc B.1 hown t1 (by decide +kernel) (t2.at B hW) (t3.at B hW) hsa ?_ ?_ z1 z2 ⟨hsz, ?_, hL⟩ (by rw [hl.1, hml]) d0 d3 d4 d6 d9 (by rw [qnoex (by rw [hexc]; exact hex)]; exact fun x h => nomatch h) hf hlo hk hm hlocks ?_ hL hk hm T hTH XX
  · intro w hw
    have := t4 w hw
    rw [Bool.and_eq_true, Bool.and_eq_true] at this
    exact qok_at B (of_decide_eq_true this.1.2) this.1.1 hW
  · intro w hw
    rcases List.mem_cons.mp hw with h | h
    · rw [h]; unfold vx_ot; rw [t2.2]; exact Bool.or_true _
    · rcases List.mem_cons.mp h with h | h
      · rw [h]; unfold vx_ot; rw [t3.2]; exact Bool.or_true _
      · have := t4 w h
        rw [Bool.and_eq_true] at this
        exact this.2
  · intro q hq hA
    have hq0 : q < s0.heap.size := Nat.lt_of_not_le hA
    rw [hR.2.2.1 q hq0, hs2 q hq0]
  · intro t hal hz ho
    exact ⟨(X.1, t.heap.size), hR.more hz ho, hE _ (by rw [← hR.1]; exact hz)⟩
/-- where an E goes that comes out of the call at pc -/
def qcov (z : Nat × Nat × Nat × Nat) (pc : Nat) : Bool := decide (z.1 ≤ pc) && decide (pc < z.2.1)
def qHd (μ : qM) (pc : Nat) (E : String) (h : Nat) : Prop := ∃ (pre : List (Nat × Nat × Nat × Nat)) (x : Nat × Nat × Nat × Nat) (suf : List (Nat × Nat × Nat × Nat)) (nm : String), μ.2.2.2.2 = pre ++ x :: suf ∧
  (∀ z ∈ pre, z.2.2.2 ≠ 0 ∧ ∃ nz : String, qIn (Cond.classLink μ.1.cls z.2.2.2 nz) ∧ Cond.not (.castable E nz) ∈ flatC narrow_1) ∧ qcov x pc = true ∧ x.2.2.2 ≠ 0 ∧ qIn (Cond.classLink μ.1.cls x.2.2.2 nm) ∧ Cond.castable E nm ∈ lw_tbl ∧ x.2.2.1 = h
theorem q_cat (B : qB l s0 C) {p : Program} {e : Env} {s : State} {m : MethodId} {args : Array Value} {below : List Frame} {meth : Method} {c : Code} {T : State} {locs : List Loc} {As : List Value} {Ep' : String → qX → Prop} {rm' : Room} {q : Addr} {vm₁ : Vm} {A' : Pt} {ls : Array Slot} {g0 : JFrame} (G : qG s0 μ p s m meth c) (hl : lv_has ls μ.2.2.1 L) (hW1 : s.WarmedH vm₁)
    (hL : ∀ q ∈ locs, s0.heap.size ≤ q.base) (X' : Stand p l e rm s m args below meth c A'.U A'.locs A'.cells A'.slots) (hP : vx_Post (qE C s0 Ep') rm'.cells rm'.slots (qF s0) ⟨T.setVm vm₁, locs, k, n⟩ As.toArray q A')
    (st9 : Steps p.tables e below (T.setTop g0) ((A'.U.setTop (F0 m pc ls st)).pushFrame (.throwing q)))
    (kx : ∀ (E : String) (X9 : qX), Ep' E X9 → ∃ h : Nat, qHd μ pc E h ∧ ∀ q : Nat, qV l s0 C μ rm Qp Ep (k + rm'.cells) (n + rm'.slots) X9 h L [.ref q]) :
    ∃ t, Steps p.tables e below (T.setTop g0) t ∧ vx_MQ below (qQ C s0 Qp) (qE C s0 Ep) args s rm.cells rm.slots (qF s0) t := by
  obtain ⟨U', l2, c2, s2⟩ := A'
  obtain ⟨g', mk, t, L2, E, ce, e1, e2, ⟨X9, hR9, hq⟩, hce, hcv, hcl, h1, hL2, h2, h3⟩ := hP
  dsimp only [Pt.U, Pt.locs, Pt.cells, Pt.slots] at X' e1 e2 h1 h2 h3 st9
  subst h1; subst h2; subst h3
  obtain ⟨h, ⟨pre, x, suf, nm, hsp, hpass, hcov, hx0, hlk, hcast, rfl⟩, K⟩ := kx E X9 hq
  obtain ⟨hx, hcc, hml, hrt, hlocks, hown, hexc, hnm, hW, hs1, hs2⟩ := id G
  rw [hsp] at hexc
  obtain ⟨l1, l2, hl12, hm1, hm2⟩ := List.map_eq_append_iff.mp hexc
  obtain ⟨x9, l3, rfl, hx9, hm3⟩ := List.map_eq_cons_iff.mp hm2
  obtain ⟨A0, hA1, hA2⟩ := B.flat
  have hfl := flat_of_before narrow_1 (by rw [Cond.before_and, Bool.and_eq_true] at hA2; exact hA2.2)
  have KK := K q p e s m args below meth c G U'.heap (locs ++ L2) ls (by rw [e1]; exact hR9) (qadd hL hL2) hl
  subst hx9
  obtain ⟨t9, a1, b1⟩ := vx_catch (p := p) (l := l) (e := e) (R := rm) (args := args) (below := below) (H := U'.heap) (pc := pc) (ls := ls) (rest := st) (E := E) (name := nm) hown l1 x9 l3 hl12 (fun z hz => by
      have hz2 : (z.startPc, z.endPc, z.handlerPc, z.catchType) ∈ pre := by rw [← hm1]; exact List.mem_map_of_mem hz
      obtain ⟨z0, nz, hz3, hz4⟩ := hpass _ hz2
      exact Or.inr ⟨z0, nz, hz3.at B hW, (va_Nc.of (hfl _ hz4)).moved hW.alike⟩) hcov hx0 (hlk.at B hW) (qok_at B hcast rfl hW) (by rw [e1]; exact hce) hcv (vx_cls hW1 hcl) KK U' rfl X'
  exact ⟨t9, st9.trans a1, b1⟩
set_option maxHeartbeats 2000000 in
/-- a virtual call whose throws are caught here -/
theorem v_invC (B : qB l s0 C) {μ' : qM} {ci na b : Nat} {rm' : Room} {As fs stk : List Value} {Qp' : Option Value → qX → Prop} {Ep' : String → qX → Prop} (hi : qInv μ pc μ' ci na) (hkn : qKn μ') (hM : qMet l s0 C μ' rm' (.ref b :: As) X Qp' Ep')
    (hb : X.1 b = some (.inr (ci, fs))) (hstk : stk = As.reverse ++ .ref b :: st) (hna : As.length = na) (hcat : (st.map fun v => v.category).sum ≤ 8) (hrm : qRm rm rm' μ'.2.2.1 k n)
    (kr : ∀ (v : Option Value) (X' : qX), Qp' v X' → qV l s0 C μ rm Qp Ep (k + rm'.cells) (n + rm'.slots) X' (pc + 3) L (v.toList ++ st))
    (kx : ∀ (E : String) (X9 : qX), Ep' E X9 → ∃ h : Nat, qHd μ pc E h ∧ ∀ q : Nat, qV l s0 C μ rm Qp Ep (k + rm'.cells) (n + rm'.slots) X9 h L [.ref q]) : qV l s0 C μ rm Qp Ep k n X pc L stk := by
  intro p e s m args below meth c G H locs ls hR hL hl
  obtain ⟨ix, r, hd, hr, hcls, w1, w2, w3, hpd⟩ := hi
  obtain ⟨hx, hcc, hml, hrt, hlocks, hown, hexc, hnm, hW, hs1, hs2⟩ := id G
  obtain ⟨r2, h1, cell, q1, q2, q3, -⟩ := (hR.2.2.2 b _ hb).2
  cases Option.some.inj (h1.symm.trans hr)
  have hfc := (B.K hr hW).2.1
  obtain ⟨kn1, kn2, kn3⟩ := id hkn
  have hK := q_back B hM hkn (R := rm) (p := p) (e := e) (below := below) (s := s) (sargs := args) (len := 3) hW hrm.1 hrm.2.1
  intro T hT XX
  subst hstk
  have hpre : ∀ vm₁, s.WarmedH vm₁ → PreOf rm rm'.cells rm'.slots (qPc C s0 (.ref b :: As) X) ⟨T.setVm vm₁, locs, k, n⟩ (Value.ref b :: As).toArray := fun vm₁ hW1 => ⟨hrm.2.2.1, hrm.2.2.2, rfl, State.WarmedH.trans hW hW1, by show qR C s0 X T.heap; rw [hT]; exact hR⟩
  have hcode : (qword μ').before args s = true := kn1.at B hW
  have key : (∃ (v : Option Value) (vm₁ : Vm) (A' : Pt), s.WarmedH vm₁ ∧ Stand p l e rm s m args below meth c A'.U A'.locs A'.cells A'.slots ∧ PostOf (qQ C s0 Qp') rm'.cells rm'.slots (qF s0) ⟨T.setVm vm₁, locs, k, n⟩ (Value.ref b :: As).toArray v A' ∧
      ∀ target, Steps p.tables e below (A'.U.setTop (F0 m (pc + 3) ls (v.toList ++ st))) target → Steps p.tables e below (T.setTop (F0 m pc ls (As.reverse ++ .ref b :: st))) target) ∨
    (∃ (q : Addr) (vm₁ : Vm) (A' : Pt), s.WarmedH vm₁ ∧ Stand p l e rm s m args below meth c A'.U A'.locs A'.cells A'.slots ∧ vx_Post (qE C s0 Ep') rm'.cells rm'.slots (qF s0) ⟨T.setVm vm₁, locs, k, n⟩ (Value.ref b :: As).toArray q A' ∧
      Steps p.tables e below (T.setTop (F0 m pc ls (As.reverse ++ .ref b :: st))) ((A'.U.setTop (F0 m pc ls st)).pushFrame (.throwing q))) := by
    obtain ⟨y, cc, mL, rt, hh⟩ := μ'
    cases hh with
    | nil => exact vx_callV XX hx (bytes := cc) (maxL := mL) (ret := rt) hown (w1.at B hW) (w2.at B hW) (w3.at B hW) hcode kn3 hK (by rw [hT]; exact q1) (by rw [q3]; rfl) (by rw [q2]; exact hfc) (g := F0 m pc ls (As.reverse ++ .ref b :: st)) rfl (by rw [hml]; exact hl.1) (argsL := As) (rest := st) (qlen hpd hna) rfl (lv_room hcat) (by rw [hcc]; exact hd) hpre
    | cons a9 b9 => exact vx_callVX XX hx (bytes := cc) (maxL := mL) (ret := rt) (hh := a9 :: b9) hown (w1.at B hW) (w2.at B hW) (w3.at B hW) hcode kn3 hK (by rw [hT]; exact q1) (by rw [q3]; rfl) (by rw [q2]; exact hfc) (g := F0 m pc ls (As.reverse ++ .ref b :: st)) rfl (by rw [hml]; exact hl.1) (argsL := As) (rest := st) (qlen hpd hna) rfl (lv_room hcat) (by rw [hcc]; exact hd) hpre
  rcases key with ⟨v, vm₁, A', hW1, X', hP, st9⟩ | ⟨q, vm₁, A', hW1, X', hP, st9⟩
  · exact q_ret hL X' hP st9 (fun X9 H9 locs9 hq hR9 hL9 => kr v X9 hq p e s m args below meth c G H9 locs9 ls hR9 hL9 hl)
  · exact q_cat B G hl hW1 hL X' hP st9 kx
end QT
theorem th_S : qThr 204 208 "java/lang/IllegalStateException" := ⟨by decide +kernel, ⟨by decide +kernel, rfl⟩, ⟨by decide +kernel, rfl⟩, by decide +kernel⟩
theorem th_U : qThr 172 176 "java/lang/UnsupportedOperationException" := ⟨by decide +kernel, ⟨by decide +kernel, rfl⟩, ⟨by decide +kernel, rfl⟩, by decide +kernel⟩
theorem th_I : qThr 142 146 "java/lang/IndexOutOfBoundsException" := ⟨by decide +kernel, ⟨by decide +kernel, rfl⟩, ⟨by decide +kernel, rfl⟩, by decide +kernel⟩
theorem th_A : qThr 91 95 "java/lang/IllegalArgumentException" := ⟨by decide +kernel, ⟨by decide +kernel, rfl⟩, ⟨by decide +kernel, rfl⟩, by decide +kernel⟩
