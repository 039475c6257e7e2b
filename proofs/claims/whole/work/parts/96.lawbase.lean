/-! the law: the script, and what holds between two calls -/
section LB
variable {l : Launch} {s0 : State} {C : qC} {μ : qM} {rm : Room} {Qp : Option Value → qX → Prop} {Ep : String → qX → Prop} {k n : Nat} {X : qX} {pc : Nat} {L : List (Nat × Value)} {st : List Value}
theorem v_sld {b N j : Nat} {xs : Nat → Int32} (hX : va_X b N xs s0 s0.heap) (hb : b < s0.heap.size) {i : Int32} (hij : i = nI j) (hj : j < N) (hN : N < 2 ^ 31) (hd : decode μ.2.1 pc = .ok (.iaload, 1))
    (K : qV l s0 C μ rm Qp Ep k n X (pc + 1) L (.int (xs j) :: st)) : qV l s0 C μ rm Qp Ep k n X pc L (.int i :: .ref b :: st) := by
  intro p e s m args below meth c G H locs ls hR hL hl
  have KK := K p e s m args below meth c G H locs ls hR hL hl
  subst hij
  obtain ⟨scr, h1, h2, h3, h4, h5⟩ := hX.moved G.2.2.2.2.2.2.2.2.1.alike
  have e1 : (nI j).toNatClampNeg = j := nI_clamp (by omega)
  refine W.iald (v := .int (xs j)) G.1 G.2.1 (by rw [hR.2.2.1 b hb]; exact h1) h2 h3 ?_ ?_ rfl rfl hd KK
  · rw [h4]; exact nI_in hj hN
  · rw [e1]; exact h5 j hj
theorem v_slen {b N : Nat} {xs : Nat → Int32} (hX : va_X b N xs s0 s0.heap) (hb : b < s0.heap.size) (hd : decode μ.2.1 pc = .ok (.arraylength, 1))
    (K : qV l s0 C μ rm Qp Ep k n X (pc + 1) L (.int (nI N) :: st)) : qV l s0 C μ rm Qp Ep k n X pc L (.ref b :: st) := by
  intro p e s m args below meth c G H locs ls hR hL hl
  have KK := K p e s m args below meth c G H locs ls hR hL hl
  obtain ⟨scr, h1, h2, h3, h4, h5⟩ := hX.moved G.2.2.2.2.2.2.2.2.1.alike
  exact W.alen (n := Int32.ofNat N) G.1 G.2.1 (by rw [hR.2.2.1 b hb]; exact h1) h2 (by rw [h4] <;> rfl) rfl rfl hd KK
end LB
/-- the store between two calls: the class at x, the reference at x + 25, the row for answers at x + 55 -/
def LZ (X : qX) (x : Nat) (pg : Nat → Pg) (made lat : Nat) (ro : Nat → Nat) (db : Nat) (D : Dk) (cd : Int32) (pg2 : Nat → Pg) (made2 lat2 : Nat) (ro2 : Nat → Nat) (D2 : Dk) (pgK : Nat → Pg) (madeK : Nat) (op : Nat → Int32 × Int64 × Bool) (f : Nat → Int64) : Prop :=
  PtS X x (x + 56) pg made lat ro db D ∧ MR X (x + 25) cd pg2 made2 lat2 ro2 pgK madeK D2 op ∧ X.1 (x + 55) = some (.inl (1, 1, .inr (.inl f)))
/-- the mathematics between two calls -/
def LA (pg : Nat → Pg) (made lat : Nat) (ro : Nat → Nat) (db : Nat) (D : Dk) (pgK : Nat → Pg) (madeK : Nat) (op : Nat → Int32 × Int64 × Bool) (t : Nat) : Prop :=
  yAll pg made lat ro op ∧ yLw pg ∧ yLw pgK ∧ lat ≤ t ∧ t ≤ 512 ∧ db ≤ lat + 1 ∧ dlat D ≤ lat ∧ yAg (yTp pg made D.2.2.1) (yTm pg made D.2.2.1) D.2.2.1 ro pgK madeK ro
/-- all of it -/
def LR (X : qX) (x t : Nat) : Prop := ∃ pg made lat ro db D pgK madeK op cd f, LZ X x pg made lat ro db D cd pg made lat ro D pgK madeK op f ∧ LA pg made lat ro db D pgK madeK op t
section LD
variable {X X' : qX} {x t : Nat} {pg pg' : Nat → Pg} {made made' lat lat' : Nat} {ro ro' : Nat → Nat} {db db' : Nat} {D D' : Dk} {cd cd' : Int32} {pg2 : Nat → Pg} {made2 lat2 : Nat} {ro2 : Nat → Nat} {D2 : Dk} {pgK : Nat → Pg} {madeK : Nat} {op : Nat → Int32 × Int64 × Bool} {f : Nat → Int64}
theorem MR.cells {m : Nat} (h : MR X m cd pg made lat ro pgK madeK D op) (hs : ∀ q, m ≤ q → q < m + 30 → X'.1 q = X.1 q) : MR X' m cd pg made lat ro pgK madeK D op := by
  obtain ⟨s, I, J, h1, h2⟩ := h
  exact ⟨s, I, J, h1.cells hs, h2⟩
/-- the class has been called -/
theorem LZ.cls (h : LZ X x pg made lat ro db D cd pg2 made2 lat2 ro2 D2 pgK madeK op f) (hs : qSt X X' x (x + 56) pg' made' lat' ro' db' D') : LZ X' x pg' made' lat' ro' db' D' cd pg2 made2 lat2 ro2 D2 pgK madeK op f :=
  ⟨hs.1, h.2.1.cells (fun q h1 h2 => hs.2.2 q (Or.inr ⟨by omega, by omega⟩)), by rw [hs.2.2 (x + 55) (Or.inr ⟨by omega, by omega⟩)]; exact h.2.2⟩
/-- the answer has been written -/
theorem LZ.out (h : LZ X x pg made lat ro db D cd pg2 made2 lat2 ro2 D2 pgK madeK op f) (g : Nat → Int64) : LZ (qset X (x + 55) (.inl (1, 1, .inr (.inl g)))) x pg made lat ro db D cd pg2 made2 lat2 ro2 D2 pgK madeK op g :=
  ⟨h.1.keep (fun q hq => qset_ne _ _ (by omega)) (by rw [qset_2]; exact Nat.le_refl _), h.2.1.cells (fun q h1 h2 => qset_ne _ _ (by omega)), qset_self _ _ _⟩
/-- the reference has been called -/
theorem LZ.ref {pg3 : Nat → Pg} {made3 lat3 : Nat} {ro3 : Nat → Nat} {D3 : Dk} {pgK3 : Nat → Pg} {madeK3 : Nat} {op3 : Nat → Int32 × Int64 × Bool} (h : LZ X x pg made lat ro db D cd pg2 made2 lat2 ro2 D2 pgK madeK op f) (hs : qSame X X' (x + 25) (x + 25 + 30)) (hm : MR X' (x + 25) cd' pg3 made3 lat3 ro3 pgK3 madeK3 D3 op3) : LZ X' x pg made lat ro db D cd' pg3 made3 lat3 ro3 D3 pgK3 madeK3 op3 f :=
  ⟨h.1.keep (fun q hq => hs.2 q (by omega)) (by rw [hs.1]; exact Nat.le_refl _), hm, by rw [hs.2 (x + 55) (by omega)]; exact h.2.2⟩
theorem PtS.obj {E : Nat} (h : PtS X x E pg made lat ro db D) : X.1 x = some (.inr (4, [.ref (x + 1), .ref (x + 16), .ref (x + 19), .ref (x + 22)])) := by
  obtain ⟨cnt, pa, pn, fe, g1, g2, co, li, F, O, h⟩ := h
  exact h.1
theorem LA.kp (h : LA pg made lat ro db D pgK madeK op t) : D.2.2.1 ≤ lat := by
  have h1 := h.2.2.2.2.2.2.1
  have : D.2.2.1 ≤ dlat D := Nat.le_add_right _ _
  omega
theorem LA.more (h : LA pg made lat ro db D pgK madeK op t) (ht : t + 1 ≤ 512) : LA pg made lat ro db D pgK madeK op (t + 1) := by
  obtain ⟨a, b, c, d, e, f, g, i⟩ := h
  exact ⟨a, b, c, by omega, ht, f, g, i⟩
/-- the disk changes, what was kept stays -/
theorem LA.disk (h : LA pg made lat ro db D pgK madeK op t) (ht : t + 1 ≤ 512) (hk : D'.2.2.1 = D.2.2.1) (hl : dlat D' ≤ lat) : LA pg made lat ro db D' pgK madeK op (t + 1) := by
  obtain ⟨a, b, c, d, e, f, g, i⟩ := h
  exact ⟨a, b, c, by omega, ht, f, hl, by rw [hk]; exact i⟩
theorem LA.len (h : LA pg made lat ro db D pgK madeK op t) : made ≤ 256 ∧ (∀ p, p < made → (pg p).2.2.2.length ≤ 16) ∧ ∀ w, w ≤ lat → yGd pg made (ro w) w := ⟨h.1.1.2.1, fun p hp => (h.1.1.2.2.1 p hp).2, h.1.1.2.2.2.1⟩
/-- an update -/
theorem LA.next {o : Int32 × Int64 × Bool} (h : LA pg made lat ro db D pgK madeK op t) (ht : t + 1 ≤ 512) (ho : yOn pg made lat ro o) : LA (yU pg made lat ro o).1 (yU pg made lat ro o).2.1 (lat + 1) (yU pg made lat ro o).2.2.1 db D pgK madeK (va_up op lat o) (t + 1) := by
  obtain ⟨a, b, c, d, e, f, g, i⟩ := id h
  have hkp := h.kp
  have hf := (yupd a.1 ho.1 o.1 o.2.1 o.2.2).2.1
  have hlast := yTr_fin hf a.1
  have old : yAg (yTp pg made D.2.2.1) (yTm pg made D.2.2.1) D.2.2.1 ro (yTp (yU pg made lat ro o).1 (yU pg made lat ro o).2.1 D.2.2.1) (yTm (yU pg made lat ro o).1 (yU pg made lat ro o).2.1 D.2.2.1) (yU pg made lat ro o).2.2.1 :=
    (yTr_ag hlast hkp).symm.trans (yTr_tr (pg := (yU pg made lat ro o).1) (made := (yU pg made lat ro o).2.1) (ro := (yU pg made lat ro o).2.2.1) hkp)
  refine ⟨a.next ho, b.U _ _ _ _, c, by omega, ht, by omega, by omega, ?_⟩
  have hr : ∀ w, w ≤ lat → (yU pg made lat ro o).2.2.1 w = ro w := hf.2.2.2.2.1
  have z := old.symm.trans i
  exact ⟨z.1, z.2.1, fun w hw => rfl⟩
theorem tref_rfs (h : LA pg made lat ro db D pgK madeK op t) : tref pg made lat ro = rfs pg made lat ro := by
  obtain ⟨l, n, h1, -⟩ := h.1.1.2.2.2.1 lat (Nat.le_refl _)
  unfold tref
  rw [tpn_nI h1 h.1.1.2.1, decide_eq_false (show ¬ 800 ≤ lat by have := h.2.2.2.1; have := h.2.2.2.2.1; omega), Bool.or_false]
end LD
