/-! rows that write the store, and that make cells -/
section QS
variable {l : Launch} {s0 : State} {C : qC} {μ : qM} {rm : Room} {Qp : Option Value → qX → Prop} {Ep : String → qX → Prop} {k n : Nat} {X : qX} {pc : Nat} {L : List (Nat × Value)} {st : List Value}
theorem qlocs {s0 : State} {locs : List Loc} {a i : Nat} (hL : ∀ q ∈ locs, s0.heap.size ≤ q.base) (ha : s0.heap.size ≤ a) : ∀ q ∈ locs ++ [(⟨a, i⟩ : Loc)], s0.heap.size ≤ q.base := by
  intro q hq
  rcases List.mem_append.mp hq with h | h
  · exact hL q h
  · rw [List.mem_singleton] at h
    subst h
    exact ha
set_option maxHeartbeats 2000000 in
theorem v_put (B : qB l s0 C) {ci j a : Nat} {fs : List Value} {v : Value} (hi : qPut μ pc ci j) (ha : X.1 a = some (.inr (ci, fs))) (hjl : j < fs.length) (hn : narrow (qtt ci j) v = v) (hfit : fits (qtt ci j) v = true)
    (K : qV l s0 C μ rm Qp Ep k n (qset X a (.inr (ci, fs.set j v))) (pc + 3) L st) : qV l s0 C μ rm Qp Ep k n X pc L (v :: .ref a :: st) := by
  intro p e s m args below meth c G H locs ls hR hL hl
  have KK := K p e s m args below meth c G
  obtain ⟨ix, ⟨Cn, T, N⟩, hd, hr, hj, hdc, hfin, hlk⟩ := hi
  obtain ⟨hx, hb, hml, hrt, hlocks, hown, hex, hnm, hW, hs1, hs2⟩ := G
  have hts := qts B (A := args) hr hW
  have hKn := B.K hr hW
  have hK : va_K C.1 qcl [] s := ⟨fun c q h => B.K h hW, fun k q h => by simp at h⟩
  obtain ⟨hn1, hn2, -⟩ := qcl_nm hr
  have hap := va_apart (own := μ.1.cls) hts (fun _ h => h) (qtt ci) hn2 hn1 hK hr
  obtain ⟨ha0, r, h1, cell, q1, q2, q3, q4⟩ := hR.2.2.2 a _ ha
  cases Option.some.inj (h1.symm.trans hr)
  obtain ⟨hS, hfc, kC, hkC, hkind⟩ := hKn
  obtain ⟨cf, kf, fi, f, hif, hsl⟩ := hS j hj
  have hst := (u_facts hfc hkC (u_lays hts (fun _ h => h) hj) hif).1
  have hlay := hts _ (u_in_lay hj)
  unfold u_lay at hlay
  have fin : ∀ (H' : Heap), H'[a]? = some (cell.setSlot (C.1.2 ci j) v) → H'.size = H.size → (∀ q : Nat, q ≠ a → H'[q]? = H[q]?) → qR C s0 (qset X a (.inr (ci, fs.set j v))) H' := fun H' e1 e2 e3 =>
    hR.set ha ⟨_, hr, t_OB.to (V := updV (vp_V fs) j v) ⟨_, e1, q2, q3, t_set q4 hap hj v⟩ (fun j _ => vp_updV_set hjl v j)⟩ e2 e3
  by_cases hf : (T j).2.2.2 = true
  · rcases hfin with h | ⟨h2, h3⟩
    · exact absurd hf (by rw [h]; decide)
    rw [if_pos hf] at hlay
    have hcf : m.cls = cf := by
      obtain ⟨_, _, c', _, _, _, -, -, hf', -, -, -, hown2, -⟩ := Cond.laysFinal_spec hlay
      have e1 : c' = cf := by have := hif.symm.trans hf'; simp at this; exact this.1.symm
      have h4 : (T j).1 = μ.1.cls := hdc.trans h3
      rw [h4] at hown2
      rw [← e1]; exact Option.some.inj (hown.symm.trans hown2)
    have h6 := u_fits hfc hkC hkind (Or.inr hlay) hif (hn2 j hj) hn hfit
    rcases hlk with ⟨hw, hg⟩ | ⟨h9, -⟩
    · refine W.putFinK hx hb hown (qword_at B hw hg hW) (by have h9 := hif; rw [hdc] at h9; exact h9) hst hcf (hnm.trans h2) (by rw [q2]; exact h6) q1 q3 (by rw [hsl]; exact k2_hasslot (q4 j hj)) rfl rfl hd fun H' e1 e2 e3 => ?_
      rw [hsl] at e1
      exact KK H' _ ls (fin H' e1 e2 e3) (qlocs hL ha0) hl
    · exact absurd hf (by rw [h9]; decide)
  · rw [if_neg hf] at hlay
    have h6 := u_store hfc hkC hkind hlay hif (hn2 j hj) hn hfit
    rcases hlk with ⟨hw, hg⟩ | ⟨-, host, hw⟩
    · refine W.putK hx hb (f := f) ⟨hown, qword_at B hw hg hW, ⟨_, _, _, (by have h9 := hif; rw [hdc] at h9; exact h9)⟩, hst⟩ (by rw [q2]; exact h6) q1 q3 (by rw [hsl]; exact k2_hasslot (q4 j hj)) rfl rfl hd fun H' e1 e2 e3 => ?_
      rw [hsl] at e1
      exact KK H' _ ls (fin H' e1 e2 e3) (qlocs hL ha0) hl
    · refine va_WputK hx hb (f := f) hown (B.nest hw hW) (by have h9 := hif; rw [hdc] at h9; exact h9) hst (by rw [q2]; exact h6) q1 q3 (by rw [hsl]; exact k2_hasslot (q4 j hj)) rfl rfl hd fun H' e1 e2 e3 => ?_
      rw [hsl] at e1
      exact KK H' _ ls (fin H' e1 e2 e3) (qlocs hL ha0) hl
/-- arrays are read -/
theorem v_iald (B : qB l s0 C) {a N j : Nat} {f : Nat → Int32} {i : Int32} (ha : X.1 a = some (.inl (0, N, .inl f))) (hij : i = nI j) (hj : j < N) (hN : N < 2 ^ 31) (hd : decode μ.2.1 pc = .ok (.iaload, 1))
    (K : qV l s0 C μ rm Qp Ep k n X (pc + 1) L (.int (f j) :: st)) : qV l s0 C μ rm Qp Ep k n X pc L (.int i :: .ref a :: st) := by
  intro p e s m args below meth c G H locs ls hR hL hl
  have KK := K p e s m args below meth c G H locs ls hR hL hl
  subst hij
  have hc : H[a]? = some (arrV (C.2 0) N (fun j => .int (f j))) := (hR.2.2.2 a _ ha).2
  have e1 : (nI j).toNatClampNeg = j := nI_clamp (by omega)
  refine W.iald (v := .int (f j)) G.1 G.2.1 hc ((B.A (t := 0) rfl G.2.2.2.2.2.2.2.2.1).1 N _) (fun q => by cases q) ?_ ?_ rfl rfl hd KK
  · rw [arrV_size]; exact nI_in hj hN
  · rw [e1, arrV_read _ _ hj]
theorem v_lald (B : qB l s0 C) {a N j : Nat} {f : Nat → Int64} {i : Int32} (ha : X.1 a = some (.inl (1, N, .inr (.inl f)))) (hij : i = nI j) (hj : j < N) (hN : N < 2 ^ 31) (hd : decode μ.2.1 pc = .ok (.laload, 1))
    (K : qV l s0 C μ rm Qp Ep k n X (pc + 1) L (.long (f j) :: st)) : qV l s0 C μ rm Qp Ep k n X pc L (.int i :: .ref a :: st) := by
  intro p e s m args below meth c G H locs ls hR hL hl
  have KK := K p e s m args below meth c G H locs ls hR hL hl
  subst hij
  have hc : H[a]? = some (arrV (C.2 1) N (fun j => .long (f j))) := (hR.2.2.2 a _ ha).2
  have e1 : (nI j).toNatClampNeg = j := nI_clamp (by omega)
  refine W.lald (v := .long (f j)) G.1 G.2.1 hc ((B.A (t := 1) rfl G.2.2.2.2.2.2.2.2.1).1 N _) (fun q => by cases q) ?_ ?_ rfl rfl hd KK
  · rw [arrV_size]; exact nI_in hj hN
  · rw [e1, arrV_read _ _ hj]
theorem v_zald (B : qB l s0 C) {a N j : Nat} {f : Nat → Int32} {i : Int32} (ha : X.1 a = some (.inl (2, N, .inl f))) (hij : i = nI j) (hj : j < N) (hN : N < 2 ^ 31) (hd : decode μ.2.1 pc = .ok (.baload, 1))
    (K : qV l s0 C μ rm Qp Ep k n X (pc + 1) L (.int (f j) :: st)) : qV l s0 C μ rm Qp Ep k n X pc L (.int i :: .ref a :: st) := by
  intro p e s m args below meth c G H locs ls hR hL hl
  have KK := K p e s m args below meth c G H locs ls hR hL hl
  subst hij
  have hc : H[a]? = some (arrV (C.2 2) N (fun j => .int (f j))) := (hR.2.2.2 a _ ha).2
  have e1 : (nI j).toNatClampNeg = j := nI_clamp (by omega)
  refine W.zald (v := .int (f j)) G.1 G.2.1 hc ((B.A (t := 2) rfl G.2.2.2.2.2.2.2.2.1).1 N _) (fun q => by cases q) ?_ ?_ rfl rfl hd KK
  · rw [arrV_size]; exact nI_in hj hN
  · rw [e1, arrV_read _ _ hj]
theorem v_aald (B : qB l s0 C) {a N j : Nat} {f : Nat → Option Nat} {i : Int32} (ha : X.1 a = some (.inl (3, N, .inr (.inr (.inr (.inr f)))))) (hij : i = nI j) (hj : j < N) (hN : N < 2 ^ 31) (hd : decode μ.2.1 pc = .ok (.aaload, 1))
    (K : qV l s0 C μ rm Qp Ep k n X (pc + 1) L (va_rf (f j) :: st)) : qV l s0 C μ rm Qp Ep k n X pc L (.int i :: .ref a :: st) := by
  intro p e s m args below meth c G H locs ls hR hL hl
  have KK := K p e s m args below meth c G H locs ls hR hL hl
  subst hij
  have hc : H[a]? = some (arrV (C.2 3) N (fun j => va_rf (f j))) := (hR.2.2.2 a _ ha).2
  have e1 : (nI j).toNatClampNeg = j := nI_clamp (by omega)
  refine W.aald (v := va_rf (f j)) (ty := .object "PastTree$Page") G.1 G.2.1 hc ((B.A (t := 3) rfl G.2.2.2.2.2.2.2.2.1).1 N _) rfl (fun q => by cases q) ?_ ?_ rfl rfl hd KK
  · rw [arrV_size]; exact nI_in hj hN
  · rw [e1, arrV_read _ _ hj]
theorem v_alen (B : qB l s0 C) {a t N : Nat} {ty : FieldType} {f : (Nat → Int32) ⊕ (Nat → Int64) ⊕ (Nat → UInt32) ⊕ (Nat → UInt64) ⊕ (Nat → Option Nat)} (ha : X.1 a = some (.inl (t, N, f))) (ht : qty[t]? = some ty) (hd : decode μ.2.1 pc = .ok (.arraylength, 1))
    (K : qV l s0 C μ rm Qp Ep k n X (pc + 1) L (.int (nI N) :: st)) : qV l s0 C μ rm Qp Ep k n X pc L (.ref a :: st) := by
  intro p e s m args below meth c G H locs ls hR hL hl
  have KK := K p e s m args below meth c G H locs ls hR hL hl
  have hA := (B.A ht G.2.2.2.2.2.2.2.2.1).1
  have hc : H[a]? = some (vp_cell (C.2 t) (N, f)) := (hR.2.2.2 a _ ha).2
  obtain ⟨z, hz⟩ : ∃ z : Nat → Value, vp_cell (C.2 t) (N, f) = arrV (C.2 t) N z := by
    match f with
    | .inl f => exact ⟨_, vp_cell_i _ _ _⟩
    | .inr (.inl f) => exact ⟨_, vp_cell_l _ _ _⟩
    | .inr (.inr (.inl f)) => exact ⟨_, vp_cell_f _ _ _⟩
    | .inr (.inr (.inr (.inl f))) => exact ⟨_, vp_cell_d _ _ _⟩
    | .inr (.inr (.inr (.inr f))) => exact ⟨_, vp_cell_q _ _ _⟩
  rw [hz] at hc
  exact W.alen (n := nI N) G.1 G.2.1 hc (hA N z) (by rw [arrV_size]; rfl) rfl rfl hd KK
/-- arrays are written -/
theorem v_iast (B : qB l s0 C) {a N j : Nat} {f : Nat → Int32} {i x : Int32} (ha : X.1 a = some (.inl (0, N, .inl f))) (hij : i = nI j) (hj : j < N) (hN : N < 2 ^ 31) (hd : decode μ.2.1 pc = .ok (.iastore, 1))
    (K : qV l s0 C μ rm Qp Ep k n (qset X a (.inl (0, N, .inl (upd f j x)))) (pc + 1) L st) : qV l s0 C μ rm Qp Ep k n X pc L (.int x :: .int i :: .ref a :: st) := by
  intro p e s m args below meth c G H locs ls hR hL hl
  subst hij
  obtain ⟨ha0, hc⟩ := hR.2.2.2 a _ ha
  have hc : H[a]? = some (arrV (C.2 0) N (fun j => .int (f j))) := hc
  have e1 : (nI j).toNatClampNeg = j := nI_clamp (by omega)
  refine W.iast G.1 G.2.1 hc ((B.A (t := 0) rfl G.2.2.2.2.2.2.2.2.1).1 N _) (fun q => by cases q) (by rw [arrV_size]; exact nI_in hj hN) rfl rfl hd fun H1 q1 q2 q3 => ?_
  refine K p e s m args below meth c G H1 _ ls (hR.set ha ?_ q2 q3) (qlocs hL ha0) hl
  show H1[a]? = some (vp_cell (C.2 0) (N, .inl (upd f j x)))
  rw [q1, e1, vp_cell_i, arrV_store]
  congr 2
  funext q
  by_cases hq : q = j
  · subst hq; simp [updV, upd]
  · simp [updV, upd, hq]
theorem v_last (B : qB l s0 C) {a N j : Nat} {f : Nat → Int64} {i : Int32} {x : Int64} (ha : X.1 a = some (.inl (1, N, .inr (.inl f)))) (hij : i = nI j) (hj : j < N) (hN : N < 2 ^ 31) (hd : decode μ.2.1 pc = .ok (.lastore, 1))
    (K : qV l s0 C μ rm Qp Ep k n (qset X a (.inl (1, N, .inr (.inl (vp_updL f j x))))) (pc + 1) L st) : qV l s0 C μ rm Qp Ep k n X pc L (.long x :: .int i :: .ref a :: st) := by
  intro p e s m args below meth c G H locs ls hR hL hl
  subst hij
  obtain ⟨ha0, hc⟩ := hR.2.2.2 a _ ha
  have hc : H[a]? = some (arrV (C.2 1) N (fun j => .long (f j))) := hc
  have e1 : (nI j).toNatClampNeg = j := nI_clamp (by omega)
  refine W.last G.1 G.2.1 hc ((B.A (t := 1) rfl G.2.2.2.2.2.2.2.2.1).1 N _) (fun q => by cases q) (by rw [arrV_size]; exact nI_in hj hN) rfl rfl hd fun H1 q1 q2 q3 => ?_
  refine K p e s m args below meth c G H1 _ ls (hR.set ha ?_ q2 q3) (qlocs hL ha0) hl
  show H1[a]? = some (vp_cell (C.2 1) (N, .inr (.inl (vp_updL f j x))))
  rw [q1, e1, vp_cell_l, arrV_store]
  congr 2
  funext q
  by_cases hq : q = j
  · subst hq; simp [updV, vp_updL]
  · simp [updV, vp_updL, hq]
theorem v_zast (B : qB l s0 C) {a N j : Nat} {f : Nat → Int32} {i x : Int32} (ha : X.1 a = some (.inl (2, N, .inl f))) (hij : i = nI j) (hj : j < N) (hN : N < 2 ^ 31) (hx : x = 0 ∨ x = 1) (hd : decode μ.2.1 pc = .ok (.bastore, 1))
    (K : qV l s0 C μ rm Qp Ep k n (qset X a (.inl (2, N, .inl (upd f j x)))) (pc + 1) L st) : qV l s0 C μ rm Qp Ep k n X pc L (.int x :: .int i :: .ref a :: st) := by
  intro p e s m args below meth c G H locs ls hR hL hl
  subst hij
  obtain ⟨ha0, hc⟩ := hR.2.2.2 a _ ha
  have hc : H[a]? = some (arrV (C.2 2) N (fun j => .int (f j))) := hc
  have e1 : (nI j).toNatClampNeg = j := nI_clamp (by omega)
  have hnr : narrow .boolean (.int x) = .int x := by rcases hx with rfl | rfl <;> rfl
  refine W.zast G.1 G.2.1 hc ((B.A (t := 2) rfl G.2.2.2.2.2.2.2.2.1).1 N _) (fun q => by cases q) (by rw [arrV_size]; exact nI_in hj hN) rfl rfl hd fun H1 q1 q2 q3 => ?_
  refine K p e s m args below meth c G H1 _ ls (hR.set ha ?_ q2 q3) (qlocs hL ha0) hl
  show H1[a]? = some (vp_cell (C.2 2) (N, .inl (upd f j x)))
  rw [q1, e1, hnr, vp_cell_i, arrV_store]
  congr 2
  funext q
  by_cases hq : q = j
  · subst hq; simp [updV, upd]
  · simp [updV, upd, hq]
/-- a page's reference goes into an array of pages -/
theorem v_aast (B : qB l s0 C) {a N j b : Nat} {f : Nat → Option Nat} {fs : List Value} {i : Int32} (ha : X.1 a = some (.inl (3, N, .inr (.inr (.inr (.inr f)))))) (hv : X.1 b = some (.inr (1, fs))) (hij : i = nI j) (hj : j < N) (hN : N < 2 ^ 31) (hd : decode μ.2.1 pc = .ok (.aastore, 1))
    (K : qV l s0 C μ rm Qp Ep k n (qset X a (.inl (3, N, .inr (.inr (.inr (.inr (va_up f j (some b)))))))) (pc + 1) L st) : qV l s0 C μ rm Qp Ep k n X pc L (.ref b :: .int i :: .ref a :: st) := by
  intro p e s m args below meth c G H locs ls hR hL hl
  subst hij
  obtain ⟨ha0, hc⟩ := hR.2.2.2 a _ ha
  have hc : H[a]? = some (arrV (C.2 3) N (fun j => va_rf (f j))) := hc
  have e1 : (nI j).toNatClampNeg = j := nI_clamp (by omega)
  obtain ⟨r, h1, cell, q1, q2, q3, -⟩ := (hR.2.2.2 b _ hv).2
  have hW := G.2.2.2.2.2.2.2.2.1
  obtain ⟨-, hfc, kC, hkC, hkind⟩ := B.K (c := 1) rfl hW
  obtain ⟨kA, comp, hA1, hA2, hA3, -⟩ := (B.A (t := 3) rfl hW).2
  cases Option.some.inj (hfc.symm.trans hA3)
  refine W.aast G.1 G.2.1 (cv := cell) (kv := kC) (kcomp := kC) hc (fun q h => by cases h) (fun q => by cases q) hA1 hA2 rfl hkC ⟨?_, ?_⟩ q1 (fun q h => by rw [q3] at h; cases h) (by rw [q2]; exact hkC) (by rw [q2]; exact va_assign ⟨hfc, kC, hkC, hkind⟩) rfl rfl hd fun H1 q1 q2 q3 => ?_
  · exact nI_pos (by omega)
  · rw [e1, arrV_size]; exact hj
  refine K p e s m args below meth c G H1 _ ls (hR.set ha ?_ q2 q3) (qlocs hL ha0) hl
  show H1[a]? = some (vp_cell (C.2 3) (N, .inr (.inr (.inr (.inr (va_up f j (some b)))))))
  rw [q1, e1, vp_cell_q, arrV_store]
  congr 2
  funext q
  by_cases hq : q = j
  · subst hq; simp [updV, va_up, va_rf]
  · simp [updV, va_up, hq]
/-- at pc an object is made -/
def qNew (μ : qM) (pc ci : Nat) : Prop := ∃ (ix : Nat) (r : vw_C), decode μ.2.1 pc = .ok (.new ix, 3) ∧ qcl[ci]? = some r ∧ (Cond.classLink μ.1.cls ix r.1 ∈ lw_tbl ∧ goodWord (Cond.classLink μ.1.cls ix r.1) = true) ∧ (Cond.instantiable r.1 r.2.2 ∈ lw_tbl ∧ goodWord (Cond.instantiable r.1 r.2.2) = true) ∧ (Cond.initialized r.1 ∈ lw_tbl ∧ goodWord (Cond.initialized r.1) = true)
set_option maxHeartbeats 1000000 in
theorem v_new (B : qB l s0 C) {ci N : Nat} (hi : qNew μ pc ci) (hN : (qcl[ci]?).map (fun r => r.2.2) = some N) (hk : k + 1 ≤ rm.cells) (hm : n + N ≤ rm.slots)
    (K : qV l s0 C μ rm Qp Ep (k + 1) (n + N) (qnew X (.inr (ci, qz ci))) (pc + 3) L (.ref X.2 :: st)) : qV l s0 C μ rm Qp Ep k n X pc L st := by
  intro p e s m args below meth c G H locs ls hR hL hl
  have KK := K p e s m args below meth c G
  obtain ⟨ix, ⟨Cn, T, N'⟩, hd, hr, hw1, hw2, hw3⟩ := hi
  rw [hr] at hN
  cases hN
  obtain ⟨hx, hb, hml, hrt, hlocks, hown, hex, hnm, hW, hs1, hs2⟩ := G
  have hts := qts B (A := args) hr hW
  have hKn := B.K hr hW
  have hci : ci < 6 := by
    rcases Nat.lt_or_ge ci 6 with h | h
    · exact h
    · rw [List.getElem?_eq_none (show qcl.length ≤ ci from h)] at hr; cases hr
  refine W.newcK hx hb hown (qword_at B hw1.1 hw1.2 hW) (qword_at B hw2.1 hw2.2 hW) (qword_at B hw3.1 hw3.2 hW) rfl hd hk hm hKn.2.1 rfl fun H1 kC hkC e1 z1 o1 => ?_
  have hR' : qR C s0 (qnew X (.inr (ci, qz ci))) H1 := hR.push ⟨_, hr, (u_born (qtt ci) hts (fun _ h => h) hKn hkC e1 (qcl_nm hr).2.1).to (qz_ok ci hci _ hr)⟩ z1 o1
  have KKK := KK H1 locs ls hR' hL hl
  rw [← hR.1] at KKK
  exact KKK
/-- arrays of numbers are made -/
def qt0 (t N : Nat) : vp_A := if t = 1 then (N, .inr (.inl (fun _ => 0))) else (N, .inl (fun _ => 0))
theorem v_newa (B : qB l s0 C) {ty : ArrayType} {t N : Nat} {i : Int32} (hty : (ty = .int ∧ t = 0) ∨ (ty = .long ∧ t = 1) ∨ (ty = .boolean ∧ t = 2)) (hd : decode μ.2.1 pc = .ok (.newarray ty, 2)) (hw : Cond.arrayClass (newarray.typeOf ty) ∈ lw_tbl) (hi : i = nI N) (hN : N < 100000) (hk : k + 1 ≤ rm.cells) (hm : n + N ≤ rm.slots)
    (K : qV l s0 C μ rm Qp Ep (k + 1) (n + N) (qnew X (.inl (t, qt0 t N))) (pc + 2) L (.ref X.2 :: st)) : qV l s0 C μ rm Qp Ep k n X pc L (.int i :: st) := by
  intro p e s m args below meth c G H locs ls hR hL hl
  subst hi
  have hW := G.2.2.2.2.2.2.2.2.1
  have hcl : (nI N).toNatClampNeg = N := nI_clamp (by omega)
  have hqt : qty[t]? = some (newarray.typeOf ty) := by rcases hty with ⟨rfl, rfl⟩ | ⟨rfl, rfl⟩ | ⟨rfl, rfl⟩ <;> rfl
  have hcb : componentBytes (newarray.typeOf ty) ≤ 8 := by rcases hty with ⟨rfl, rfl⟩ | ⟨rfl, rfl⟩ | ⟨rfl, rfl⟩ <;> decide
  have hdv : ∀ cA : ClassId, vp_cell cA (qt0 t N) = arrV cA N (fun _ => defaultValue (newarray.typeOf ty)) := by rcases hty with ⟨rfl, rfl⟩ | ⟨rfl, rfl⟩ | ⟨rfl, rfl⟩ <;> intro cA <;> rfl
  refine va_newaK G.1 G.2.1 (qword_at B hw rfl hW) rfl hd rfl (nI_pos (by omega)) hcl ?_ hk hm rfl fun H1 cA e1 z1 o1 hAr hNm => ?_
  · have := Nat.mul_le_mul (Nat.le_of_lt hN) hcb
    omega
  have hcA : cA = C.2 t := by
    have h9 := (B.A hqt hW).2
    have h8 : s.vm.findClass ("[" ++ (newarray.typeOf ty).toString) = some (C.2 t) := by rcases hty with ⟨rfl, rfl⟩ | ⟨rfl, rfl⟩ | ⟨rfl, rfl⟩ <;> exact h9
    exact Option.some.inj (hNm.symm.trans h8)
  have hR' : qR C s0 (qnew X (.inl (t, qt0 t N))) H1 := by
    refine hR.push ?_ z1 o1
    show H1[H.size]? = some (vp_cell (C.2 t) (qt0 t N))
    rw [hdv, ← hcA]; exact e1
  have KKK := K p e s m args below meth c G H1 locs ls hR' hL hl
  rw [← hR.1] at KKK
  exact KKK
end QS
