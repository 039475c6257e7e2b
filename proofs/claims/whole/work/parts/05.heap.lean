/-! rows that read and write the store -/
def qset (X : qX) (a : Nat) (e : qEn) : qX := (va_up X.1 a (some e), X.2)
def qnew (X : qX) (e : qEn) : qX := (va_up X.1 X.2 (some e), X.2 + 1)
theorem qset_self (X : qX) (a : Nat) (e : qEn) : (qset X a e).1 a = some e := va_up_self _ _ _
theorem qset_ne (X : qX) {a b : Nat} (e : qEn) (h : b ≠ a) : (qset X a e).1 b = X.1 b := va_up_ne _ _ h
theorem qset_2 (X : qX) (a : Nat) (e : qEn) : (qset X a e).2 = X.2 := rfl
theorem qnew_self (X : qX) (e : qEn) : (qnew X e).1 X.2 = some e := va_up_self _ _ _
theorem qnew_ne (X : qX) {b : Nat} (e : qEn) (h : b ≠ X.2) : (qnew X e).1 b = X.1 b := va_up_ne _ _ h
theorem qnew_2 (X : qX) (e : qEn) : (qnew X e).2 = X.2 + 1 := rfl
theorem qR.lt {C : qC} {s0 : State} {X : qX} {H : Heap} (h : qR C s0 X H) {a : Nat} {e : qEn} (ha : X.1 a = some e) : a < X.2 := by
  have := (h.2.2.2 a e ha).2.lt
  rw [← h.1]; exact this
/-- one cell is written -/
theorem qR.set {C : qC} {s0 : State} {X : qX} {H H1 : Heap} (h : qR C s0 X H) {a : Nat} {e0 e : qEn} (ha : X.1 a = some e0) (he : va_at C.1 qcl (a, qw C e) H1) (hz : H1.size = H.size) (oq : ∀ q : Nat, q ≠ a → H1[q]? = H[q]?) : qR C s0 (qset X a e) H1 := by
  obtain ⟨h1, h2, h3, h4⟩ := h
  have ha0 := (h4 a e0 ha).1
  refine ⟨by rw [hz]; exact h1, by rw [hz]; exact h2, fun q hq => by rw [oq q (by omega)]; exact h3 q hq, fun b e9 hb => ?_⟩
  by_cases hba : b = a
  · subst hba
    rw [qset_self] at hb
    cases hb
    exact ⟨ha0, he⟩
  · rw [qset_ne X e hba] at hb
    exact ⟨(h4 b e9 hb).1, (h4 b e9 hb).2.kept (oq b hba)⟩
/-- one cell comes -/
theorem qR.push {C : qC} {s0 : State} {X : qX} {H H1 : Heap} (h : qR C s0 X H) {e : qEn} (he : va_at C.1 qcl (H.size, qw C e) H1) (hz : H1.size = H.size + 1) (oq : ∀ q : Nat, q < H.size → H1[q]? = H[q]?) : qR C s0 (qnew X e) H1 := by
  obtain ⟨h1, h2, h3, h4⟩ := h
  refine ⟨by rw [hz, h1]; rfl, by omega, fun q hq => by rw [oq q (by omega)]; exact h3 q hq, fun b e9 hb => ?_⟩
  by_cases hba : b = X.2
  · subst hba
    rw [qnew_self] at hb
    cases hb
    rw [h1] at he
    exact ⟨by omega, he⟩
  · rw [qnew_ne X e hba] at hb
    have hlt : b < H.size := (h4 b e9 hb).2.lt
    exact ⟨(h4 b e9 hb).1, (h4 b e9 hb).2.kept (oq b hlt)⟩
theorem qB.K {l : Launch} {s0 : State} {C : qC} (B : qB l s0 C) {c : Nat} {q : vw_C} (h : qcl[c]? = some q) {U : State} (hW : s0.WarmedH U.vm) : u_Kn U q.1 q.2.1 q.2.2 (C.1.1 c) (C.1.2 c) := u_Kn_moved hW.alike (B.2.2.1 c q h)
theorem qB.A {l : Launch} {s0 : State} {C : qC} (B : qB l s0 C) {t : Nat} {ty : FieldType} (h : qty[t]? = some ty) {U : State} (hW : s0.WarmedH U.vm) : ArrOfT U (C.2 t) ty ∧ va_RA U (C.2 t) ty := ⟨arrOfT_moved hW.alike (B.2.2.2 t ty h).1, (B.2.2.2 t ty h).2.moved hW.alike⟩
theorem qB.nest {l : Launch} {s0 : State} {C : qC} (B : qB l s0 C) {a : String} {i : Nat} {b n d h : String} (hw : Cond.fieldLinkNest a i b n d h ∈ lw_tbl) {U : State} {A : Array Value} (hW : s0.WarmedH U.vm) : (Cond.fieldLinkNest a i b n d h).before A U = true := by
  obtain ⟨-, ⟨A0, h1, -⟩, -⟩ := B
  exact va_Nw.use rfl (va_Nw.warmF hW (va_Nw.of rfl (h1 _ hw)))
/-- at pc a field is read: class number, field number -/
def qGet (μ : qM) (pc ci j : Nat) : Prop := ∃ (ix : Nat) (r : vw_C), decode μ.2.1 pc = .ok (.getfield ix, 3) ∧ qcl[ci]? = some r ∧ j < r.2.2 ∧ (r.2.1 j).1 = r.1 ∧
  ((Cond.fieldLink μ.1.cls ix r.1 (r.2.1 j).2.1 (r.2.1 j).2.2.1 ∈ lw_tbl ∧ goodWord (Cond.fieldLink μ.1.cls ix r.1 (r.2.1 j).2.1 (r.2.1 j).2.2.1) = true) ∨ ∃ host : String, Cond.fieldLinkNest μ.1.cls ix r.1 (r.2.1 j).2.1 (r.2.1 j).2.2.1 host ∈ lw_tbl)
def qPut (μ : qM) (pc ci j : Nat) : Prop := ∃ (ix : Nat) (r : vw_C), decode μ.2.1 pc = .ok (.putfield ix, 3) ∧ qcl[ci]? = some r ∧ j < r.2.2 ∧ (r.2.1 j).1 = r.1 ∧ ((r.2.1 j).2.2.2 = false ∨ (μ.1.name = "<init>" ∧ r.1 = μ.1.cls)) ∧
  ((Cond.fieldLink μ.1.cls ix r.1 (r.2.1 j).2.1 (r.2.1 j).2.2.1 ∈ lw_tbl ∧ goodWord (Cond.fieldLink μ.1.cls ix r.1 (r.2.1 j).2.1 (r.2.1 j).2.2.1) = true) ∨ ((r.2.1 j).2.2.2 = false ∧ ∃ host : String, Cond.fieldLinkNest μ.1.cls ix r.1 (r.2.1 j).2.1 (r.2.1 j).2.2.1 host ∈ lw_tbl))
section QH
variable {l : Launch} {s0 : State} {C : qC} {μ : qM} {rm : Room} {Qp : Option Value → qX → Prop} {Ep : String → qX → Prop} {k n : Nat} {X : qX} {pc : Nat} {L : List (Nat × Value)} {st : List Value}
theorem qts {l : Launch} {s0 : State} {C : qC} (B : qB l s0 C) {c : Nat} {r : vw_C} (h : qcl[c]? = some r) {U : State} {A : Array Value} (hW : s0.WarmedH U.vm) : ∀ w ∈ u_ws r.1 r.2.1 r.2.2, w.before A U = true := by
  intro w hw
  refine qword_at B ((qcl_nm h).2.2 w hw) ?_ hW
  obtain ⟨j, -, rfl⟩ := List.mem_map.mp hw
  unfold u_lay
  split <;> rfl
set_option maxHeartbeats 1000000 in
theorem v_get (B : qB l s0 C) {ci j a : Nat} {fs : List Value} {v : Value} (hi : qGet μ pc ci j) (ha : X.1 a = some (.inr (ci, fs))) (hv : fs[j]? = some v) (K : qV l s0 C μ rm Qp Ep k n X (pc + 3) L (v :: st)) : qV l s0 C μ rm Qp Ep k n X pc L (.ref a :: st) := by
  intro p e s m args below meth c G H locs ls hR hL hl
  have KK := K p e s m args below meth c G H locs ls hR hL hl
  obtain ⟨ix, ⟨Cn, T, N⟩, hd, hr, hj, hdc, hlk⟩ := hi
  obtain ⟨hx, hb, hml, hrt, hlocks, hown, hex, hnm, hW, hs1, hs2⟩ := G
  have hts := qts B (A := args) hr hW
  have hKn := B.K hr hW
  obtain ⟨r, h1, cell, q1, q2, q3, q4⟩ := (hR.2.2.2 a _ ha).2
  cases Option.some.inj (h1.symm.trans hr)
  obtain ⟨hS, hfc, kC, hkC, hkind⟩ := hKn
  obtain ⟨cf, kf, fi, f, hif, hsl⟩ := hS j hj
  have hv9 : cell.slots[f.slot]? = some v := by
    rw [hsl, q4 j hj]
    show some (vp_V fs j) = some v
    unfold vp_V
    rw [List.getD_eq_getElem?_getD, hv]; rfl
  have hfc2 := (u_facts hfc hkC (u_lays hts (fun _ h => h) hj) hif).1
  rcases hlk with ⟨hw, hg⟩ | ⟨host, hw⟩
  · exact W.getf hx hb hown (qword_at B hw hg hW) (by have h9 := hif; rw [hdc] at h9; exact h9) hfc2 q1 (by rw [q3]; exact fun h => by cases h) hv9 rfl rfl hd KK
  · exact va_Wgetf hx hb hown (B.nest hw hW) (by have h9 := hif; rw [hdc] at h9; exact h9) hfc2 q1 (by rw [q3]; exact fun h => by cases h) hv9 rfl rfl hd KK
end QH
