/-! the law: calls of the class, with what they throw -/
theorem wl_S : qIn (Cond.classLink "PastTreeLaw" (13 : Nat) "java/lang/IllegalStateException") := ⟨List.mem_of_getElem? (i := 236) (by decide +kernel), rfl⟩
theorem cs_S : Cond.castable "java/lang/IllegalStateException" "java/lang/IllegalStateException" ∈ lw_tbl := List.mem_of_getElem? (i := 248) (by decide +kernel)
theorem wl_U : qIn (Cond.classLink "PastTreeLaw" (15 : Nat) "java/lang/UnsupportedOperationException") := ⟨List.mem_of_getElem? (i := 237) (by decide +kernel), rfl⟩
theorem cs_U : Cond.castable "java/lang/UnsupportedOperationException" "java/lang/UnsupportedOperationException" ∈ lw_tbl := List.mem_of_getElem? (i := 467) (by decide +kernel)
theorem wl_N : qIn (Cond.classLink "PastTreeLaw" (21 : Nat) "java/util/NoSuchElementException") := ⟨List.mem_of_getElem? (i := 484) (by decide +kernel), rfl⟩
theorem cs_N : Cond.castable "java/util/NoSuchElementException" "java/util/NoSuchElementException" ∈ lw_tbl := List.mem_of_getElem? (i := 499) (by decide +kernel)
theorem wl_I : qIn (Cond.classLink "PastTreeLaw" (31 : Nat) "java/lang/IndexOutOfBoundsException") := ⟨List.mem_of_getElem? (i := 523) (by decide +kernel), rfl⟩
theorem cs_I : Cond.castable "java/lang/IndexOutOfBoundsException" "java/lang/IndexOutOfBoundsException" ∈ lw_tbl := List.mem_of_getElem? (i := 534) (by decide +kernel)
theorem wl_A : qIn (Cond.classLink "PastTreeLaw" (52 : Nat) "java/lang/IllegalArgumentException") := ⟨List.mem_of_getElem? (i := 589) (by decide +kernel), rfl⟩
theorem cs_A : Cond.castable "java/lang/IllegalArgumentException" "java/lang/IllegalArgumentException" ∈ lw_tbl := List.mem_of_getElem? (i := 596) (by decide +kernel)
theorem nc_AI : Cond.not (.castable "java/lang/IllegalArgumentException" "java/lang/IndexOutOfBoundsException") ∈ flatC narrow_1 := by decide +kernel
theorem nc_AS : Cond.not (.castable "java/lang/IllegalArgumentException" "java/lang/IllegalStateException") ∈ flatC narrow_1 := by decide +kernel
theorem nc_IS : Cond.not (.castable "java/lang/IndexOutOfBoundsException" "java/lang/IllegalStateException") ∈ flatC narrow_1 := by decide +kernel
theorem nc_NA : Cond.not (.castable "java/util/NoSuchElementException" "java/lang/IllegalArgumentException") ∈ flatC narrow_1 := by decide +kernel
theorem nc_NI : Cond.not (.castable "java/util/NoSuchElementException" "java/lang/IndexOutOfBoundsException") ∈ flatC narrow_1 := by decide +kernel
theorem nc_NS : Cond.not (.castable "java/util/NoSuchElementException" "java/lang/IllegalStateException") ∈ flatC narrow_1 := by decide +kernel
theorem nc_UN : Cond.not (.castable "java/lang/UnsupportedOperationException" "java/util/NoSuchElementException") ∈ flatC narrow_1 := by decide +kernel
theorem nc_US : Cond.not (.castable "java/lang/UnsupportedOperationException" "java/lang/IllegalStateException") ∈ flatC narrow_1 := by decide +kernel
abbrev rmL : Room := { frames := 9, cells := 300, slots := 4000, locals := 240 }
section LC
variable {l : Launch} {s0 : State} {C : qC} {X : qX} {x o : Nat}
theorem c_L_put (B : qB l s0 C) (a0 : Int32) (a1 : Int64) {Qp : Option Value → qX → Prop} {Ep : String → qX → Prop} {fs : List Value} (hM : qMet l s0 C m_P_put rmP [.ref x, .int a0, .long a1] X Qp Ep) (hx : X.1 x = some (.inr (4, fs))) (hQ : ∀ r X', Qp r X' → (∃ z : Int32, r = some (.int z)) ∧ ∃ f, X'.1 o = some (.inl (1, 1, .inr (.inl f)))) (hE : ∀ e X', Ep e X' → e = xS ∨ e = xU) :
    qMet l s0 C m_L_put rmL [.ref x, .int a0, .long a1, .ref o] X (fun r X'' => (∃ (z : Int32) (X' : qX) (f : Nat → Int64), Qp (some (.int z)) X' ∧ X'.1 o = some (.inl (1, 1, .inr (.inl f))) ∧ X'' = qset X' o (.inl (1, 1, .inr (.inl (vp_updL f 0 (z.toInt64))))) ∧ r = some (.int 0)) ∨ (Ep xS X'' ∧ r = some (.int 1)) ∨ (Ep xU X'' ∧ r = some (.int 2))) (fun _ _ => False) := by
  refine q_of (by decide +kernel) (Nat.le_of_ble_eq_true rfl) ?_
  refine v_L (L' := [(0, .ref x), (1, .int a0), (2, .long a1), (4, .ref o)]) rfl ?_
  refine v_aload i_L_put_0 rfl ?_
  refine v_iconst (v := 0) i_L_put_2 rfl ?_
  refine v_aload_n i_L_put_3 rfl ?_
  refine v_iload_n i_L_put_4 rfl ?_
  refine v_lload_n i_L_put_5 rfl ?_
  refine v_invC B i_L_put_6 kn_m_P_put hM hx rfl rfl (Nat.le_of_ble_eq_true rfl) ⟨by decide, by decide, by decide, by decide⟩ (fun r X' hq => ?_) (fun E X9 hq => ?_)
  · obtain ⟨⟨z, rfl⟩, f, hf⟩ := hQ r X' hq
    refine v_i2l i_L_put_9 ?_
    refine v_last (j := 0) B hf rfl (by decide) (by decide) i_L_put_10 ?_
    refine v_goto (tgt := 22) i_L_put_11 rfl ?_
    refine v_iconst (v := 0) i_L_put_22 rfl ?_
    exact v_iret i_L_put_23 rfl (by decide) (by decide) (Or.inl ⟨z, X', f, hq, hf, rfl, rfl⟩)
  · rcases hE E X9 hq with rfl | rfl
    · refine ⟨14, ⟨[], (0, 11, 14, 13), [(0, 11, 18, 15)], _, rfl, (fun z hz => (nomatch hz)), rfl, by decide, wl_S, cs_S, rfl⟩, fun q => ?_⟩
      refine v_astore i_L_put_14 (by decide) rfl ?_
      refine v_iconst (v := 1) i_L_put_16 rfl ?_
      exact v_iret i_L_put_17 rfl (by decide) (by decide) (Or.inr (Or.inl ⟨hq, rfl⟩))
    · refine ⟨18, ⟨[(0, 11, 14, 13)], (0, 11, 18, 15), [], _, rfl, (fun z hz => by
        rcases List.mem_cons.mp hz with hz1 | hz
        · rw [hz1]; exact ⟨by decide, _, wl_S, nc_US⟩
        cases hz), rfl, by decide, wl_U, cs_U, rfl⟩, fun q => ?_⟩
      refine v_astore i_L_put_18 (by decide) rfl ?_
      refine v_iconst (v := 2) i_L_put_20 rfl ?_
      exact v_iret i_L_put_21 rfl (by decide) (by decide) (Or.inr (Or.inr (⟨hq, rfl⟩)))
theorem c_L_remove (B : qB l s0 C) (a0 : Int32) {Qp : Option Value → qX → Prop} {Ep : String → qX → Prop} {fs : List Value} (hM : qMet l s0 C m_P_remove rmP [.ref x, .int a0] X Qp Ep) (hx : X.1 x = some (.inr (4, fs))) (hQ : ∀ r X', Qp r X' → (∃ z : Int32, r = some (.int z)) ∧ ∃ f, X'.1 o = some (.inl (1, 1, .inr (.inl f)))) (hE : ∀ e X', Ep e X' → e = xS ∨ e = xN ∨ e = xU) :
    qMet l s0 C m_L_remove rmL [.ref x, .int a0, .ref o] X (fun r X'' => (∃ (z : Int32) (X' : qX) (f : Nat → Int64), Qp (some (.int z)) X' ∧ X'.1 o = some (.inl (1, 1, .inr (.inl f))) ∧ X'' = qset X' o (.inl (1, 1, .inr (.inl (vp_updL f 0 (z.toInt64))))) ∧ r = some (.int 0)) ∨ (Ep xS X'' ∧ r = some (.int 1)) ∨ (Ep xN X'' ∧ r = some (.int 2)) ∨ (Ep xU X'' ∧ r = some (.int 3))) (fun _ _ => False) := by
  refine q_of (by decide +kernel) (Nat.le_of_ble_eq_true rfl) ?_
  refine v_L (L' := [(0, .ref x), (1, .int a0), (2, .ref o)]) rfl ?_
  refine v_aload_n i_L_remove_0 rfl ?_
  refine v_iconst (v := 0) i_L_remove_1 rfl ?_
  refine v_aload_n i_L_remove_2 rfl ?_
  refine v_iload_n i_L_remove_3 rfl ?_
  refine v_invC B i_L_remove_4 kn_m_P_remove hM hx rfl rfl (Nat.le_of_ble_eq_true rfl) ⟨by decide, by decide, by decide, by decide⟩ (fun r X' hq => ?_) (fun E X9 hq => ?_)
  · obtain ⟨⟨z, rfl⟩, f, hf⟩ := hQ r X' hq
    refine v_i2l i_L_remove_7 ?_
    refine v_last (j := 0) B hf rfl (by decide) (by decide) i_L_remove_8 ?_
    refine v_goto (tgt := 21) i_L_remove_9 rfl ?_
    refine v_iconst (v := 0) i_L_remove_21 rfl ?_
    exact v_iret i_L_remove_22 rfl (by decide) (by decide) (Or.inl ⟨z, X', f, hq, hf, rfl, rfl⟩)
  · rcases hE E X9 hq with rfl | rfl | rfl
    · refine ⟨12, ⟨[], (0, 9, 12, 13), [(0, 9, 15, 21), (0, 9, 18, 15)], _, rfl, (fun z hz => (nomatch hz)), rfl, by decide, wl_S, cs_S, rfl⟩, fun q => ?_⟩
      refine v_astore_n i_L_remove_12 (by decide) rfl ?_
      refine v_iconst (v := 1) i_L_remove_13 rfl ?_
      exact v_iret i_L_remove_14 rfl (by decide) (by decide) (Or.inr (Or.inl ⟨hq, rfl⟩))
    · refine ⟨15, ⟨[(0, 9, 12, 13)], (0, 9, 15, 21), [(0, 9, 18, 15)], _, rfl, (fun z hz => by
        rcases List.mem_cons.mp hz with hz1 | hz
        · rw [hz1]; exact ⟨by decide, _, wl_S, nc_NS⟩
        cases hz), rfl, by decide, wl_N, cs_N, rfl⟩, fun q => ?_⟩
      refine v_astore_n i_L_remove_15 (by decide) rfl ?_
      refine v_iconst (v := 2) i_L_remove_16 rfl ?_
      exact v_iret i_L_remove_17 rfl (by decide) (by decide) (Or.inr (Or.inr (Or.inl ⟨hq, rfl⟩)))
    · refine ⟨18, ⟨[(0, 9, 12, 13), (0, 9, 15, 21)], (0, 9, 18, 15), [], _, rfl, (fun z hz => by
        rcases List.mem_cons.mp hz with hz1 | hz
        · rw [hz1]; exact ⟨by decide, _, wl_S, nc_US⟩
        rcases List.mem_cons.mp hz with hz1 | hz
        · rw [hz1]; exact ⟨by decide, _, wl_N, nc_UN⟩
        cases hz), rfl, by decide, wl_U, cs_U, rfl⟩, fun q => ?_⟩
      refine v_astore_n i_L_remove_18 (by decide) rfl ?_
      refine v_iconst (v := 3) i_L_remove_19 rfl ?_
      exact v_iret i_L_remove_20 rfl (by decide) (by decide) (Or.inr (Or.inr (Or.inr (⟨hq, rfl⟩))))
theorem c_L_version (B : qB l s0 C)  {Qp : Option Value → qX → Prop} {Ep : String → qX → Prop} {fs : List Value} (hM : qMet l s0 C m_P_version rmP [.ref x] X Qp Ep) (hx : X.1 x = some (.inr (4, fs))) (hQ : ∀ r X', Qp r X' → (∃ z : Int32, r = some (.int z)) ∧ ∃ f, X'.1 o = some (.inl (1, 1, .inr (.inl f)))) (hE : ∀ e X', Ep e X' → e = xS) :
    qMet l s0 C m_L_version rmL [.ref x, .ref o] X (fun r X'' => (∃ (z : Int32) (X' : qX) (f : Nat → Int64), Qp (some (.int z)) X' ∧ X'.1 o = some (.inl (1, 1, .inr (.inl f))) ∧ X'' = qset X' o (.inl (1, 1, .inr (.inl (vp_updL f 0 (z.toInt64))))) ∧ r = some (.int 0)) ∨ (Ep xS X'' ∧ r = some (.int 1))) (fun _ _ => False) := by
  refine q_of (by decide +kernel) (Nat.le_of_ble_eq_true rfl) ?_
  refine v_L (L' := [(0, .ref x), (1, .ref o)]) rfl ?_
  refine v_aload_n i_L_version_0 rfl ?_
  refine v_iconst (v := 0) i_L_version_1 rfl ?_
  refine v_aload_n i_L_version_2 rfl ?_
  refine v_invC B i_L_version_3 kn_m_P_version hM hx rfl rfl (Nat.le_of_ble_eq_true rfl) ⟨by decide, by decide, by decide, by decide⟩ (fun r X' hq => ?_) (fun E X9 hq => ?_)
  · obtain ⟨⟨z, rfl⟩, f, hf⟩ := hQ r X' hq
    refine v_i2l i_L_version_6 ?_
    refine v_last (j := 0) B hf rfl (by decide) (by decide) i_L_version_7 ?_
    refine v_goto (tgt := 14) i_L_version_8 rfl ?_
    refine v_iconst (v := 0) i_L_version_14 rfl ?_
    exact v_iret i_L_version_15 rfl (by decide) (by decide) (Or.inl ⟨z, X', f, hq, hf, rfl, rfl⟩)
  · obtain rfl := hE E X9 hq
    refine ⟨11, ⟨[], (0, 8, 11, 13), [], _, rfl, (fun z hz => (nomatch hz)), rfl, by decide, wl_S, cs_S, rfl⟩, fun q => ?_⟩
    refine v_astore_n i_L_version_11 (by decide) rfl ?_
    refine v_iconst (v := 1) i_L_version_12 rfl ?_
    exact v_iret i_L_version_13 rfl (by decide) (by decide) (Or.inr (⟨hq, rfl⟩))
theorem c_L_has (B : qB l s0 C) (a0 : Int32) (a1 : Int32) {Qp : Option Value → qX → Prop} {Ep : String → qX → Prop} {fs : List Value} (hM : qMet l s0 C m_P_has rmP [.ref x, .int a0, .int a1] X Qp Ep) (hx : X.1 x = some (.inr (4, fs))) (hQ : ∀ r X', Qp r X' → (∃ z : Int32, r = some (.int z)) ∧ ∃ f, X'.1 o = some (.inl (1, 1, .inr (.inl f)))) (hE : ∀ e X', Ep e X' → e = xS ∨ e = xI) :
    qMet l s0 C m_L_has rmL [.ref x, .int a0, .int a1, .ref o] X (fun r X'' => (∃ (z : Int32) (X' : qX) (f : Nat → Int64), Qp (some (.int z)) X' ∧ X'.1 o = some (.inl (1, 1, .inr (.inl f))) ∧ X'' = qset X' o (.inl (1, 1, .inr (.inl (vp_updL f 0 ((if z = 0 then 0 else 1)))))) ∧ r = some (.int 0)) ∨ (Ep xS X'' ∧ r = some (.int 1)) ∨ (Ep xI X'' ∧ r = some (.int 2))) (fun _ _ => False) := by
  refine q_of (by decide +kernel) (Nat.le_of_ble_eq_true rfl) ?_
  refine v_L (L' := [(0, .ref x), (1, .int a0), (2, .int a1), (3, .ref o)]) rfl ?_
  refine v_aload_n i_L_has_0 rfl ?_
  refine v_iconst (v := 0) i_L_has_1 rfl ?_
  refine v_aload_n i_L_has_2 rfl ?_
  refine v_iload_n i_L_has_3 rfl ?_
  refine v_iload_n i_L_has_4 rfl ?_
  refine v_invC B i_L_has_5 kn_m_P_has hM hx rfl rfl (Nat.le_of_ble_eq_true rfl) ⟨by decide, by decide, by decide, by decide⟩ (fun r X' hq => ?_) (fun E X9 hq => ?_)
  · obtain ⟨⟨z, rfl⟩, f, hf⟩ := hQ r X' hq
    refine v_if_eq (tgt := 15) i_L_has_8 rfl (fun q => ?_) (fun q => ?_)
    · refine v_lconst (v := 0) i_L_has_15 rfl ?_
      refine v_last (j := 0) B hf rfl (by decide) (by decide) i_L_has_16 ?_
      refine v_goto (tgt := 28) i_L_has_17 rfl ?_
      refine v_iconst (v := 0) i_L_has_28 rfl ?_
      refine v_iret i_L_has_29 rfl (by decide) (by decide) (Or.inl ⟨z, X', f, hq, hf, by rw [if_pos q], rfl⟩)
    · refine v_lconst (v := 1) i_L_has_11 rfl ?_
      refine v_goto (tgt := 16) i_L_has_12 rfl ?_
      refine v_last (j := 0) B hf rfl (by decide) (by decide) i_L_has_16 ?_
      refine v_goto (tgt := 28) i_L_has_17 rfl ?_
      refine v_iconst (v := 0) i_L_has_28 rfl ?_
      refine v_iret i_L_has_29 rfl (by decide) (by decide) (Or.inl ⟨z, X', f, hq, hf, by rw [if_neg q], rfl⟩)
  · rcases hE E X9 hq with rfl | rfl
    · refine ⟨20, ⟨[], (0, 17, 20, 13), [(0, 17, 24, 31)], _, rfl, (fun z hz => (nomatch hz)), rfl, by decide, wl_S, cs_S, rfl⟩, fun q => ?_⟩
      refine v_astore i_L_has_20 (by decide) rfl ?_
      refine v_iconst (v := 1) i_L_has_22 rfl ?_
      exact v_iret i_L_has_23 rfl (by decide) (by decide) (Or.inr (Or.inl ⟨hq, rfl⟩))
    · refine ⟨24, ⟨[(0, 17, 20, 13)], (0, 17, 24, 31), [], _, rfl, (fun z hz => by
        rcases List.mem_cons.mp hz with hz1 | hz
        · rw [hz1]; exact ⟨by decide, _, wl_S, nc_IS⟩
        cases hz), rfl, by decide, wl_I, cs_I, rfl⟩, fun q => ?_⟩
      refine v_astore i_L_has_24 (by decide) rfl ?_
      refine v_iconst (v := 2) i_L_has_26 rfl ?_
      exact v_iret i_L_has_27 rfl (by decide) (by decide) (Or.inr (Or.inr (⟨hq, rfl⟩)))
theorem c_L_get (B : qB l s0 C) (a0 : Int32) (a1 : Int32) {Qp : Option Value → qX → Prop} {Ep : String → qX → Prop} {fs : List Value} (hM : qMet l s0 C m_P_get rmP [.ref x, .int a0, .int a1] X Qp Ep) (hx : X.1 x = some (.inr (4, fs))) (hQ : ∀ r X', Qp r X' → (∃ z : Int64, r = some (.long z)) ∧ ∃ f, X'.1 o = some (.inl (1, 1, .inr (.inl f)))) (hE : ∀ e X', Ep e X' → e = xS ∨ e = xI ∨ e = xN) :
    qMet l s0 C m_L_get rmL [.ref x, .int a0, .int a1, .ref o] X (fun r X'' => (∃ (z : Int64) (X' : qX) (f : Nat → Int64), Qp (some (.long z)) X' ∧ X'.1 o = some (.inl (1, 1, .inr (.inl f))) ∧ X'' = qset X' o (.inl (1, 1, .inr (.inl (vp_updL f 0 (z))))) ∧ r = some (.int 0)) ∨ (Ep xS X'' ∧ r = some (.int 1)) ∨ (Ep xI X'' ∧ r = some (.int 2)) ∨ (Ep xN X'' ∧ r = some (.int 3))) (fun _ _ => False) := by
  refine q_of (by decide +kernel) (Nat.le_of_ble_eq_true rfl) ?_
  refine v_L (L' := [(0, .ref x), (1, .int a0), (2, .int a1), (3, .ref o)]) rfl ?_
  refine v_aload_n i_L_get_0 rfl ?_
  refine v_iconst (v := 0) i_L_get_1 rfl ?_
  refine v_aload_n i_L_get_2 rfl ?_
  refine v_iload_n i_L_get_3 rfl ?_
  refine v_iload_n i_L_get_4 rfl ?_
  refine v_invC B i_L_get_5 kn_m_P_get hM hx rfl rfl (Nat.le_of_ble_eq_true rfl) ⟨by decide, by decide, by decide, by decide⟩ (fun r X' hq => ?_) (fun E X9 hq => ?_)
  · obtain ⟨⟨z, rfl⟩, f, hf⟩ := hQ r X' hq
    refine v_last (j := 0) B hf rfl (by decide) (by decide) i_L_get_8 ?_
    refine v_goto (tgt := 24) i_L_get_9 rfl ?_
    refine v_iconst (v := 0) i_L_get_24 rfl ?_
    exact v_iret i_L_get_25 rfl (by decide) (by decide) (Or.inl ⟨z, X', f, hq, hf, rfl, rfl⟩)
  · rcases hE E X9 hq with rfl | rfl | rfl
    · refine ⟨12, ⟨[], (0, 9, 12, 13), [(0, 9, 16, 31), (0, 9, 20, 21)], _, rfl, (fun z hz => (nomatch hz)), rfl, by decide, wl_S, cs_S, rfl⟩, fun q => ?_⟩
      refine v_astore i_L_get_12 (by decide) rfl ?_
      refine v_iconst (v := 1) i_L_get_14 rfl ?_
      exact v_iret i_L_get_15 rfl (by decide) (by decide) (Or.inr (Or.inl ⟨hq, rfl⟩))
    · refine ⟨16, ⟨[(0, 9, 12, 13)], (0, 9, 16, 31), [(0, 9, 20, 21)], _, rfl, (fun z hz => by
        rcases List.mem_cons.mp hz with hz1 | hz
        · rw [hz1]; exact ⟨by decide, _, wl_S, nc_IS⟩
        cases hz), rfl, by decide, wl_I, cs_I, rfl⟩, fun q => ?_⟩
      refine v_astore i_L_get_16 (by decide) rfl ?_
      refine v_iconst (v := 2) i_L_get_18 rfl ?_
      exact v_iret i_L_get_19 rfl (by decide) (by decide) (Or.inr (Or.inr (Or.inl ⟨hq, rfl⟩)))
    · refine ⟨20, ⟨[(0, 9, 12, 13), (0, 9, 16, 31)], (0, 9, 20, 21), [], _, rfl, (fun z hz => by
        rcases List.mem_cons.mp hz with hz1 | hz
        · rw [hz1]; exact ⟨by decide, _, wl_S, nc_NS⟩
        rcases List.mem_cons.mp hz with hz1 | hz
        · rw [hz1]; exact ⟨by decide, _, wl_I, nc_NI⟩
        cases hz), rfl, by decide, wl_N, cs_N, rfl⟩, fun q => ?_⟩
      refine v_astore i_L_get_20 (by decide) rfl ?_
      refine v_iconst (v := 3) i_L_get_22 rfl ?_
      exact v_iret i_L_get_23 rfl (by decide) (by decide) (Or.inr (Or.inr (Or.inr (⟨hq, rfl⟩))))
theorem c_L_next (B : qB l s0 C) (a0 : Int32) (a1 : Int32) {Qp : Option Value → qX → Prop} {Ep : String → qX → Prop} {fs : List Value} (hM : qMet l s0 C m_P_next rmP [.ref x, .int a0, .int a1] X Qp Ep) (hx : X.1 x = some (.inr (4, fs))) (hQ : ∀ r X', Qp r X' → (∃ z : Int32, r = some (.int z)) ∧ ∃ f, X'.1 o = some (.inl (1, 1, .inr (.inl f)))) (hE : ∀ e X', Ep e X' → e = xS ∨ e = xI ∨ e = xN) :
    qMet l s0 C m_L_next rmL [.ref x, .int a0, .int a1, .ref o] X (fun r X'' => (∃ (z : Int32) (X' : qX) (f : Nat → Int64), Qp (some (.int z)) X' ∧ X'.1 o = some (.inl (1, 1, .inr (.inl f))) ∧ X'' = qset X' o (.inl (1, 1, .inr (.inl (vp_updL f 0 (z.toInt64))))) ∧ r = some (.int 0)) ∨ (Ep xS X'' ∧ r = some (.int 1)) ∨ (Ep xI X'' ∧ r = some (.int 2)) ∨ (Ep xN X'' ∧ r = some (.int 3))) (fun _ _ => False) := by
  refine q_of (by decide +kernel) (Nat.le_of_ble_eq_true rfl) ?_
  refine v_L (L' := [(0, .ref x), (1, .int a0), (2, .int a1), (3, .ref o)]) rfl ?_
  refine v_aload_n i_L_next_0 rfl ?_
  refine v_iconst (v := 0) i_L_next_1 rfl ?_
  refine v_aload_n i_L_next_2 rfl ?_
  refine v_iload_n i_L_next_3 rfl ?_
  refine v_iload_n i_L_next_4 rfl ?_
  refine v_invC B i_L_next_5 kn_m_P_next hM hx rfl rfl (Nat.le_of_ble_eq_true rfl) ⟨by decide, by decide, by decide, by decide⟩ (fun r X' hq => ?_) (fun E X9 hq => ?_)
  · obtain ⟨⟨z, rfl⟩, f, hf⟩ := hQ r X' hq
    refine v_i2l i_L_next_8 ?_
    refine v_last (j := 0) B hf rfl (by decide) (by decide) i_L_next_9 ?_
    refine v_goto (tgt := 25) i_L_next_10 rfl ?_
    refine v_iconst (v := 0) i_L_next_25 rfl ?_
    exact v_iret i_L_next_26 rfl (by decide) (by decide) (Or.inl ⟨z, X', f, hq, hf, rfl, rfl⟩)
  · rcases hE E X9 hq with rfl | rfl | rfl
    · refine ⟨13, ⟨[], (0, 10, 13, 13), [(0, 10, 17, 31), (0, 10, 21, 21)], _, rfl, (fun z hz => (nomatch hz)), rfl, by decide, wl_S, cs_S, rfl⟩, fun q => ?_⟩
      refine v_astore i_L_next_13 (by decide) rfl ?_
      refine v_iconst (v := 1) i_L_next_15 rfl ?_
      exact v_iret i_L_next_16 rfl (by decide) (by decide) (Or.inr (Or.inl ⟨hq, rfl⟩))
    · refine ⟨17, ⟨[(0, 10, 13, 13)], (0, 10, 17, 31), [(0, 10, 21, 21)], _, rfl, (fun z hz => by
        rcases List.mem_cons.mp hz with hz1 | hz
        · rw [hz1]; exact ⟨by decide, _, wl_S, nc_IS⟩
        cases hz), rfl, by decide, wl_I, cs_I, rfl⟩, fun q => ?_⟩
      refine v_astore i_L_next_17 (by decide) rfl ?_
      refine v_iconst (v := 2) i_L_next_19 rfl ?_
      exact v_iret i_L_next_20 rfl (by decide) (by decide) (Or.inr (Or.inr (Or.inl ⟨hq, rfl⟩)))
    · refine ⟨21, ⟨[(0, 10, 13, 13), (0, 10, 17, 31)], (0, 10, 21, 21), [], _, rfl, (fun z hz => by
        rcases List.mem_cons.mp hz with hz1 | hz
        · rw [hz1]; exact ⟨by decide, _, wl_S, nc_NS⟩
        rcases List.mem_cons.mp hz with hz1 | hz
        · rw [hz1]; exact ⟨by decide, _, wl_I, nc_NI⟩
        cases hz), rfl, by decide, wl_N, cs_N, rfl⟩, fun q => ?_⟩
      refine v_astore i_L_next_21 (by decide) rfl ?_
      refine v_iconst (v := 3) i_L_next_23 rfl ?_
      exact v_iret i_L_next_24 rfl (by decide) (by decide) (Or.inr (Or.inr (Or.inr (⟨hq, rfl⟩))))
theorem c_L_count (B : qB l s0 C) (a0 : Int32) (a1 : Int32) (a2 : Int32) {Qp : Option Value → qX → Prop} {Ep : String → qX → Prop} {fs : List Value} (hM : qMet l s0 C m_P_count rmP [.ref x, .int a0, .int a1, .int a2] X Qp Ep) (hx : X.1 x = some (.inr (4, fs))) (hQ : ∀ r X', Qp r X' → (∃ z : Int32, r = some (.int z)) ∧ ∃ f, X'.1 o = some (.inl (1, 1, .inr (.inl f)))) (hE : ∀ e X', Ep e X' → e = xS ∨ e = xI) :
    qMet l s0 C m_L_count rmL [.ref x, .int a0, .int a1, .int a2, .ref o] X (fun r X'' => (∃ (z : Int32) (X' : qX) (f : Nat → Int64), Qp (some (.int z)) X' ∧ X'.1 o = some (.inl (1, 1, .inr (.inl f))) ∧ X'' = qset X' o (.inl (1, 1, .inr (.inl (vp_updL f 0 (z.toInt64))))) ∧ r = some (.int 0)) ∨ (Ep xS X'' ∧ r = some (.int 1)) ∨ (Ep xI X'' ∧ r = some (.int 2))) (fun _ _ => False) := by
  refine q_of (by decide +kernel) (Nat.le_of_ble_eq_true rfl) ?_
  refine v_L (L' := [(0, .ref x), (1, .int a0), (2, .int a1), (3, .int a2), (4, .ref o)]) rfl ?_
  refine v_aload i_L_count_0 rfl ?_
  refine v_iconst (v := 0) i_L_count_2 rfl ?_
  refine v_aload_n i_L_count_3 rfl ?_
  refine v_iload_n i_L_count_4 rfl ?_
  refine v_iload_n i_L_count_5 rfl ?_
  refine v_iload_n i_L_count_6 rfl ?_
  refine v_invC B i_L_count_7 kn_m_P_count hM hx rfl rfl (Nat.le_of_ble_eq_true rfl) ⟨by decide, by decide, by decide, by decide⟩ (fun r X' hq => ?_) (fun E X9 hq => ?_)
  · obtain ⟨⟨z, rfl⟩, f, hf⟩ := hQ r X' hq
    refine v_i2l i_L_count_10 ?_
    refine v_last (j := 0) B hf rfl (by decide) (by decide) i_L_count_11 ?_
    refine v_goto (tgt := 23) i_L_count_12 rfl ?_
    refine v_iconst (v := 0) i_L_count_23 rfl ?_
    exact v_iret i_L_count_24 rfl (by decide) (by decide) (Or.inl ⟨z, X', f, hq, hf, rfl, rfl⟩)
  · rcases hE E X9 hq with rfl | rfl
    · refine ⟨15, ⟨[], (0, 12, 15, 13), [(0, 12, 19, 31)], _, rfl, (fun z hz => (nomatch hz)), rfl, by decide, wl_S, cs_S, rfl⟩, fun q => ?_⟩
      refine v_astore i_L_count_15 (by decide) rfl ?_
      refine v_iconst (v := 1) i_L_count_17 rfl ?_
      exact v_iret i_L_count_18 rfl (by decide) (by decide) (Or.inr (Or.inl ⟨hq, rfl⟩))
    · refine ⟨19, ⟨[(0, 12, 15, 13)], (0, 12, 19, 31), [], _, rfl, (fun z hz => by
        rcases List.mem_cons.mp hz with hz1 | hz
        · rw [hz1]; exact ⟨by decide, _, wl_S, nc_IS⟩
        cases hz), rfl, by decide, wl_I, cs_I, rfl⟩, fun q => ?_⟩
      refine v_astore i_L_count_19 (by decide) rfl ?_
      refine v_iconst (v := 2) i_L_count_21 rfl ?_
      exact v_iret i_L_count_22 rfl (by decide) (by decide) (Or.inr (Or.inr (⟨hq, rfl⟩)))
theorem c_L_sum (B : qB l s0 C) (a0 : Int32) (a1 : Int32) (a2 : Int32) {Qp : Option Value → qX → Prop} {Ep : String → qX → Prop} {fs : List Value} (hM : qMet l s0 C m_P_sum rmP [.ref x, .int a0, .int a1, .int a2] X Qp Ep) (hx : X.1 x = some (.inr (4, fs))) (hQ : ∀ r X', Qp r X' → (∃ z : Int64, r = some (.long z)) ∧ ∃ f, X'.1 o = some (.inl (1, 1, .inr (.inl f)))) (hE : ∀ e X', Ep e X' → e = xS ∨ e = xI) :
    qMet l s0 C m_L_sum rmL [.ref x, .int a0, .int a1, .int a2, .ref o] X (fun r X'' => (∃ (z : Int64) (X' : qX) (f : Nat → Int64), Qp (some (.long z)) X' ∧ X'.1 o = some (.inl (1, 1, .inr (.inl f))) ∧ X'' = qset X' o (.inl (1, 1, .inr (.inl (vp_updL f 0 (z))))) ∧ r = some (.int 0)) ∨ (Ep xS X'' ∧ r = some (.int 1)) ∨ (Ep xI X'' ∧ r = some (.int 2))) (fun _ _ => False) := by
  refine q_of (by decide +kernel) (Nat.le_of_ble_eq_true rfl) ?_
  refine v_L (L' := [(0, .ref x), (1, .int a0), (2, .int a1), (3, .int a2), (4, .ref o)]) rfl ?_
  refine v_aload i_L_sum_0 rfl ?_
  refine v_iconst (v := 0) i_L_sum_2 rfl ?_
  refine v_aload_n i_L_sum_3 rfl ?_
  refine v_iload_n i_L_sum_4 rfl ?_
  refine v_iload_n i_L_sum_5 rfl ?_
  refine v_iload_n i_L_sum_6 rfl ?_
  refine v_invC B i_L_sum_7 kn_m_P_sum hM hx rfl rfl (Nat.le_of_ble_eq_true rfl) ⟨by decide, by decide, by decide, by decide⟩ (fun r X' hq => ?_) (fun E X9 hq => ?_)
  · obtain ⟨⟨z, rfl⟩, f, hf⟩ := hQ r X' hq
    refine v_last (j := 0) B hf rfl (by decide) (by decide) i_L_sum_10 ?_
    refine v_goto (tgt := 22) i_L_sum_11 rfl ?_
    refine v_iconst (v := 0) i_L_sum_22 rfl ?_
    exact v_iret i_L_sum_23 rfl (by decide) (by decide) (Or.inl ⟨z, X', f, hq, hf, rfl, rfl⟩)
  · rcases hE E X9 hq with rfl | rfl
    · refine ⟨14, ⟨[], (0, 11, 14, 13), [(0, 11, 18, 31)], _, rfl, (fun z hz => (nomatch hz)), rfl, by decide, wl_S, cs_S, rfl⟩, fun q => ?_⟩
      refine v_astore i_L_sum_14 (by decide) rfl ?_
      refine v_iconst (v := 1) i_L_sum_16 rfl ?_
      exact v_iret i_L_sum_17 rfl (by decide) (by decide) (Or.inr (Or.inl ⟨hq, rfl⟩))
    · refine ⟨18, ⟨[(0, 11, 14, 13)], (0, 11, 18, 31), [], _, rfl, (fun z hz => by
        rcases List.mem_cons.mp hz with hz1 | hz
        · rw [hz1]; exact ⟨by decide, _, wl_S, nc_IS⟩
        cases hz), rfl, by decide, wl_I, cs_I, rfl⟩, fun q => ?_⟩
      refine v_astore i_L_sum_18 (by decide) rfl ?_
      refine v_iconst (v := 2) i_L_sum_20 rfl ?_
      exact v_iret i_L_sum_21 rfl (by decide) (by decide) (Or.inr (Or.inr (⟨hq, rfl⟩)))
theorem c_L_differs (B : qB l s0 C) (a0 : Int32) (a1 : Int32) (a2 : Int32) {Qp : Option Value → qX → Prop} {Ep : String → qX → Prop} {fs : List Value} (hM : qMet l s0 C m_P_differs rmP [.ref x, .int a0, .int a1, .int a2] X Qp Ep) (hx : X.1 x = some (.inr (4, fs))) (hQ : ∀ r X', Qp r X' → (∃ z : Int32, r = some (.int z)) ∧ ∃ f, X'.1 o = some (.inl (1, 1, .inr (.inl f)))) (hE : ∀ e X', Ep e X' → e = xS ∨ e = xI ∨ e = xA ∨ e = xN) :
    qMet l s0 C m_L_differs rmL [.ref x, .int a0, .int a1, .int a2, .ref o] X (fun r X'' => (∃ (z : Int32) (X' : qX) (f : Nat → Int64), Qp (some (.int z)) X' ∧ X'.1 o = some (.inl (1, 1, .inr (.inl f))) ∧ X'' = qset X' o (.inl (1, 1, .inr (.inl (vp_updL f 0 (z.toInt64))))) ∧ r = some (.int 0)) ∨ (Ep xS X'' ∧ r = some (.int 1)) ∨ (Ep xI X'' ∧ r = some (.int 2)) ∨ (Ep xA X'' ∧ r = some (.int 3)) ∨ (Ep xN X'' ∧ r = some (.int 4))) (fun _ _ => False) := by
  refine q_of (by decide +kernel) (Nat.le_of_ble_eq_true rfl) ?_
  refine v_L (L' := [(0, .ref x), (1, .int a0), (2, .int a1), (3, .int a2), (4, .ref o)]) rfl ?_
  refine v_aload i_L_differs_0 rfl ?_
  refine v_iconst (v := 0) i_L_differs_2 rfl ?_
  refine v_aload_n i_L_differs_3 rfl ?_
  refine v_iload_n i_L_differs_4 rfl ?_
  refine v_iload_n i_L_differs_5 rfl ?_
  refine v_iload_n i_L_differs_6 rfl ?_
  refine v_invC B i_L_differs_7 kn_m_P_differs hM hx rfl rfl (Nat.le_of_ble_eq_true rfl) ⟨by decide, by decide, by decide, by decide⟩ (fun r X' hq => ?_) (fun E X9 hq => ?_)
  · obtain ⟨⟨z, rfl⟩, f, hf⟩ := hQ r X' hq
    refine v_i2l i_L_differs_10 ?_
    refine v_last (j := 0) B hf rfl (by decide) (by decide) i_L_differs_11 ?_
    refine v_goto (tgt := 31) i_L_differs_12 rfl ?_
    refine v_iconst (v := 0) i_L_differs_31 rfl ?_
    exact v_iret i_L_differs_32 rfl (by decide) (by decide) (Or.inl ⟨z, X', f, hq, hf, rfl, rfl⟩)
  · rcases hE E X9 hq with rfl | rfl | rfl | rfl
    · refine ⟨15, ⟨[], (0, 12, 15, 13), [(0, 12, 19, 31), (0, 12, 23, 52), (0, 12, 27, 21)], _, rfl, (fun z hz => (nomatch hz)), rfl, by decide, wl_S, cs_S, rfl⟩, fun q => ?_⟩
      refine v_astore i_L_differs_15 (by decide) rfl ?_
      refine v_iconst (v := 1) i_L_differs_17 rfl ?_
      exact v_iret i_L_differs_18 rfl (by decide) (by decide) (Or.inr (Or.inl ⟨hq, rfl⟩))
    · refine ⟨19, ⟨[(0, 12, 15, 13)], (0, 12, 19, 31), [(0, 12, 23, 52), (0, 12, 27, 21)], _, rfl, (fun z hz => by
        rcases List.mem_cons.mp hz with hz1 | hz
        · rw [hz1]; exact ⟨by decide, _, wl_S, nc_IS⟩
        cases hz), rfl, by decide, wl_I, cs_I, rfl⟩, fun q => ?_⟩
      refine v_astore i_L_differs_19 (by decide) rfl ?_
      refine v_iconst (v := 2) i_L_differs_21 rfl ?_
      exact v_iret i_L_differs_22 rfl (by decide) (by decide) (Or.inr (Or.inr (Or.inl ⟨hq, rfl⟩)))
    · refine ⟨23, ⟨[(0, 12, 15, 13), (0, 12, 19, 31)], (0, 12, 23, 52), [(0, 12, 27, 21)], _, rfl, (fun z hz => by
        rcases List.mem_cons.mp hz with hz1 | hz
        · rw [hz1]; exact ⟨by decide, _, wl_S, nc_AS⟩
        rcases List.mem_cons.mp hz with hz1 | hz
        · rw [hz1]; exact ⟨by decide, _, wl_I, nc_AI⟩
        cases hz), rfl, by decide, wl_A, cs_A, rfl⟩, fun q => ?_⟩
      refine v_astore i_L_differs_23 (by decide) rfl ?_
      refine v_iconst (v := 3) i_L_differs_25 rfl ?_
      exact v_iret i_L_differs_26 rfl (by decide) (by decide) (Or.inr (Or.inr (Or.inr (Or.inl ⟨hq, rfl⟩))))
    · refine ⟨27, ⟨[(0, 12, 15, 13), (0, 12, 19, 31), (0, 12, 23, 52)], (0, 12, 27, 21), [], _, rfl, (fun z hz => by
        rcases List.mem_cons.mp hz with hz1 | hz
        · rw [hz1]; exact ⟨by decide, _, wl_S, nc_NS⟩
        rcases List.mem_cons.mp hz with hz1 | hz
        · rw [hz1]; exact ⟨by decide, _, wl_I, nc_NI⟩
        rcases List.mem_cons.mp hz with hz1 | hz
        · rw [hz1]; exact ⟨by decide, _, wl_A, nc_NA⟩
        cases hz), rfl, by decide, wl_N, cs_N, rfl⟩, fun q => ?_⟩
      refine v_astore i_L_differs_27 (by decide) rfl ?_
      refine v_iconst (v := 4) i_L_differs_29 rfl ?_
      exact v_iret i_L_differs_30 rfl (by decide) (by decide) (Or.inr (Or.inr (Or.inr (Or.inr (⟨hq, rfl⟩)))))
theorem c_L_pages (B : qB l s0 C)  {Qp : Option Value → qX → Prop} {Ep : String → qX → Prop} {fs : List Value} (hM : qMet l s0 C m_P_pages rmP [.ref x] X Qp Ep) (hx : X.1 x = some (.inr (4, fs))) (hQ : ∀ r X', Qp r X' → (∃ z : Int32, r = some (.int z)) ∧ ∃ f, X'.1 o = some (.inl (1, 1, .inr (.inl f)))) (hE : ∀ e X', Ep e X' → e = xS) :
    qMet l s0 C m_L_pages rmL [.ref x, .ref o] X (fun r X'' => (∃ (z : Int32) (X' : qX) (f : Nat → Int64), Qp (some (.int z)) X' ∧ X'.1 o = some (.inl (1, 1, .inr (.inl f))) ∧ X'' = qset X' o (.inl (1, 1, .inr (.inl (vp_updL f 0 (z.toInt64))))) ∧ r = some (.int 0)) ∨ (Ep xS X'' ∧ r = some (.int 1))) (fun _ _ => False) := by
  refine q_of (by decide +kernel) (Nat.le_of_ble_eq_true rfl) ?_
  refine v_L (L' := [(0, .ref x), (1, .ref o)]) rfl ?_
  refine v_aload_n i_L_pages_0 rfl ?_
  refine v_iconst (v := 0) i_L_pages_1 rfl ?_
  refine v_aload_n i_L_pages_2 rfl ?_
  refine v_invC B i_L_pages_3 kn_m_P_pages hM hx rfl rfl (Nat.le_of_ble_eq_true rfl) ⟨by decide, by decide, by decide, by decide⟩ (fun r X' hq => ?_) (fun E X9 hq => ?_)
  · obtain ⟨⟨z, rfl⟩, f, hf⟩ := hQ r X' hq
    refine v_i2l i_L_pages_6 ?_
    refine v_last (j := 0) B hf rfl (by decide) (by decide) i_L_pages_7 ?_
    refine v_goto (tgt := 14) i_L_pages_8 rfl ?_
    refine v_iconst (v := 0) i_L_pages_14 rfl ?_
    exact v_iret i_L_pages_15 rfl (by decide) (by decide) (Or.inl ⟨z, X', f, hq, hf, rfl, rfl⟩)
  · obtain rfl := hE E X9 hq
    refine ⟨11, ⟨[], (0, 8, 11, 13), [], _, rfl, (fun z hz => (nomatch hz)), rfl, by decide, wl_S, cs_S, rfl⟩, fun q => ?_⟩
    refine v_astore_n i_L_pages_11 (by decide) rfl ?_
    refine v_iconst (v := 1) i_L_pages_12 rfl ?_
    exact v_iret i_L_pages_13 rfl (by decide) (by decide) (Or.inr (⟨hq, rfl⟩))
theorem c_L_page (B : qB l s0 C) (a0 : Int32) (a1 : Int32) {Qp : Option Value → qX → Prop} {Ep : String → qX → Prop} {fs : List Value} (hM : qMet l s0 C m_P_page rmP [.ref x, .int a0, .int a1] X Qp Ep) (hx : X.1 x = some (.inr (4, fs))) (hQ : ∀ r X', Qp r X' → (∃ z : Int32, r = some (.int z)) ∧ ∃ f, X'.1 o = some (.inl (1, 1, .inr (.inl f)))) (hE : ∀ e X', Ep e X' → e = xS ∨ e = xI ∨ e = xA) :
    qMet l s0 C m_L_page rmL [.ref x, .int a0, .int a1, .ref o] X (fun r X'' => (∃ (z : Int32) (X' : qX) (f : Nat → Int64), Qp (some (.int z)) X' ∧ X'.1 o = some (.inl (1, 1, .inr (.inl f))) ∧ X'' = qset X' o (.inl (1, 1, .inr (.inl (vp_updL f 0 (z.toInt64))))) ∧ r = some (.int 0)) ∨ (Ep xS X'' ∧ r = some (.int 1)) ∨ (Ep xI X'' ∧ r = some (.int 2)) ∨ (Ep xA X'' ∧ r = some (.int 3))) (fun _ _ => False) := by
  refine q_of (by decide +kernel) (Nat.le_of_ble_eq_true rfl) ?_
  refine v_L (L' := [(0, .ref x), (1, .int a0), (2, .int a1), (3, .ref o)]) rfl ?_
  refine v_aload_n i_L_page_0 rfl ?_
  refine v_iconst (v := 0) i_L_page_1 rfl ?_
  refine v_aload_n i_L_page_2 rfl ?_
  refine v_iload_n i_L_page_3 rfl ?_
  refine v_iload_n i_L_page_4 rfl ?_
  refine v_invC B i_L_page_5 kn_m_P_page hM hx rfl rfl (Nat.le_of_ble_eq_true rfl) ⟨by decide, by decide, by decide, by decide⟩ (fun r X' hq => ?_) (fun E X9 hq => ?_)
  · obtain ⟨⟨z, rfl⟩, f, hf⟩ := hQ r X' hq
    refine v_i2l i_L_page_8 ?_
    refine v_last (j := 0) B hf rfl (by decide) (by decide) i_L_page_9 ?_
    refine v_goto (tgt := 25) i_L_page_10 rfl ?_
    refine v_iconst (v := 0) i_L_page_25 rfl ?_
    exact v_iret i_L_page_26 rfl (by decide) (by decide) (Or.inl ⟨z, X', f, hq, hf, rfl, rfl⟩)
  · rcases hE E X9 hq with rfl | rfl | rfl
    · refine ⟨13, ⟨[], (0, 10, 13, 13), [(0, 10, 17, 31), (0, 10, 21, 52)], _, rfl, (fun z hz => (nomatch hz)), rfl, by decide, wl_S, cs_S, rfl⟩, fun q => ?_⟩
      refine v_astore i_L_page_13 (by decide) rfl ?_
      refine v_iconst (v := 1) i_L_page_15 rfl ?_
      exact v_iret i_L_page_16 rfl (by decide) (by decide) (Or.inr (Or.inl ⟨hq, rfl⟩))
    · refine ⟨17, ⟨[(0, 10, 13, 13)], (0, 10, 17, 31), [(0, 10, 21, 52)], _, rfl, (fun z hz => by
        rcases List.mem_cons.mp hz with hz1 | hz
        · rw [hz1]; exact ⟨by decide, _, wl_S, nc_IS⟩
        cases hz), rfl, by decide, wl_I, cs_I, rfl⟩, fun q => ?_⟩
      refine v_astore i_L_page_17 (by decide) rfl ?_
      refine v_iconst (v := 2) i_L_page_19 rfl ?_
      exact v_iret i_L_page_20 rfl (by decide) (by decide) (Or.inr (Or.inr (Or.inl ⟨hq, rfl⟩)))
    · refine ⟨21, ⟨[(0, 10, 13, 13), (0, 10, 17, 31)], (0, 10, 21, 52), [], _, rfl, (fun z hz => by
        rcases List.mem_cons.mp hz with hz1 | hz
        · rw [hz1]; exact ⟨by decide, _, wl_S, nc_AS⟩
        rcases List.mem_cons.mp hz with hz1 | hz
        · rw [hz1]; exact ⟨by decide, _, wl_I, nc_AI⟩
        cases hz), rfl, by decide, wl_A, cs_A, rfl⟩, fun q => ?_⟩
      refine v_astore i_L_page_21 (by decide) rfl ?_
      refine v_iconst (v := 3) i_L_page_23 rfl ?_
      exact v_iret i_L_page_24 rfl (by decide) (by decide) (Or.inr (Or.inr (Or.inr (⟨hq, rfl⟩))))
theorem c_L_alive (B : qB l s0 C) (a0 : Int32) (a1 : Int32) {Qp : Option Value → qX → Prop} {Ep : String → qX → Prop} {fs : List Value} (hM : qMet l s0 C m_P_alive rmP [.ref x, .int a0, .int a1] X Qp Ep) (hx : X.1 x = some (.inr (4, fs))) (hQ : ∀ r X', Qp r X' → (∃ z : Int32, r = some (.int z)) ∧ ∃ f, X'.1 o = some (.inl (1, 1, .inr (.inl f)))) (hE : ∀ e X', Ep e X' → e = xS ∨ e = xI) :
    qMet l s0 C m_L_alive rmL [.ref x, .int a0, .int a1, .ref o] X (fun r X'' => (∃ (z : Int32) (X' : qX) (f : Nat → Int64), Qp (some (.int z)) X' ∧ X'.1 o = some (.inl (1, 1, .inr (.inl f))) ∧ X'' = qset X' o (.inl (1, 1, .inr (.inl (vp_updL f 0 (z.toInt64))))) ∧ r = some (.int 0)) ∨ (Ep xS X'' ∧ r = some (.int 1)) ∨ (Ep xI X'' ∧ r = some (.int 2))) (fun _ _ => False) := by
  refine q_of (by decide +kernel) (Nat.le_of_ble_eq_true rfl) ?_
  refine v_L (L' := [(0, .ref x), (1, .int a0), (2, .int a1), (3, .ref o)]) rfl ?_
  refine v_aload_n i_L_alive_0 rfl ?_
  refine v_iconst (v := 0) i_L_alive_1 rfl ?_
  refine v_aload_n i_L_alive_2 rfl ?_
  refine v_iload_n i_L_alive_3 rfl ?_
  refine v_iload_n i_L_alive_4 rfl ?_
  refine v_invC B i_L_alive_5 kn_m_P_alive hM hx rfl rfl (Nat.le_of_ble_eq_true rfl) ⟨by decide, by decide, by decide, by decide⟩ (fun r X' hq => ?_) (fun E X9 hq => ?_)
  · obtain ⟨⟨z, rfl⟩, f, hf⟩ := hQ r X' hq
    refine v_i2l i_L_alive_8 ?_
    refine v_last (j := 0) B hf rfl (by decide) (by decide) i_L_alive_9 ?_
    refine v_goto (tgt := 21) i_L_alive_10 rfl ?_
    refine v_iconst (v := 0) i_L_alive_21 rfl ?_
    exact v_iret i_L_alive_22 rfl (by decide) (by decide) (Or.inl ⟨z, X', f, hq, hf, rfl, rfl⟩)
  · rcases hE E X9 hq with rfl | rfl
    · refine ⟨13, ⟨[], (0, 10, 13, 13), [(0, 10, 17, 31)], _, rfl, (fun z hz => (nomatch hz)), rfl, by decide, wl_S, cs_S, rfl⟩, fun q => ?_⟩
      refine v_astore i_L_alive_13 (by decide) rfl ?_
      refine v_iconst (v := 1) i_L_alive_15 rfl ?_
      exact v_iret i_L_alive_16 rfl (by decide) (by decide) (Or.inr (Or.inl ⟨hq, rfl⟩))
    · refine ⟨17, ⟨[(0, 10, 13, 13)], (0, 10, 17, 31), [], _, rfl, (fun z hz => by
        rcases List.mem_cons.mp hz with hz1 | hz
        · rw [hz1]; exact ⟨by decide, _, wl_S, nc_IS⟩
        cases hz), rfl, by decide, wl_I, cs_I, rfl⟩, fun q => ?_⟩
      refine v_astore i_L_alive_17 (by decide) rfl ?_
      refine v_iconst (v := 2) i_L_alive_19 rfl ?_
      exact v_iret i_L_alive_20 rfl (by decide) (by decide) (Or.inr (Or.inr (⟨hq, rfl⟩)))
theorem c_L_entry (B : qB l s0 C) (a0 : Int32) (a1 : Int32) (a2 : Int32) {Qp : Option Value → qX → Prop} {Ep : String → qX → Prop} {fs : List Value} (hM : qMet l s0 C m_P_entry rmP [.ref x, .int a0, .int a1, .int a2] X Qp Ep) (hx : X.1 x = some (.inr (4, fs))) (hQ : ∀ r X', Qp r X' → (∃ z : Int64, r = some (.long z)) ∧ ∃ f, X'.1 o = some (.inl (1, 1, .inr (.inl f)))) (hE : ∀ e X', Ep e X' → e = xS ∨ e = xI ∨ e = xA) :
    qMet l s0 C m_L_entry rmL [.ref x, .int a0, .int a1, .int a2, .ref o] X (fun r X'' => (∃ (z : Int64) (X' : qX) (f : Nat → Int64), Qp (some (.long z)) X' ∧ X'.1 o = some (.inl (1, 1, .inr (.inl f))) ∧ X'' = qset X' o (.inl (1, 1, .inr (.inl (vp_updL f 0 (z))))) ∧ r = some (.int 0)) ∨ (Ep xS X'' ∧ r = some (.int 1)) ∨ (Ep xI X'' ∧ r = some (.int 2)) ∨ (Ep xA X'' ∧ r = some (.int 3))) (fun _ _ => False) := by
  refine q_of (by decide +kernel) (Nat.le_of_ble_eq_true rfl) ?_
  refine v_L (L' := [(0, .ref x), (1, .int a0), (2, .int a1), (3, .int a2), (4, .ref o)]) rfl ?_
  refine v_aload i_L_entry_0 rfl ?_
  refine v_iconst (v := 0) i_L_entry_2 rfl ?_
  refine v_aload_n i_L_entry_3 rfl ?_
  refine v_iload_n i_L_entry_4 rfl ?_
  refine v_iload_n i_L_entry_5 rfl ?_
  refine v_iload_n i_L_entry_6 rfl ?_
  refine v_invC B i_L_entry_7 kn_m_P_entry hM hx rfl rfl (Nat.le_of_ble_eq_true rfl) ⟨by decide, by decide, by decide, by decide⟩ (fun r X' hq => ?_) (fun E X9 hq => ?_)
  · obtain ⟨⟨z, rfl⟩, f, hf⟩ := hQ r X' hq
    refine v_last (j := 0) B hf rfl (by decide) (by decide) i_L_entry_10 ?_
    refine v_goto (tgt := 26) i_L_entry_11 rfl ?_
    refine v_iconst (v := 0) i_L_entry_26 rfl ?_
    exact v_iret i_L_entry_27 rfl (by decide) (by decide) (Or.inl ⟨z, X', f, hq, hf, rfl, rfl⟩)
  · rcases hE E X9 hq with rfl | rfl | rfl
    · refine ⟨14, ⟨[], (0, 11, 14, 13), [(0, 11, 18, 31), (0, 11, 22, 52)], _, rfl, (fun z hz => (nomatch hz)), rfl, by decide, wl_S, cs_S, rfl⟩, fun q => ?_⟩
      refine v_astore i_L_entry_14 (by decide) rfl ?_
      refine v_iconst (v := 1) i_L_entry_16 rfl ?_
      exact v_iret i_L_entry_17 rfl (by decide) (by decide) (Or.inr (Or.inl ⟨hq, rfl⟩))
    · refine ⟨18, ⟨[(0, 11, 14, 13)], (0, 11, 18, 31), [(0, 11, 22, 52)], _, rfl, (fun z hz => by
        rcases List.mem_cons.mp hz with hz1 | hz
        · rw [hz1]; exact ⟨by decide, _, wl_S, nc_IS⟩
        cases hz), rfl, by decide, wl_I, cs_I, rfl⟩, fun q => ?_⟩
      refine v_astore i_L_entry_18 (by decide) rfl ?_
      refine v_iconst (v := 2) i_L_entry_20 rfl ?_
      exact v_iret i_L_entry_21 rfl (by decide) (by decide) (Or.inr (Or.inr (Or.inl ⟨hq, rfl⟩)))
    · refine ⟨22, ⟨[(0, 11, 14, 13), (0, 11, 18, 31)], (0, 11, 22, 52), [], _, rfl, (fun z hz => by
        rcases List.mem_cons.mp hz with hz1 | hz
        · rw [hz1]; exact ⟨by decide, _, wl_S, nc_AS⟩
        rcases List.mem_cons.mp hz with hz1 | hz
        · rw [hz1]; exact ⟨by decide, _, wl_I, nc_AI⟩
        cases hz), rfl, by decide, wl_A, cs_A, rfl⟩, fun q => ?_⟩
      refine v_astore i_L_entry_22 (by decide) rfl ?_
      refine v_iconst (v := 3) i_L_entry_24 rfl ?_
      exact v_iret i_L_entry_25 rfl (by decide) (by decide) (Or.inr (Or.inr (Or.inr (⟨hq, rfl⟩))))
theorem c_L_root (B : qB l s0 C) (a0 : Int32) {Qp : Option Value → qX → Prop} {Ep : String → qX → Prop} {fs : List Value} (hM : qMet l s0 C m_P_root rmP [.ref x, .int a0] X Qp Ep) (hx : X.1 x = some (.inr (4, fs))) (hQ : ∀ r X', Qp r X' → (∃ z : Int32, r = some (.int z)) ∧ ∃ f, X'.1 o = some (.inl (1, 1, .inr (.inl f)))) (hE : ∀ e X', Ep e X' → e = xS ∨ e = xI) :
    qMet l s0 C m_L_root rmL [.ref x, .int a0, .ref o] X (fun r X'' => (∃ (z : Int32) (X' : qX) (f : Nat → Int64), Qp (some (.int z)) X' ∧ X'.1 o = some (.inl (1, 1, .inr (.inl f))) ∧ X'' = qset X' o (.inl (1, 1, .inr (.inl (vp_updL f 0 (z.toInt64))))) ∧ r = some (.int 0)) ∨ (Ep xS X'' ∧ r = some (.int 1)) ∨ (Ep xI X'' ∧ r = some (.int 2))) (fun _ _ => False) := by
  refine q_of (by decide +kernel) (Nat.le_of_ble_eq_true rfl) ?_
  refine v_L (L' := [(0, .ref x), (1, .int a0), (2, .ref o)]) rfl ?_
  refine v_aload_n i_L_root_0 rfl ?_
  refine v_iconst (v := 0) i_L_root_1 rfl ?_
  refine v_aload_n i_L_root_2 rfl ?_
  refine v_iload_n i_L_root_3 rfl ?_
  refine v_invC B i_L_root_4 kn_m_P_root hM hx rfl rfl (Nat.le_of_ble_eq_true rfl) ⟨by decide, by decide, by decide, by decide⟩ (fun r X' hq => ?_) (fun E X9 hq => ?_)
  · obtain ⟨⟨z, rfl⟩, f, hf⟩ := hQ r X' hq
    refine v_i2l i_L_root_7 ?_
    refine v_last (j := 0) B hf rfl (by decide) (by decide) i_L_root_8 ?_
    refine v_goto (tgt := 18) i_L_root_9 rfl ?_
    refine v_iconst (v := 0) i_L_root_18 rfl ?_
    exact v_iret i_L_root_19 rfl (by decide) (by decide) (Or.inl ⟨z, X', f, hq, hf, rfl, rfl⟩)
  · rcases hE E X9 hq with rfl | rfl
    · refine ⟨12, ⟨[], (0, 9, 12, 13), [(0, 9, 15, 31)], _, rfl, (fun z hz => (nomatch hz)), rfl, by decide, wl_S, cs_S, rfl⟩, fun q => ?_⟩
      refine v_astore_n i_L_root_12 (by decide) rfl ?_
      refine v_iconst (v := 1) i_L_root_13 rfl ?_
      exact v_iret i_L_root_14 rfl (by decide) (by decide) (Or.inr (Or.inl ⟨hq, rfl⟩))
    · refine ⟨15, ⟨[(0, 9, 12, 13)], (0, 9, 15, 31), [], _, rfl, (fun z hz => by
        rcases List.mem_cons.mp hz with hz1 | hz
        · rw [hz1]; exact ⟨by decide, _, wl_S, nc_IS⟩
        cases hz), rfl, by decide, wl_I, cs_I, rfl⟩, fun q => ?_⟩
      refine v_astore_n i_L_root_15 (by decide) rfl ?_
      refine v_iconst (v := 2) i_L_root_16 rfl ?_
      exact v_iret i_L_root_17 rfl (by decide) (by decide) (Or.inr (Or.inr (⟨hq, rfl⟩)))
theorem c_L_bound (B : qB l s0 C)  {Qp : Option Value → qX → Prop} {Ep : String → qX → Prop} {fs : List Value} (hM : qMet l s0 C m_P_bound rmP [.ref x] X Qp Ep) (hx : X.1 x = some (.inr (4, fs))) (hQ : ∀ r X', Qp r X' → (∃ z : Int32, r = some (.int z)) ∧ ∃ f, X'.1 o = some (.inl (1, 1, .inr (.inl f)))) (hE : ∀ e X', Ep e X' → e = xS) :
    qMet l s0 C m_L_bound rmL [.ref x, .ref o] X (fun r X'' => (∃ (z : Int32) (X' : qX) (f : Nat → Int64), Qp (some (.int z)) X' ∧ X'.1 o = some (.inl (1, 1, .inr (.inl f))) ∧ X'' = qset X' o (.inl (1, 1, .inr (.inl (vp_updL f 0 (z.toInt64))))) ∧ r = some (.int 0)) ∨ (Ep xS X'' ∧ r = some (.int 1))) (fun _ _ => False) := by
  refine q_of (by decide +kernel) (Nat.le_of_ble_eq_true rfl) ?_
  refine v_L (L' := [(0, .ref x), (1, .ref o)]) rfl ?_
  refine v_aload_n i_L_bound_0 rfl ?_
  refine v_iconst (v := 0) i_L_bound_1 rfl ?_
  refine v_aload_n i_L_bound_2 rfl ?_
  refine v_invC B i_L_bound_3 kn_m_P_bound hM hx rfl rfl (Nat.le_of_ble_eq_true rfl) ⟨by decide, by decide, by decide, by decide⟩ (fun r X' hq => ?_) (fun E X9 hq => ?_)
  · obtain ⟨⟨z, rfl⟩, f, hf⟩ := hQ r X' hq
    refine v_i2l i_L_bound_6 ?_
    refine v_last (j := 0) B hf rfl (by decide) (by decide) i_L_bound_7 ?_
    refine v_goto (tgt := 14) i_L_bound_8 rfl ?_
    refine v_iconst (v := 0) i_L_bound_14 rfl ?_
    exact v_iret i_L_bound_15 rfl (by decide) (by decide) (Or.inl ⟨z, X', f, hq, hf, rfl, rfl⟩)
  · obtain rfl := hE E X9 hq
    refine ⟨11, ⟨[], (0, 8, 11, 13), [], _, rfl, (fun z hz => (nomatch hz)), rfl, by decide, wl_S, cs_S, rfl⟩, fun q => ?_⟩
    refine v_astore_n i_L_bound_11 (by decide) rfl ?_
    refine v_iconst (v := 1) i_L_bound_12 rfl ?_
    exact v_iret i_L_bound_13 rfl (by decide) (by decide) (Or.inr (⟨hq, rfl⟩))
theorem c_L_dense (B : qB l s0 C)  {Qp : Option Value → qX → Prop} {Ep : String → qX → Prop} {fs : List Value} (hM : qMet l s0 C m_P_dense rmP [.ref x] X Qp Ep) (hx : X.1 x = some (.inr (4, fs))) (hQ : ∀ r X', Qp r X' → (∃ z : Int32, r = some (.int z)) ∧ ∃ f, X'.1 o = some (.inl (1, 1, .inr (.inl f)))) (hE : ∀ e X', Ep e X' → e = xS) :
    qMet l s0 C m_L_dense rmL [.ref x, .ref o] X (fun r X'' => (∃ (z : Int32) (X' : qX) (f : Nat → Int64), Qp (some (.int z)) X' ∧ X'.1 o = some (.inl (1, 1, .inr (.inl f))) ∧ X'' = qset X' o (.inl (1, 1, .inr (.inl (vp_updL f 0 ((if z = 0 then 0 else 1)))))) ∧ r = some (.int 0)) ∨ (Ep xS X'' ∧ r = some (.int 1))) (fun _ _ => False) := by
  refine q_of (by decide +kernel) (Nat.le_of_ble_eq_true rfl) ?_
  refine v_L (L' := [(0, .ref x), (1, .ref o)]) rfl ?_
  refine v_aload_n i_L_dense_0 rfl ?_
  refine v_iconst (v := 0) i_L_dense_1 rfl ?_
  refine v_aload_n i_L_dense_2 rfl ?_
  refine v_invC B i_L_dense_3 kn_m_P_dense hM hx rfl rfl (Nat.le_of_ble_eq_true rfl) ⟨by decide, by decide, by decide, by decide⟩ (fun r X' hq => ?_) (fun E X9 hq => ?_)
  · obtain ⟨⟨z, rfl⟩, f, hf⟩ := hQ r X' hq
    refine v_if_eq (tgt := 13) i_L_dense_6 rfl (fun q => ?_) (fun q => ?_)
    · refine v_lconst (v := 0) i_L_dense_13 rfl ?_
      refine v_last (j := 0) B hf rfl (by decide) (by decide) i_L_dense_14 ?_
      refine v_goto (tgt := 21) i_L_dense_15 rfl ?_
      refine v_iconst (v := 0) i_L_dense_21 rfl ?_
      refine v_iret i_L_dense_22 rfl (by decide) (by decide) (Or.inl ⟨z, X', f, hq, hf, by rw [if_pos q], rfl⟩)
    · refine v_lconst (v := 1) i_L_dense_9 rfl ?_
      refine v_goto (tgt := 14) i_L_dense_10 rfl ?_
      refine v_last (j := 0) B hf rfl (by decide) (by decide) i_L_dense_14 ?_
      refine v_goto (tgt := 21) i_L_dense_15 rfl ?_
      refine v_iconst (v := 0) i_L_dense_21 rfl ?_
      refine v_iret i_L_dense_22 rfl (by decide) (by decide) (Or.inl ⟨z, X', f, hq, hf, by rw [if_neg q], rfl⟩)
  · obtain rfl := hE E X9 hq
    refine ⟨18, ⟨[], (0, 15, 18, 13), [], _, rfl, (fun z hz => (nomatch hz)), rfl, by decide, wl_S, cs_S, rfl⟩, fun q => ?_⟩
    refine v_astore_n i_L_dense_18 (by decide) rfl ?_
    refine v_iconst (v := 1) i_L_dense_19 rfl ?_
    exact v_iret i_L_dense_20 rfl (by decide) (by decide) (Or.inr (⟨hq, rfl⟩))
theorem c_L_sync (B : qB l s0 C)  {Qp : Option Value → qX → Prop} {Ep : String → qX → Prop} {fs : List Value} (hM : qMet l s0 C m_P_sync rmP [.ref x] X Qp Ep) (hx : X.1 x = some (.inr (4, fs))) (hQ : ∀ r X', Qp r X' → (∃ z : Int32, r = some (.int z)) ∧ ∃ f, X'.1 o = some (.inl (1, 1, .inr (.inl f)))) (hE : ∀ e X', Ep e X' → e = xS ∨ e = xU) :
    qMet l s0 C m_L_sync rmL [.ref x, .ref o] X (fun r X'' => (∃ (z : Int32) (X' : qX) (f : Nat → Int64), Qp (some (.int z)) X' ∧ X'.1 o = some (.inl (1, 1, .inr (.inl f))) ∧ X'' = qset X' o (.inl (1, 1, .inr (.inl (vp_updL f 0 (z.toInt64))))) ∧ r = some (.int 0)) ∨ (Ep xS X'' ∧ r = some (.int 1)) ∨ (Ep xU X'' ∧ r = some (.int 2))) (fun _ _ => False) := by
  refine q_of (by decide +kernel) (Nat.le_of_ble_eq_true rfl) ?_
  refine v_L (L' := [(0, .ref x), (1, .ref o)]) rfl ?_
  refine v_aload_n i_L_sync_0 rfl ?_
  refine v_iconst (v := 0) i_L_sync_1 rfl ?_
  refine v_aload_n i_L_sync_2 rfl ?_
  refine v_invC B i_L_sync_3 kn_m_P_sync hM hx rfl rfl (Nat.le_of_ble_eq_true rfl) ⟨by decide, by decide, by decide, by decide⟩ (fun r X' hq => ?_) (fun E X9 hq => ?_)
  · obtain ⟨⟨z, rfl⟩, f, hf⟩ := hQ r X' hq
    refine v_i2l i_L_sync_6 ?_
    refine v_last (j := 0) B hf rfl (by decide) (by decide) i_L_sync_7 ?_
    refine v_goto (tgt := 17) i_L_sync_8 rfl ?_
    refine v_iconst (v := 0) i_L_sync_17 rfl ?_
    exact v_iret i_L_sync_18 rfl (by decide) (by decide) (Or.inl ⟨z, X', f, hq, hf, rfl, rfl⟩)
  · rcases hE E X9 hq with rfl | rfl
    · refine ⟨11, ⟨[], (0, 8, 11, 13), [(0, 8, 14, 15)], _, rfl, (fun z hz => (nomatch hz)), rfl, by decide, wl_S, cs_S, rfl⟩, fun q => ?_⟩
      refine v_astore_n i_L_sync_11 (by decide) rfl ?_
      refine v_iconst (v := 1) i_L_sync_12 rfl ?_
      exact v_iret i_L_sync_13 rfl (by decide) (by decide) (Or.inr (Or.inl ⟨hq, rfl⟩))
    · refine ⟨14, ⟨[(0, 8, 11, 13)], (0, 8, 14, 15), [], _, rfl, (fun z hz => by
        rcases List.mem_cons.mp hz with hz1 | hz
        · rw [hz1]; exact ⟨by decide, _, wl_S, nc_US⟩
        cases hz), rfl, by decide, wl_U, cs_U, rfl⟩, fun q => ?_⟩
      refine v_astore_n i_L_sync_14 (by decide) rfl ?_
      refine v_iconst (v := 2) i_L_sync_15 rfl ?_
      exact v_iret i_L_sync_16 rfl (by decide) (by decide) (Or.inr (Or.inr (⟨hq, rfl⟩)))
theorem c_L_checkpoint (B : qB l s0 C)  {Qp : Option Value → qX → Prop} {Ep : String → qX → Prop} {fs : List Value} (hM : qMet l s0 C m_P_checkpoint rmP [.ref x] X Qp Ep) (hx : X.1 x = some (.inr (4, fs))) (hQ : ∀ r X', Qp r X' → (∃ z : Int32, r = some (.int z)) ∧ ∃ f, X'.1 o = some (.inl (1, 1, .inr (.inl f)))) (hE : ∀ e X', Ep e X' → e = xS) :
    qMet l s0 C m_L_checkpoint rmL [.ref x, .ref o] X (fun r X'' => (∃ (z : Int32) (X' : qX) (f : Nat → Int64), Qp (some (.int z)) X' ∧ X'.1 o = some (.inl (1, 1, .inr (.inl f))) ∧ X'' = qset X' o (.inl (1, 1, .inr (.inl (vp_updL f 0 (z.toInt64))))) ∧ r = some (.int 0)) ∨ (Ep xS X'' ∧ r = some (.int 1))) (fun _ _ => False) := by
  refine q_of (by decide +kernel) (Nat.le_of_ble_eq_true rfl) ?_
  refine v_L (L' := [(0, .ref x), (1, .ref o)]) rfl ?_
  refine v_aload_n i_L_checkpoint_0 rfl ?_
  refine v_iconst (v := 0) i_L_checkpoint_1 rfl ?_
  refine v_aload_n i_L_checkpoint_2 rfl ?_
  refine v_invC B i_L_checkpoint_3 kn_m_P_checkpoint hM hx rfl rfl (Nat.le_of_ble_eq_true rfl) ⟨by decide, by decide, by decide, by decide⟩ (fun r X' hq => ?_) (fun E X9 hq => ?_)
  · obtain ⟨⟨z, rfl⟩, f, hf⟩ := hQ r X' hq
    refine v_i2l i_L_checkpoint_6 ?_
    refine v_last (j := 0) B hf rfl (by decide) (by decide) i_L_checkpoint_7 ?_
    refine v_goto (tgt := 14) i_L_checkpoint_8 rfl ?_
    refine v_iconst (v := 0) i_L_checkpoint_14 rfl ?_
    exact v_iret i_L_checkpoint_15 rfl (by decide) (by decide) (Or.inl ⟨z, X', f, hq, hf, rfl, rfl⟩)
  · obtain rfl := hE E X9 hq
    refine ⟨11, ⟨[], (0, 8, 11, 13), [], _, rfl, (fun z hz => (nomatch hz)), rfl, by decide, wl_S, cs_S, rfl⟩, fun q => ?_⟩
    refine v_astore_n i_L_checkpoint_11 (by decide) rfl ?_
    refine v_iconst (v := 1) i_L_checkpoint_12 rfl ?_
    exact v_iret i_L_checkpoint_13 rfl (by decide) (by decide) (Or.inr (⟨hq, rfl⟩))
theorem c_L_cut (B : qB l s0 C) (a0 : Int32) {Qp : Option Value → qX → Prop} {Ep : String → qX → Prop} {fs : List Value} (hM : qMet l s0 C m_P_cut rmP [.ref x, .int a0] X Qp Ep) (hx : X.1 x = some (.inr (4, fs))) (hQ : ∀ r X', Qp r X' → r = none) (hE : ∀ e X', Ep e X' → e = xS ∨ e = xA) :
    qMet l s0 C m_L_cut rmL [.ref x, .int a0] X (fun r X'' => (Qp none X'' ∧ r = some (.int 0)) ∨ (Ep xS X'' ∧ r = some (.int 1)) ∨ (Ep xA X'' ∧ r = some (.int 2))) (fun _ _ => False) := by
  refine q_of (by decide +kernel) (Nat.le_of_ble_eq_true rfl) ?_
  refine v_L (L' := [(0, .ref x), (1, .int a0)]) rfl ?_
  refine v_aload_n i_L_cut_0 rfl ?_
  refine v_iload_n i_L_cut_1 rfl ?_
  refine v_invC B i_L_cut_2 kn_m_P_cut hM hx rfl rfl (Nat.le_of_ble_eq_true rfl) ⟨by decide, by decide, by decide, by decide⟩ (fun r X' hq => ?_) (fun E X9 hq => ?_)
  · obtain rfl := hQ r X' hq
    refine v_goto (tgt := 14) i_L_cut_5 rfl ?_
    refine v_iconst (v := 0) i_L_cut_14 rfl ?_
    exact v_iret i_L_cut_15 rfl (by decide) (by decide) (Or.inl ⟨hq, rfl⟩)
  · rcases hE E X9 hq with rfl | rfl
    · refine ⟨8, ⟨[], (0, 5, 8, 13), [(0, 5, 11, 52)], _, rfl, (fun z hz => (nomatch hz)), rfl, by decide, wl_S, cs_S, rfl⟩, fun q => ?_⟩
      refine v_astore_n i_L_cut_8 (by decide) rfl ?_
      refine v_iconst (v := 1) i_L_cut_9 rfl ?_
      exact v_iret i_L_cut_10 rfl (by decide) (by decide) (Or.inr (Or.inl ⟨hq, rfl⟩))
    · refine ⟨11, ⟨[(0, 5, 8, 13)], (0, 5, 11, 52), [], _, rfl, (fun z hz => by
        rcases List.mem_cons.mp hz with hz1 | hz
        · rw [hz1]; exact ⟨by decide, _, wl_S, nc_AS⟩
        cases hz), rfl, by decide, wl_A, cs_A, rfl⟩, fun q => ?_⟩
      refine v_astore_n i_L_cut_11 (by decide) rfl ?_
      refine v_iconst (v := 2) i_L_cut_12 rfl ?_
      exact v_iret i_L_cut_13 rfl (by decide) (by decide) (Or.inr (Or.inr (⟨hq, rfl⟩)))
theorem c_L_down (B : qB l s0 C)  {Qp : Option Value → qX → Prop} {Ep : String → qX → Prop} {fs : List Value} (hM : qMet l s0 C m_P_down rmP [.ref x] X Qp Ep) (hx : X.1 x = some (.inr (4, fs))) (hQ : ∀ r X', Qp r X' → r = none) (hE : ∀ e X', Ep e X' → e = xS) :
    qMet l s0 C m_L_down rmL [.ref x] X (fun r X'' => (Qp none X'' ∧ r = some (.int 0)) ∨ (Ep xS X'' ∧ r = some (.int 1))) (fun _ _ => False) := by
  refine q_of (by decide +kernel) (Nat.le_of_ble_eq_true rfl) ?_
  refine v_L (L' := [(0, .ref x)]) rfl ?_
  refine v_aload_n i_L_down_0 rfl ?_
  refine v_invC B i_L_down_1 kn_m_P_down hM hx rfl rfl (Nat.le_of_ble_eq_true rfl) ⟨by decide, by decide, by decide, by decide⟩ (fun r X' hq => ?_) (fun E X9 hq => ?_)
  · obtain rfl := hQ r X' hq
    refine v_goto (tgt := 10) i_L_down_4 rfl ?_
    refine v_iconst (v := 0) i_L_down_10 rfl ?_
    exact v_iret i_L_down_11 rfl (by decide) (by decide) (Or.inl ⟨hq, rfl⟩)
  · obtain rfl := hE E X9 hq
    refine ⟨7, ⟨[], (0, 4, 7, 13), [], _, rfl, (fun z hz => (nomatch hz)), rfl, by decide, wl_S, cs_S, rfl⟩, fun q => ?_⟩
    refine v_astore_n i_L_down_7 (by decide) rfl ?_
    refine v_iconst (v := 1) i_L_down_8 rfl ?_
    exact v_iret i_L_down_9 rfl (by decide) (by decide) (Or.inr (⟨hq, rfl⟩))
theorem c_L_spoil (B : qB l s0 C) (a0 : Int32) {Qp : Option Value → qX → Prop} {Ep : String → qX → Prop} {fs : List Value} (hM : qMet l s0 C m_P_spoil rmP [.ref x, .int a0] X Qp Ep) (hx : X.1 x = some (.inr (4, fs))) (hQ : ∀ r X', Qp r X' → r = none) (hE : ∀ e X', Ep e X' → e = xI) :
    qMet l s0 C m_L_spoil rmL [.ref x, .int a0] X (fun r X'' => (Qp none X'' ∧ r = some (.int 0)) ∨ (Ep xI X'' ∧ r = some (.int 1))) (fun _ _ => False) := by
  refine q_of (by decide +kernel) (Nat.le_of_ble_eq_true rfl) ?_
  refine v_L (L' := [(0, .ref x), (1, .int a0)]) rfl ?_
  refine v_aload_n i_L_spoil_0 rfl ?_
  refine v_iload_n i_L_spoil_1 rfl ?_
  refine v_invC B i_L_spoil_2 kn_m_P_spoil hM hx rfl rfl (Nat.le_of_ble_eq_true rfl) ⟨by decide, by decide, by decide, by decide⟩ (fun r X' hq => ?_) (fun E X9 hq => ?_)
  · obtain rfl := hQ r X' hq
    refine v_goto (tgt := 11) i_L_spoil_5 rfl ?_
    refine v_iconst (v := 0) i_L_spoil_11 rfl ?_
    exact v_iret i_L_spoil_12 rfl (by decide) (by decide) (Or.inl ⟨hq, rfl⟩)
  · obtain rfl := hE E X9 hq
    refine ⟨8, ⟨[], (0, 5, 8, 31), [], _, rfl, (fun z hz => (nomatch hz)), rfl, by decide, wl_I, cs_I, rfl⟩, fun q => ?_⟩
    refine v_astore_n i_L_spoil_8 (by decide) rfl ?_
    refine v_iconst (v := 1) i_L_spoil_9 rfl ?_
    exact v_iret i_L_spoil_10 rfl (by decide) (by decide) (Or.inr (⟨hq, rfl⟩))
theorem c_L_start (B : qB l s0 C)  {Qp : Option Value → qX → Prop} {Ep : String → qX → Prop} {fs : List Value} (hM : qMet l s0 C m_P_start rmP [.ref x] X Qp Ep) (hx : X.1 x = some (.inr (4, fs))) (hQ : ∀ r X', Qp r X' → (∃ z : Int32, r = some (.int z)) ∧ ∃ f, X'.1 o = some (.inl (1, 1, .inr (.inl f)))) (hE : ∀ e X', Ep e X' → e = xS) :
    qMet l s0 C m_L_start rmL [.ref x, .ref o] X (fun r X'' => (∃ (z : Int32) (X' : qX) (f : Nat → Int64), Qp (some (.int z)) X' ∧ X'.1 o = some (.inl (1, 1, .inr (.inl f))) ∧ X'' = qset X' o (.inl (1, 1, .inr (.inl (vp_updL f 0 (z.toInt64))))) ∧ r = some (.int 0)) ∨ (Ep xS X'' ∧ r = some (.int 1))) (fun _ _ => False) := by
  refine q_of (by decide +kernel) (Nat.le_of_ble_eq_true rfl) ?_
  refine v_L (L' := [(0, .ref x), (1, .ref o)]) rfl ?_
  refine v_aload_n i_L_start_0 rfl ?_
  refine v_iconst (v := 0) i_L_start_1 rfl ?_
  refine v_aload_n i_L_start_2 rfl ?_
  refine v_invC B i_L_start_3 kn_m_P_start hM hx rfl rfl (Nat.le_of_ble_eq_true rfl) ⟨by decide, by decide, by decide, by decide⟩ (fun r X' hq => ?_) (fun E X9 hq => ?_)
  · obtain ⟨⟨z, rfl⟩, f, hf⟩ := hQ r X' hq
    refine v_i2l i_L_start_6 ?_
    refine v_last (j := 0) B hf rfl (by decide) (by decide) i_L_start_7 ?_
    refine v_goto (tgt := 14) i_L_start_8 rfl ?_
    refine v_iconst (v := 0) i_L_start_14 rfl ?_
    exact v_iret i_L_start_15 rfl (by decide) (by decide) (Or.inl ⟨z, X', f, hq, hf, rfl, rfl⟩)
  · obtain rfl := hE E X9 hq
    refine ⟨11, ⟨[], (0, 8, 11, 13), [], _, rfl, (fun z hz => (nomatch hz)), rfl, by decide, wl_S, cs_S, rfl⟩, fun q => ?_⟩
    refine v_astore_n i_L_start_11 (by decide) rfl ?_
    refine v_iconst (v := 1) i_L_start_12 rfl ?_
    exact v_iret i_L_start_13 rfl (by decide) (by decide) (Or.inr (⟨hq, rfl⟩))
theorem c_L_disk (B : qB l s0 C) (a0 : Int32) {Qp : Option Value → qX → Prop} {Ep : String → qX → Prop} {fs : List Value} (hM : qMet l s0 C m_P_disk rmP [.ref x, .int a0] X Qp Ep) (hx : X.1 x = some (.inr (4, fs))) (hQ : ∀ r X', Qp r X' → (∃ z : Int32, r = some (.int z)) ∧ ∃ f, X'.1 o = some (.inl (1, 1, .inr (.inl f)))) (hE : ∀ e X', Ep e X' → e = xA) :
    qMet l s0 C m_L_disk rmL [.ref x, .int a0, .ref o] X (fun r X'' => (∃ (z : Int32) (X' : qX) (f : Nat → Int64), Qp (some (.int z)) X' ∧ X'.1 o = some (.inl (1, 1, .inr (.inl f))) ∧ X'' = qset X' o (.inl (1, 1, .inr (.inl (vp_updL f 0 (z.toInt64))))) ∧ r = some (.int 0)) ∨ (Ep xA X'' ∧ r = some (.int 1))) (fun _ _ => False) := by
  refine q_of (by decide +kernel) (Nat.le_of_ble_eq_true rfl) ?_
  refine v_L (L' := [(0, .ref x), (1, .int a0), (2, .ref o)]) rfl ?_
  refine v_aload_n i_L_disk_0 rfl ?_
  refine v_iconst (v := 0) i_L_disk_1 rfl ?_
  refine v_aload_n i_L_disk_2 rfl ?_
  refine v_iload_n i_L_disk_3 rfl ?_
  refine v_invC B i_L_disk_4 kn_m_P_disk hM hx rfl rfl (Nat.le_of_ble_eq_true rfl) ⟨by decide, by decide, by decide, by decide⟩ (fun r X' hq => ?_) (fun E X9 hq => ?_)
  · obtain ⟨⟨z, rfl⟩, f, hf⟩ := hQ r X' hq
    refine v_i2l i_L_disk_7 ?_
    refine v_last (j := 0) B hf rfl (by decide) (by decide) i_L_disk_8 ?_
    refine v_goto (tgt := 15) i_L_disk_9 rfl ?_
    refine v_iconst (v := 0) i_L_disk_15 rfl ?_
    exact v_iret i_L_disk_16 rfl (by decide) (by decide) (Or.inl ⟨z, X', f, hq, hf, rfl, rfl⟩)
  · obtain rfl := hE E X9 hq
    refine ⟨12, ⟨[], (0, 9, 12, 52), [], _, rfl, (fun z hz => (nomatch hz)), rfl, by decide, wl_A, cs_A, rfl⟩, fun q => ?_⟩
    refine v_astore_n i_L_disk_12 (by decide) rfl ?_
    refine v_iconst (v := 1) i_L_disk_13 rfl ?_
    exact v_iret i_L_disk_14 rfl (by decide) (by decide) (Or.inr (⟨hq, rfl⟩))
end LC
