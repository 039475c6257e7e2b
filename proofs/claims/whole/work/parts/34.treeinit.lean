/-! the tree is made -/
theorem wq_over : Cond.arrayOver (.object "PastTree$Page") ∈ lw_tbl := List.mem_of_getElem? (i := 120) (by decide +kernel)
section TI
variable {l : Launch} {s0 : State} {C : qC} {μ : qM} {rm : Room} {Qp : Option Value → qX → Prop} {Ep : String → qX → Prop} {k n : Nat} {X : qX} {pc : Nat} {L : List (Nat × Value)} {st : List Value}
theorem v_newq (B : qB l s0 C) {ix N : Nat} {i : Int32} (hd : decode μ.2.1 pc = .ok (.anewarray ix, 3)) (hlk : qIn (Cond.classLink μ.1.cls ix "PastTree$Page")) (hi : i = nI N) (hN : N < 100000) (hk : k + 1 ≤ rm.cells) (hm : n + N ≤ rm.slots)
    (K : qV l s0 C μ rm Qp Ep (k + 1) (n + N) (qnew X (.inl (3, N, .inr (.inr (.inr (.inr (fun _ => none))))))) (pc + 3) L (.ref X.2 :: st)) : qV l s0 C μ rm Qp Ep k n X pc L (.int i :: st) := by
  intro p e s m args below meth c G H locs ls hR hL hl
  subst hi
  have hW := G.2.2.2.2.2.2.2.2.1
  have hcl : (nI N).toNatClampNeg = N := nI_clamp (by omega)
  obtain ⟨A0, hA0, -⟩ := B.2.1
  have hov : va_AO "PastTree$Page" s := (va_AO.of (hA0 _ wq_over)).moved hW.alike
  refine W.anew G.1 G.2.1 G.2.2.2.2.2.1 (hlk.at B hW) (va_AO.use hov) rfl hd rfl (nI_pos (by omega)) (by rw [hcl]; show N * 4 ≤ 536870912; omega) hk (by rw [hcl]; exact hm) fun cA kA comp f1 f2 f3 f4 => ?_
  rw [hcl]
  have hcA : cA = C.2 3 := by
    obtain ⟨kA2, comp2, g1, g2, g3, g4⟩ := (B.A (t := 3) rfl hW).2
    exact Option.some.inj (f1.symm.trans g4)
  have hR' : qR C s0 (qnew X (.inl (3, N, .inr (.inr (.inr (.inr (fun _ => none))))))) (H.push ({ cls := cA, slots := Array.replicate N .null, vm := .none } : Cell)) := by
    refine hR.push ?_ (by rw [Array.size_push]) (fun q hq => by rw [Array.getElem?_push, if_neg (Nat.ne_of_lt hq)])
    show (H.push _)[H.size]? = some (vp_cell (C.2 3) _)
    rw [Array.getElem?_push_size, vp_cell_q, ← hcA]
    exact congrArg some (arrV_new cA N .null)
  have KKK := K p e s m args below meth c G _ locs ls hR' hL hl
  rw [← hR.1] at KKK
  exact KKK
set_option maxHeartbeats 4000000 in
theorem c_T_init (B : qB l s0 C) {t : Nat} (h0 : X.1 t = some (.inr (3, qz 3))) (ha : X.2 = t + 1) : qMet l s0 C m_T_init rm_T_init [.ref t] X (fun r X' => r = none ∧ TrAt X' t 1 (fun _ => t + 1) (fun _ => (0, 0, none, [])) 1 0 (fun _ => 0) (fun _ => none) 0 0 0 [] [] 0 ∧ X'.2 = t + 15 ∧ ∀ q, q < t → X'.1 q = X.1 q) (fun _ _ => False) := by
  refine q_of (by decide +kernel) (Nat.le_of_ble_eq_true rfl) ?_
  refine v_L (L' := [(0, .ref t)]) rfl ?_
  refine v_aload_n i_T_init_0 rfl ?_
  refine v_obj B i_T_init_1 wo_1 wo_2 (by decide) (by decide) ?_
  refine v_aload_n i_T_init_4 rfl ?_
  refine v_new B (N := 9) i_T_init_5 rfl (by decide) (by decide) ?_
  refine v_dup i_T_init_8 rfl ?_
  refine v_iconst (v := 0) i_T_init_9 rfl ?_
  refine v_invI B i_T_init_10 kn_m_G_init (c_G_init B 0 (qnew_self _ _) (qnew_2 _ _)) rfl rfl (Nat.le_of_ble_eq_true rfl) ⟨by decide, by decide, by decide, by decide⟩ rfl (fun r X' hq => ?_) (fun _ _ h => False.elim h)
  obtain ⟨rfl, hP, zP, oP⟩ := hq
  rw [ha] at hP zP oP ⊢
  have o1 : ∀ q, q < t + 1 → X'.1 q = X.1 q := fun q hq => (oP q hq).trans (qnew_ne _ _ (by omega))
  have s1 : X'.1 t = some (.inr (3, qz 3)) := (o1 t (by omega)).trans h0
  generalize X' = X1 at hP zP o1 s1 ⊢
  refine v_put B i_T_init_13 s1 (Nat.le_of_ble_eq_true rfl) rfl rfl ?_
  refine v_aload_n i_T_init_16 rfl ?_
  refine v_sipush (v := 256) i_T_init_17 rfl ?_
  refine v_newq (N := 256) B i_T_init_20 wd_30 rfl (by omega) (by decide) (by decide) ?_
  refine v_put B i_T_init_23 (by rw [qnew_ne _ _ (by rw [qset_2]; omega)]; exact qset_self _ _ _) (Nat.le_of_ble_eq_true rfl) rfl rfl ?_
  obtain ⟨X2, e2⟩ : ∃ Y, Y = qset (qnew (qset X1 t (.inr (3, (qz 3).set 0 (.ref (t + 1))))) (.inl (3, 256, .inr (.inr (.inr (.inr (fun _ => none))))))) t (.inr (3, ((qz 3).set 0 (.ref (t + 1))).set 1 (.ref (qset X1 t (.inr (3, (qz 3).set 0 (.ref (t + 1))))).2))) := ⟨_, rfl⟩
  rw [← e2]
  have z2 : X2.2 = t + 7 := by rw [e2, qset_2, qnew_2, qset_2, zP]
  have s2 : X2.1 t = some (.inr (3, [.ref (t + 1), .ref (t + 6), .null, .int 0, .int 0, .null, .long 0, .int 0, .int 0, .null, .null, .int 0])) := by rw [e2, qset_self, qset_2, zP]; rfl
  have k2 : X2.1 (t + 6) = some (.inl (3, 256, .inr (.inr (.inr (.inr (fun _ => none)))))) := by rw [e2, qset_ne _ _ (by omega), show t + 6 = (qset X1 t (.inr (3, (qz 3).set 0 (.ref (t + 1))))).2 by rw [qset_2, zP], qnew_self]
  have p2 : PgAt X2 (t + 1) 0 (0, 0, none, []) := hP.cells (fun q h1 h2 => by rw [e2, qset_ne _ _ (by omega), qnew_ne _ _ (by rw [qset_2]; omega), qset_ne _ _ (by omega)])
  have o2 : ∀ q, q < t → X2.1 q = X.1 q := fun q hq => by rw [e2, qset_ne _ _ (by omega), qnew_ne _ _ (by rw [qset_2]; omega), qset_ne _ _ (by omega)]; exact o1 q (by omega)
  clear e2 s1 o1 hP zP oP
  refine v_aload_n i_T_init_26 rfl ?_
  refine v_get B i_T_init_27 (by first | assumption | exact qset_self _ _ _ | (rw [qset_ne _ _ (by omega)]; first | assumption | exact qset_self _ _ _ | (rw [qset_ne _ _ (by omega)]; first | assumption | exact qset_self _ _ _ | (rw [qset_ne _ _ (by omega)]; first | assumption | exact qset_self _ _ _ | (rw [qset_ne _ _ (by omega)]; first | assumption | exact qset_self _ _ _ | (rw [qset_ne _ _ (by omega)]; first | assumption | exact qset_self _ _ _ | (rw [qset_ne _ _ (by omega)]; first | assumption | exact qset_self _ _ _))))))) rfl ?_
  refine v_iconst (v := 0) i_T_init_30 rfl ?_
  refine v_aload_n i_T_init_31 rfl ?_
  refine v_get B i_T_init_32 (by first | assumption | exact qset_self _ _ _ | (rw [qset_ne _ _ (by omega)]; first | assumption | exact qset_self _ _ _ | (rw [qset_ne _ _ (by omega)]; first | assumption | exact qset_self _ _ _ | (rw [qset_ne _ _ (by omega)]; first | assumption | exact qset_self _ _ _ | (rw [qset_ne _ _ (by omega)]; first | assumption | exact qset_self _ _ _ | (rw [qset_ne _ _ (by omega)]; first | assumption | exact qset_self _ _ _ | (rw [qset_ne _ _ (by omega)]; first | assumption | exact qset_self _ _ _))))))) rfl ?_
  refine v_aast (j := 0) B k2 p2.1 rfl (by omega) (by omega) i_T_init_35 ?_
  obtain ⟨X3, e3⟩ : ∃ Y, Y = qset X2 (t + 6) (.inl (3, 256, .inr (.inr (.inr (.inr (va_up (fun _ => none) 0 (some (t + 1)))))))) := ⟨_, rfl⟩
  rw [← e3]
  have z3 : X3.2 = t + 7 := by rw [e3, qset_2, z2]
  have s3 : X3.1 t = some (.inr (3, [.ref (t + 1), .ref (t + 6), .null, .int 0, .int 0, .null, .long 0, .int 0, .int 0, .null, .null, .int 0])) := by rw [e3, qset_ne _ _ (by omega)]; exact s2
  have k3 : X3.1 (t + 6) = some (.inl (3, 256, .inr (.inr (.inr (.inr (va_up (fun _ => none) 0 (some (t + 1)))))))) := by rw [e3, qset_self]
  have p3 : PgAt X3 (t + 1) 0 (0, 0, none, []) := p2.cells (fun q h1 h2 => by rw [e3, qset_ne _ _ (by omega)])
  have o3 : ∀ q, q < t → X3.1 q = X.1 q := fun q hq => by rw [e3, qset_ne _ _ (by omega)]; exact o2 q hq
  clear e3 s2 k2 p2 o2 z2
  refine v_aload_n i_T_init_36 rfl ?_
  refine v_iconst (v := 1) i_T_init_37 rfl ?_
  refine v_put B i_T_init_38 (by first | assumption | exact qset_self _ _ _ | (rw [qset_ne _ _ (by omega)]; first | assumption | exact qset_self _ _ _ | (rw [qset_ne _ _ (by omega)]; first | assumption | exact qset_self _ _ _ | (rw [qset_ne _ _ (by omega)]; first | assumption | exact qset_self _ _ _ | (rw [qset_ne _ _ (by omega)]; first | assumption | exact qset_self _ _ _ | (rw [qset_ne _ _ (by omega)]; first | assumption | exact qset_self _ _ _ | (rw [qset_ne _ _ (by omega)]; first | assumption | exact qset_self _ _ _))))))) (Nat.le_of_ble_eq_true rfl) rfl rfl ?_
  refine v_aload_n i_T_init_41 rfl ?_
  refine v_sipush (v := 801) i_T_init_42 rfl ?_
  refine v_newa B (t := 0) (N := 801) (Or.inl ⟨rfl, rfl⟩) i_T_init_45 wa_I rfl (by omega) (by decide) (by decide) ?_
  refine v_put B i_T_init_47 (by rw [qnew_ne _ _ (by rw [qset_2]; omega)]; exact qset_self _ _ _) (Nat.le_of_ble_eq_true rfl) rfl rfl ?_
  obtain ⟨X4, e4⟩ : ∃ Y, Y = qset (qnew (qset X3 t (.inr (3, [Value.ref (t + 1), .ref (t + 6), .null, .int 0, .int 0, .null, .long 0, .int 0, .int 0, .null, .null, .int 0].set 3 (.int 1)))) (.inl (0, qt0 0 801))) t (.inr (3, ([Value.ref (t + 1), .ref (t + 6), .null, .int 0, .int 0, .null, .long 0, .int 0, .int 0, .null, .null, .int 0].set 3 (.int 1)).set 2 (.ref (qset X3 t (.inr (3, [Value.ref (t + 1), .ref (t + 6), .null, .int 0, .int 0, .null, .long 0, .int 0, .int 0, .null, .null, .int 0].set 3 (.int 1)))).2))) := ⟨_, rfl⟩
  rw [← e4]
  have z4 : X4.2 = t + 8 := by rw [e4, qset_2, qnew_2, qset_2, z3]
  have s4 : X4.1 t = some (.inr (3, [.ref (t + 1), .ref (t + 6), .ref (t + 7), .int 1, .int 0, .null, .long 0, .int 0, .int 0, .null, .null, .int 0])) := by rw [e4, qset_self, qset_2, z3]; rfl
  have k4 : X4.1 (t + 6) = some (.inl (3, 256, .inr (.inr (.inr (.inr (va_up (fun _ => none) 0 (some (t + 1)))))))) := by rw [e4, qset_ne _ _ (by omega), qnew_ne _ _ (by rw [qset_2]; omega), qset_ne _ _ (by omega)]; exact k3
  have r4 : X4.1 (t + 7) = some (.inl (0, 801, .inl (fun _ => 0))) := by
    rw [e4, qset_ne _ _ (by omega)]
    have : (qnew (qset X3 t (.inr (3, [Value.ref (t + 1), .ref (t + 6), .null, .int 0, .int 0, .null, .long 0, .int 0, .int 0, .null, .null, .int 0].set 3 (.int 1)))) (.inl (0, qt0 0 801))).1 X3.2 = some (.inl (0, qt0 0 801)) := qnew_self _ _
    rw [z3] at this
    exact this
  have p4 : PgAt X4 (t + 1) 0 (0, 0, none, []) := p3.cells (fun q h1 h2 => by rw [e4, qset_ne _ _ (by omega), qnew_ne _ _ (by rw [qset_2]; omega), qset_ne _ _ (by omega)])
  have o4 : ∀ q, q < t → X4.1 q = X.1 q := fun q hq => by rw [e4, qset_ne _ _ (by omega), qnew_ne _ _ (by rw [qset_2]; omega), qset_ne _ _ (by omega)]; exact o3 q hq
  clear e4 s3 k3 p3 o3 z3
  refine v_aload_n i_T_init_50 rfl ?_
  refine v_bipush (v := 16) i_T_init_51 rfl ?_
  refine v_newq (N := 16) B i_T_init_53 wd_30 rfl (by omega) (by decide) (by decide) ?_
  refine v_put B i_T_init_56 (by rw [qnew_ne _ _ (by omega)]; exact s4) (Nat.le_of_ble_eq_true rfl) rfl rfl ?_
  obtain ⟨X5, e5⟩ : ∃ Y, Y = qset (qnew X4 (.inl (3, 16, .inr (.inr (.inr (.inr (fun _ => none))))))) t (.inr (3, [Value.ref (t + 1), .ref (t + 6), .ref (t + 7), .int 1, .int 0, .null, .long 0, .int 0, .int 0, .null, .null, .int 0].set 5 (.ref X4.2))) := ⟨_, rfl⟩
  rw [← e5]
  have z5 : X5.2 = t + 9 := by rw [e5, qset_2, qnew_2, z4]
  have s5 : X5.1 t = some (.inr (3, [.ref (t + 1), .ref (t + 6), .ref (t + 7), .int 1, .int 0, .ref (t + 8), .long 0, .int 0, .int 0, .null, .null, .int 0])) := by rw [e5, qset_self, z4]; rfl
  have k5 : X5.1 (t + 6) = some (.inl (3, 256, .inr (.inr (.inr (.inr (va_up (fun _ => none) 0 (some (t + 1)))))))) := by rw [e5, qset_ne _ _ (by omega), qnew_ne _ _ (by omega)]; exact k4
  have r5 : X5.1 (t + 7) = some (.inl (0, 801, .inl (fun _ => 0))) := by rw [e5, qset_ne _ _ (by omega), qnew_ne _ _ (by omega)]; exact r4
  have q5 : X5.1 (t + 8) = some (.inl (3, 16, .inr (.inr (.inr (.inr (fun _ => none)))))) := by rw [e5, qset_ne _ _ (by omega), ← z4, qnew_self]
  have p5 : PgAt X5 (t + 1) 0 (0, 0, none, []) := p4.cells (fun q h1 h2 => by rw [e5, qset_ne _ _ (by omega), qnew_ne _ _ (by omega)])
  have o5 : ∀ q, q < t → X5.1 q = X.1 q := fun q hq => by rw [e5, qset_ne _ _ (by omega), qnew_ne _ _ (by omega)]; exact o4 q hq
  clear e5 s4 k4 p4 o4 z4 r4
  refine v_aload_n i_T_init_59 rfl ?_
  refine v_new B (N := 3) i_T_init_60 rfl (by decide) (by decide) ?_
  refine v_dup i_T_init_63 rfl ?_
  refine v_iconst (v := 2) i_T_init_64 rfl ?_
  refine v_invI B i_T_init_65 kn_m_R_init (c_R_init B (z := qz 2) 2 (by omega) (qnew_self _ _) rfl (qnew_2 _ _)) rfl rfl (Nat.le_of_ble_eq_true rfl) ⟨by decide, by decide, by decide, by decide⟩ rfl (fun r X' hq => ?_) (fun _ _ h => False.elim h)
  obtain ⟨rfl, hc6, z6, oc6⟩ := hq
  rw [z5] at hc6 z6 oc6 ⊢
  have o6 : ∀ q, q < t + 9 → X'.1 q = X5.1 q := fun q hq => (oc6 q hq).trans (qnew_ne _ _ (by omega))
  generalize X' = X6 at hc6 z6 o6 ⊢
  refine v_put B i_T_init_68 ((o6 t (by omega)).trans s5) (Nat.le_of_ble_eq_true rfl) rfl rfl ?_
  obtain ⟨X7, e7⟩ : ∃ Y, Y = qset X6 t (.inr (3, [Value.ref (t + 1), .ref (t + 6), .ref (t + 7), .int 1, .int 0, .ref (t + 8), .long 0, .int 0, .int 0, .null, .null, .int 0].set 9 (.ref (t + 9)))) := ⟨_, rfl⟩
  rw [← e7]
  have z7 : X7.2 = t + 12 := by rw [e7, qset_2, z6]
  have s7 : X7.1 t = some (.inr (3, [.ref (t + 1), .ref (t + 6), .ref (t + 7), .int 1, .int 0, .ref (t + 8), .long 0, .int 0, .int 0, .ref (t + 9), .null, .int 0])) := by rw [e7, qset_self]; rfl
  have o7 : ∀ q, q < t + 9 → q ≠ t → X7.1 q = X5.1 q := fun q hq hn => by rw [e7, qset_ne _ _ hn]; exact o6 q hq
  have c7 : RowAt X7 (t + 9) 2 [] := hc6.cells (fun q h1 h2 => by rw [e7, qset_ne _ _ (by omega)])
  clear e7 s5 hc6 o6 z6 oc6
  refine v_aload_n i_T_init_71 rfl ?_
  refine v_new B (N := 3) i_T_init_72 rfl (by decide) (by decide) ?_
  refine v_dup i_T_init_75 rfl ?_
  refine v_bipush (v := 34) i_T_init_76 rfl ?_
  refine v_invI B i_T_init_78 kn_m_R_init (c_R_init B (z := qz 2) 34 (by omega) (qnew_self _ _) rfl (qnew_2 _ _)) rfl rfl (Nat.le_of_ble_eq_true rfl) ⟨by decide, by decide, by decide, by decide⟩ rfl (fun r X' hq => ?_) (fun _ _ h => False.elim h)
  obtain ⟨rfl, hc8, z8, oc8⟩ := hq
  rw [z7] at hc8 z8 oc8 ⊢
  have o8 : ∀ q, q < t + 12 → X'.1 q = X7.1 q := fun q hq => (oc8 q hq).trans (qnew_ne _ _ (by omega))
  generalize X' = X8 at hc8 z8 o8 ⊢
  refine v_put B i_T_init_81 ((o8 t (by omega)).trans s7) (Nat.le_of_ble_eq_true rfl) rfl rfl ?_
  have o9 : ∀ q, q < t + 9 → q ≠ t → (qset X8 t (.inr (3, [Value.ref (t + 1), .ref (t + 6), .ref (t + 7), .int 1, .int 0, .ref (t + 8), .long 0, .int 0, .int 0, .ref (t + 9), .null, .int 0].set 10 (.ref (t + 12))))).1 q = X5.1 q := fun q hq hn => by rw [qset_ne _ _ hn, o8 q (by omega)]; exact o7 q hq hn
  refine v_vret i_T_init_84 rfl (by decide) (by decide) ⟨rfl, ⟨?_, ⟨va_up (fun _ => none) 0 (some (t + 1)), (o9 (t + 6) (by omega) (by omega)).trans k5, ?_, ?_⟩, ⟨fun _ => 0, (o9 (t + 7) (by omega) (by omega)).trans r5, fun i _ => rfl⟩, ⟨fun _ => none, (o9 (t + 8) (by omega) (by omega)).trans q5, fun j _ => rfl⟩, ?_, ?_, ?_, by decide, fun i _ => (by show 0 < 256; decide), fun j i h => (by cases h), rfl, fun i j h1 h2 => (by omega), fun i h1 h2 => (by omega), by rw [qset_2]; omega⟩, ?_, ?_⟩
  · rw [qset_self]; rfl
  · intro i hi
    rw [show i = 0 by omega, va_up_self]
  · intro i hi
    rw [va_up_ne _ _ (by omega)]
  · exact (c7.cells (fun q h1 h2 => o8 q (by omega))).cells (fun q h1 h2 => by rw [qset_ne _ _ (by omega)])
  · exact hc8.cells (fun q h1 h2 => by rw [qset_ne _ _ (by omega)])
  · intro i hi
    rw [show i = 0 by omega]
    exact p5.cells (fun q h1 h2 => o9 q (by omega) (by omega))
  · rw [qset_2]; omega
  · intro q hq
    rw [o9 q (by omega) (by omega)]
    exact o5 q hq
end TI
