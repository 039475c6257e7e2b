/-! pages: a new one, and going back -/
section PB
variable {l : Launch} {s0 : State} {C : qC} {X : qX} {a num : Nat} {P : Pg}
set_option maxHeartbeats 1000000 in
theorem c_G_init (B : qB l s0 C) (num : Nat) (h0 : X.1 a = some (.inr (1, qz 1))) (ha : X.2 = a + 1) : qMet l s0 C m_G_init rm_G_init [.ref a, .int (nI num)] X (fun r X' => r = none ∧ PgAt X' a num (0, 0, none, []) ∧ X'.2 = a + 5 ∧ ∀ q, q < a → X'.1 q = X.1 q) (fun _ _ => False) := by
  refine q_of (by decide +kernel) (Nat.le_of_ble_eq_true rfl) ?_
  refine v_L (L' := [(0, .ref a), (1, .int (nI num))]) rfl ?_
  refine v_aload_n i_G_init_0 rfl ?_
  refine v_obj B i_G_init_1 wo_1 wo_2 (by decide) (by decide) ?_
  refine v_aload_n i_G_init_4 rfl ?_
  refine v_iload_n i_G_init_5 rfl ?_
  refine v_put B i_G_init_6 h0 (Nat.le_of_ble_eq_true rfl) rfl rfl ?_
  obtain ⟨X1, e1⟩ : ∃ Y, Y = qset X a (.inr (1, (qz 1).set 0 (.int (nI num)))) := ⟨_, rfl⟩
  rw [← e1]
  have z1 : X1.2 = a + 1 := by rw [e1]; exact ha
  have s1 : X1.1 a = some (.inr (1, [.int (nI num), .null, .null, .null, .null, .int 0, .int 0, .int 0, .int 0])) := by rw [e1, qset_self]; rfl
  have o1 : ∀ q, q < a → X1.1 q = X.1 q := fun q hq => by rw [e1, qset_ne _ _ (by omega)]
  clear e1
  refine v_aload_n i_G_init_9 rfl ?_
  refine v_bipush (v := 16) i_G_init_10 rfl ?_
  refine v_newa B (t := 0) (N := 16) (Or.inl ⟨rfl, rfl⟩) i_G_init_12 wa_I rfl (by omega) (by decide) (by decide) ?_
  refine v_put B i_G_init_14 (by rw [qnew_ne _ _ (by omega)]; exact s1) (Nat.le_of_ble_eq_true rfl) rfl rfl ?_
  obtain ⟨X2, e2⟩ : ∃ Y, Y = qset (qnew X1 (.inl (0, qt0 0 16))) a (.inr (1, [Value.int (nI num), .null, .null, .null, .null, .int 0, .int 0, .int 0, .int 0].set 1 (.ref X1.2))) := ⟨_, rfl⟩
  rw [← e2]
  have z2 : X2.2 = a + 2 := by rw [e2, qset_2, qnew_2, z1]
  have s2 : X2.1 a = some (.inr (1, [.int (nI num), .ref (a + 1), .null, .null, .null, .int 0, .int 0, .int 0, .int 0])) := by rw [e2, qset_self, z1]; rfl
  have k2 : X2.1 (a + 1) = some (.inl (0, 16, .inl (fun _ => 0))) := by rw [e2, qset_ne _ _ (by omega), ← z1, qnew_self]; rfl
  have o2 : ∀ q, q < a → X2.1 q = X.1 q := fun q hq => by rw [e2, qset_ne _ _ (by omega), qnew_ne _ _ (by omega)]; exact o1 q hq
  clear e2 s1 o1
  refine v_aload_n i_G_init_17 rfl ?_
  refine v_bipush (v := 16) i_G_init_18 rfl ?_
  refine v_newa B (t := 0) (N := 16) (Or.inl ⟨rfl, rfl⟩) i_G_init_20 wa_I rfl (by omega) (by decide) (by decide) ?_
  refine v_put B i_G_init_22 (by rw [qnew_ne _ _ (by omega)]; exact s2) (Nat.le_of_ble_eq_true rfl) rfl rfl ?_
  obtain ⟨X3, e3⟩ : ∃ Y, Y = qset (qnew X2 (.inl (0, qt0 0 16))) a (.inr (1, [Value.int (nI num), .ref (a + 1), .null, .null, .null, .int 0, .int 0, .int 0, .int 0].set 2 (.ref X2.2))) := ⟨_, rfl⟩
  rw [← e3]
  have z3 : X3.2 = a + 3 := by rw [e3, qset_2, qnew_2, z2]
  have s3 : X3.1 a = some (.inr (1, [.int (nI num), .ref (a + 1), .ref (a + 2), .null, .null, .int 0, .int 0, .int 0, .int 0])) := by rw [e3, qset_self, z2]; rfl
  have k3 : X3.1 (a + 1) = some (.inl (0, 16, .inl (fun _ => 0))) := by rw [e3, qset_ne _ _ (by omega), qnew_ne _ _ (by omega)]; exact k2
  have f3 : X3.1 (a + 2) = some (.inl (0, 16, .inl (fun _ => 0))) := by rw [e3, qset_ne _ _ (by omega), ← z2, qnew_self]; rfl
  have o3 : ∀ q, q < a → X3.1 q = X.1 q := fun q hq => by rw [e3, qset_ne _ _ (by omega), qnew_ne _ _ (by omega)]; exact o2 q hq
  clear e3 s2 o2 k2
  refine v_aload_n i_G_init_25 rfl ?_
  refine v_bipush (v := 16) i_G_init_26 rfl ?_
  refine v_newa B (t := 0) (N := 16) (Or.inl ⟨rfl, rfl⟩) i_G_init_28 wa_I rfl (by omega) (by decide) (by decide) ?_
  refine v_put B i_G_init_30 (by rw [qnew_ne _ _ (by omega)]; exact s3) (Nat.le_of_ble_eq_true rfl) rfl rfl ?_
  obtain ⟨X4, e4⟩ : ∃ Y, Y = qset (qnew X3 (.inl (0, qt0 0 16))) a (.inr (1, [Value.int (nI num), .ref (a + 1), .ref (a + 2), .null, .null, .int 0, .int 0, .int 0, .int 0].set 3 (.ref X3.2))) := ⟨_, rfl⟩
  rw [← e4]
  have z4 : X4.2 = a + 4 := by rw [e4, qset_2, qnew_2, z3]
  have s4 : X4.1 a = some (.inr (1, [.int (nI num), .ref (a + 1), .ref (a + 2), .ref (a + 3), .null, .int 0, .int 0, .int 0, .int 0])) := by rw [e4, qset_self, z3]; rfl
  have k4 : X4.1 (a + 1) = some (.inl (0, 16, .inl (fun _ => 0))) := by rw [e4, qset_ne _ _ (by omega), qnew_ne _ _ (by omega)]; exact k3
  have f4 : X4.1 (a + 2) = some (.inl (0, 16, .inl (fun _ => 0))) := by rw [e4, qset_ne _ _ (by omega), qnew_ne _ _ (by omega)]; exact f3
  have t4 : X4.1 (a + 3) = some (.inl (0, 16, .inl (fun _ => 0))) := by rw [e4, qset_ne _ _ (by omega), ← z3, qnew_self]; rfl
  have o4 : ∀ q, q < a → X4.1 q = X.1 q := fun q hq => by rw [e4, qset_ne _ _ (by omega), qnew_ne _ _ (by omega)]; exact o3 q hq
  clear e4 s3 o3 k3 f3
  refine v_aload_n i_G_init_33 rfl ?_
  refine v_bipush (v := 16) i_G_init_34 rfl ?_
  refine v_newa B (t := 1) (N := 16) (Or.inr (Or.inl ⟨rfl, rfl⟩)) i_G_init_36 wa_J rfl (by omega) (by decide) (by decide) ?_
  refine v_put B i_G_init_38 (by rw [qnew_ne _ _ (by omega)]; exact s4) (Nat.le_of_ble_eq_true rfl) rfl rfl ?_
  obtain ⟨X5, e5⟩ : ∃ Y, Y = qset (qnew X4 (.inl (1, qt0 1 16))) a (.inr (1, [Value.int (nI num), .ref (a + 1), .ref (a + 2), .ref (a + 3), .null, .int 0, .int 0, .int 0, .int 0].set 4 (.ref X4.2))) := ⟨_, rfl⟩
  rw [← e5]
  have z5 : X5.2 = a + 5 := by rw [e5, qset_2, qnew_2, z4]
  have s5 : X5.1 a = some (.inr (1, [.int (nI num), .ref (a + 1), .ref (a + 2), .ref (a + 3), .ref (a + 4), .int 0, .int 0, .int 0, .int 0])) := by rw [e5, qset_self, z4]; rfl
  have k5 : X5.1 (a + 1) = some (.inl (0, 16, .inl (fun _ => 0))) := by rw [e5, qset_ne _ _ (by omega), qnew_ne _ _ (by omega)]; exact k4
  have f5 : X5.1 (a + 2) = some (.inl (0, 16, .inl (fun _ => 0))) := by rw [e5, qset_ne _ _ (by omega), qnew_ne _ _ (by omega)]; exact f4
  have t5 : X5.1 (a + 3) = some (.inl (0, 16, .inl (fun _ => 0))) := by rw [e5, qset_ne _ _ (by omega), qnew_ne _ _ (by omega)]; exact t4
  have w5 : X5.1 (a + 4) = some (.inl (1, 16, .inr (.inl (fun _ => 0)))) := by rw [e5, qset_ne _ _ (by omega), ← z4, qnew_self]; rfl
  have o5 : ∀ q, q < a → X5.1 q = X.1 q := fun q hq => by rw [e5, qset_ne _ _ (by omega), qnew_ne _ _ (by omega)]; exact o4 q hq
  clear e5 s4 o4 k4 f4 t4
  refine v_aload_n i_G_init_41 rfl ?_
  refine v_iconst (v := (-1)) i_G_init_42 rfl ?_
  refine v_put B i_G_init_43 (by first | assumption | exact qset_self _ _ _ | (rw [qset_ne _ _ (by omega)]; first | assumption | exact qset_self _ _ _ | (rw [qset_ne _ _ (by omega)]; first | assumption | exact qset_self _ _ _ | (rw [qset_ne _ _ (by omega)]; first | assumption | exact qset_self _ _ _ | (rw [qset_ne _ _ (by omega)]; first | assumption | exact qset_self _ _ _ | (rw [qset_ne _ _ (by omega)]; first | assumption | exact qset_self _ _ _ | (rw [qset_ne _ _ (by omega)]; first | assumption | exact qset_self _ _ _))))))) (Nat.le_of_ble_eq_true rfl) rfl rfl ?_
  refine v_vret i_G_init_46 rfl (by decide) (by decide) ⟨rfl, ⟨?_, ⟨by decide, by decide, fun t ht => (by cases ht), Nat.zero_le _, fun i hi => absurd hi (Nat.not_lt_zero i)⟩, fun _ => 0, fun _ => 0, fun _ => 0, fun _ => 0, (by first | assumption | exact qset_self _ _ _ | (rw [qset_ne _ _ (by omega)]; first | assumption | exact qset_self _ _ _ | (rw [qset_ne _ _ (by omega)]; first | assumption | exact qset_self _ _ _ | (rw [qset_ne _ _ (by omega)]; first | assumption | exact qset_self _ _ _ | (rw [qset_ne _ _ (by omega)]; first | assumption | exact qset_self _ _ _ | (rw [qset_ne _ _ (by omega)]; first | assumption | exact qset_self _ _ _ | (rw [qset_ne _ _ (by omega)]; first | assumption | exact qset_self _ _ _))))))), (by first | assumption | exact qset_self _ _ _ | (rw [qset_ne _ _ (by omega)]; first | assumption | exact qset_self _ _ _ | (rw [qset_ne _ _ (by omega)]; first | assumption | exact qset_self _ _ _ | (rw [qset_ne _ _ (by omega)]; first | assumption | exact qset_self _ _ _ | (rw [qset_ne _ _ (by omega)]; first | assumption | exact qset_self _ _ _ | (rw [qset_ne _ _ (by omega)]; first | assumption | exact qset_self _ _ _ | (rw [qset_ne _ _ (by omega)]; first | assumption | exact qset_self _ _ _))))))), (by first | assumption | exact qset_self _ _ _ | (rw [qset_ne _ _ (by omega)]; first | assumption | exact qset_self _ _ _ | (rw [qset_ne _ _ (by omega)]; first | assumption | exact qset_self _ _ _ | (rw [qset_ne _ _ (by omega)]; first | assumption | exact qset_self _ _ _ | (rw [qset_ne _ _ (by omega)]; first | assumption | exact qset_self _ _ _ | (rw [qset_ne _ _ (by omega)]; first | assumption | exact qset_self _ _ _ | (rw [qset_ne _ _ (by omega)]; first | assumption | exact qset_self _ _ _))))))), (by first | assumption | exact qset_self _ _ _ | (rw [qset_ne _ _ (by omega)]; first | assumption | exact qset_self _ _ _ | (rw [qset_ne _ _ (by omega)]; first | assumption | exact qset_self _ _ _ | (rw [qset_ne _ _ (by omega)]; first | assumption | exact qset_self _ _ _ | (rw [qset_ne _ _ (by omega)]; first | assumption | exact qset_self _ _ _ | (rw [qset_ne _ _ (by omega)]; first | assumption | exact qset_self _ _ _ | (rw [qset_ne _ _ (by omega)]; first | assumption | exact qset_self _ _ _))))))), fun i hi => absurd hi (Nat.not_lt_zero i)⟩, ?_, ?_⟩
  · rw [qset_self]; rfl
  · rw [qset_2]; exact z5
  · intro q hq
    rw [qset_ne _ _ (by omega)]
    exact o5 q hq
theorem gback_len (P : Pg) (v : Nat) : (gback P v).2.2.2.length = gtrim P.2.2.2 v P.2.2.2.length := by
  have := gtrim_le P.2.2.2 v P.2.2.2.length
  simp [gback]; omega
theorem en_take (es : List Ent) (n i : Nat) (h : i < n) : en (es.take n) i = en es i := by
  simp only [en, List.getD_eq_getElem?_getD, List.getElem?_take, if_pos h]
theorem en_map (es : List Ent) (f : Ent → Ent) (i : Nat) (h : i < es.length) : en (es.map f) i = f (en es i) := by
  simp only [en, List.getD_eq_getElem?_getD, List.getElem?_map, List.getElem?_eq_getElem h]; rfl
theorem gback_en (P : Pg) (v i : Nat) (h : i < gtrim P.2.2.2 v P.2.2.2.length) : en (gback P v).2.2.2 i = ((en P.2.2.2 i).1, (en P.2.2.2 i).2.1, oback (en P.2.2.2 i).2.2.1 v, (en P.2.2.2 i).2.2.2) := by
  have := gtrim_le P.2.2.2 v P.2.2.2.length
  show en ((P.2.2.2.take _).map _) i = _
  rw [en_map _ _ _ (by simp; omega), en_take _ _ _ h]
/-- the loop that ends what ended later -/
theorem c_G_goBackTo_2 (B : qB l s0 C) (v : Nat) (hv : v < 2 ^ 30) (hok : PgOk P) : ∀ (j i : Nat) (X' : qX) (fk ff ft : Nat → Int32) (fw : Nat → Int64), i + j = gtrim P.2.2.2 v P.2.2.2.length →
      X'.1 a = some (.inr (1, [.int (nI num), .ref (a + 1), .ref (a + 2), .ref (a + 3), .ref (a + 4), .int (nI P.1), .int (nI P.2.1), .int (vO (oback P.2.2.1 v)), .int (nI (gtrim P.2.2.2 v P.2.2.2.length))])) →
      X'.1 (a + 1) = some (.inl (0, 16, .inl fk)) → X'.1 (a + 2) = some (.inl (0, 16, .inl ff)) → X'.1 (a + 3) = some (.inl (0, 16, .inl ft)) → X'.1 (a + 4) = some (.inl (1, 16, .inr (.inl fw))) →
      (∀ q, q < gtrim P.2.2.2 v P.2.2.2.length → fk q = (en P.2.2.2 q).1 ∧ ff q = nI (en P.2.2.2 q).2.1 ∧ ft q = vO (if q < i then oback (en P.2.2.2 q).2.2.1 v else (en P.2.2.2 q).2.2.1) ∧ fw q = (en P.2.2.2 q).2.2.2) → qSame X X' a (a + 5) →
      qV l s0 C m_G_goBackTo rm_G_goBackTo (fun r X'' => r = none ∧ PgAt X'' a num (gback P v) ∧ qSame X X'' a (a + 5)) (fun _ _ => False) 0 0 X' 57 [(0, .ref a), (1, .int (nI v)), (2, .int (nI i))] [] := by
  obtain ⟨ok1, ok2, ok3, ok4, ok5⟩ := hok
  have htl := gtrim_le P.2.2.2 v P.2.2.2.length
  intro j
  induction j with
  | zero =>
    intro i X' fk ff ft fw hi h0 hk hf ht hw hg hs
    refine v_iload_n i_G_goBackTo_57 rfl ?_
    refine v_aload_n i_G_goBackTo_58 rfl ?_
    refine v_get B i_G_goBackTo_59 (by first | assumption | exact qset_self _ _ _ | (rw [qset_ne _ _ (by omega)]; first | assumption | exact qset_self _ _ _ | (rw [qset_ne _ _ (by omega)]; first | assumption | exact qset_self _ _ _ | (rw [qset_ne _ _ (by omega)]; first | assumption | exact qset_self _ _ _ | (rw [qset_ne _ _ (by omega)]; first | assumption | exact qset_self _ _ _ | (rw [qset_ne _ _ (by omega)]; first | assumption | exact qset_self _ _ _ | (rw [qset_ne _ _ (by omega)]; first | assumption | exact qset_self _ _ _))))))) rfl ?_
    refine v_icmp_ge (tgt := 97) i_G_goBackTo_62 rfl (fun h62 => ?_) (fun h62 => ?_)
    · refine v_vret i_G_goBackTo_97 rfl (by decide) (by decide) ⟨rfl, ⟨?_, ⟨ok1, ok2, oback_lt ok3, by rw [gback_len]; omega, ?_⟩, fk, ff, ft, fw, hk, hf, ht, hw, ?_⟩, hs⟩
      · rw [gback_len]; exact h0
      · intro q hq
        rw [gback_len] at hq
        rw [gback_en P v q hq]
        exact ⟨(ok5 q (by omega)).1, oback_lt (ok5 q (by omega)).2⟩
      · intro q hq
        rw [gback_len] at hq
        rw [gback_en P v q hq]
        have := hg q hq
        rw [if_pos (by omega)] at this
        exact this
    · exact absurd (nI_le (by omega) (by omega)) h62
  | succ j ih =>
    intro i X' fk ff ft fw hi h0 hk hf ht hw hg hs
    obtain ⟨g1, g2, g3, g4⟩ := hg i (by omega)
    rw [if_neg (Nat.lt_irrefl i)] at g3
    obtain ⟨o1, o2⟩ := ok5 i (by omega)
    have tail : qV l s0 C m_G_goBackTo rm_G_goBackTo (fun r X'' => r = none ∧ PgAt X'' a num (gback P v) ∧ qSame X X'' a (a + 5)) (fun _ _ => False) 0 0 X' 90 [(0, .ref a), (1, .int (nI v)), (2, .int (nI i))] [.int (vO (oback (en P.2.2.2 i).2.2.1 v)), .int (nI i), .ref (a + 3)] := by
      refine v_iast B (by first | assumption | exact qset_self _ _ _ | (rw [qset_ne _ _ (by omega)]; first | assumption | exact qset_self _ _ _ | (rw [qset_ne _ _ (by omega)]; first | assumption | exact qset_self _ _ _ | (rw [qset_ne _ _ (by omega)]; first | assumption | exact qset_self _ _ _ | (rw [qset_ne _ _ (by omega)]; first | assumption | exact qset_self _ _ _ | (rw [qset_ne _ _ (by omega)]; first | assumption | exact qset_self _ _ _ | (rw [qset_ne _ _ (by omega)]; first | assumption | exact qset_self _ _ _))))))) rfl (by omega) (by omega) i_G_goBackTo_90 ?_
      refine v_iinc (v := nI (i + 1)) i_G_goBackTo_91 rfl (nI_1 i) (by decide) rfl ?_
      refine v_goto (tgt := 57) i_G_goBackTo_94 rfl ?_
      refine v_loc [(0, .ref a), (1, .int (nI v)), (2, .int (nI (i + 1)))] rfl ?_
      refine ih (i + 1) _ fk ff (upd ft i (vO (oback (en P.2.2.2 i).2.2.1 v))) fw (by omega) (by first | assumption | exact qset_self _ _ _ | (rw [qset_ne _ _ (by omega)]; first | assumption | exact qset_self _ _ _ | (rw [qset_ne _ _ (by omega)]; first | assumption | exact qset_self _ _ _ | (rw [qset_ne _ _ (by omega)]; first | assumption | exact qset_self _ _ _ | (rw [qset_ne _ _ (by omega)]; first | assumption | exact qset_self _ _ _ | (rw [qset_ne _ _ (by omega)]; first | assumption | exact qset_self _ _ _ | (rw [qset_ne _ _ (by omega)]; first | assumption | exact qset_self _ _ _))))))) (by first | assumption | exact qset_self _ _ _ | (rw [qset_ne _ _ (by omega)]; first | assumption | exact qset_self _ _ _ | (rw [qset_ne _ _ (by omega)]; first | assumption | exact qset_self _ _ _ | (rw [qset_ne _ _ (by omega)]; first | assumption | exact qset_self _ _ _ | (rw [qset_ne _ _ (by omega)]; first | assumption | exact qset_self _ _ _ | (rw [qset_ne _ _ (by omega)]; first | assumption | exact qset_self _ _ _ | (rw [qset_ne _ _ (by omega)]; first | assumption | exact qset_self _ _ _))))))) (by first | assumption | exact qset_self _ _ _ | (rw [qset_ne _ _ (by omega)]; first | assumption | exact qset_self _ _ _ | (rw [qset_ne _ _ (by omega)]; first | assumption | exact qset_self _ _ _ | (rw [qset_ne _ _ (by omega)]; first | assumption | exact qset_self _ _ _ | (rw [qset_ne _ _ (by omega)]; first | assumption | exact qset_self _ _ _ | (rw [qset_ne _ _ (by omega)]; first | assumption | exact qset_self _ _ _ | (rw [qset_ne _ _ (by omega)]; first | assumption | exact qset_self _ _ _))))))) (by first | assumption | exact qset_self _ _ _ | (rw [qset_ne _ _ (by omega)]; first | assumption | exact qset_self _ _ _ | (rw [qset_ne _ _ (by omega)]; first | assumption | exact qset_self _ _ _ | (rw [qset_ne _ _ (by omega)]; first | assumption | exact qset_self _ _ _ | (rw [qset_ne _ _ (by omega)]; first | assumption | exact qset_self _ _ _ | (rw [qset_ne _ _ (by omega)]; first | assumption | exact qset_self _ _ _ | (rw [qset_ne _ _ (by omega)]; first | assumption | exact qset_self _ _ _))))))) (by first | assumption | exact qset_self _ _ _ | (rw [qset_ne _ _ (by omega)]; first | assumption | exact qset_self _ _ _ | (rw [qset_ne _ _ (by omega)]; first | assumption | exact qset_self _ _ _ | (rw [qset_ne _ _ (by omega)]; first | assumption | exact qset_self _ _ _ | (rw [qset_ne _ _ (by omega)]; first | assumption | exact qset_self _ _ _ | (rw [qset_ne _ _ (by omega)]; first | assumption | exact qset_self _ _ _ | (rw [qset_ne _ _ (by omega)]; first | assumption | exact qset_self _ _ _))))))) ?_ (hs.set _ (by omega) (by omega))
      intro q hq
      obtain ⟨a1, a2, a3, a4⟩ := hg q hq
      by_cases hqi : q = i
      · subst hqi
        rw [pk_us, if_pos (by omega)]
        exact ⟨a1, a2, rfl, a4⟩
      · rw [pk_un hqi]
        by_cases hq2 : q < i
        · rw [if_pos hq2] at a3; rw [if_pos (by omega)]; exact ⟨a1, a2, a3, a4⟩
        · rw [if_neg hq2] at a3; rw [if_neg (by omega)]; exact ⟨a1, a2, a3, a4⟩
    refine v_iload_n i_G_goBackTo_57 rfl ?_
    refine v_aload_n i_G_goBackTo_58 rfl ?_
    refine v_get B i_G_goBackTo_59 (by first | assumption | exact qset_self _ _ _ | (rw [qset_ne _ _ (by omega)]; first | assumption | exact qset_self _ _ _ | (rw [qset_ne _ _ (by omega)]; first | assumption | exact qset_self _ _ _ | (rw [qset_ne _ _ (by omega)]; first | assumption | exact qset_self _ _ _ | (rw [qset_ne _ _ (by omega)]; first | assumption | exact qset_self _ _ _ | (rw [qset_ne _ _ (by omega)]; first | assumption | exact qset_self _ _ _ | (rw [qset_ne _ _ (by omega)]; first | assumption | exact qset_self _ _ _))))))) rfl ?_
    refine v_icmp_ge (tgt := 97) i_G_goBackTo_62 rfl (fun h62 => ?_) (fun h62 => ?_)
    · exact absurd h62 (nI_ge (by omega) (by omega))
    refine v_aload_n i_G_goBackTo_65 rfl ?_
    refine v_get B i_G_goBackTo_66 (by first | assumption | exact qset_self _ _ _ | (rw [qset_ne _ _ (by omega)]; first | assumption | exact qset_self _ _ _ | (rw [qset_ne _ _ (by omega)]; first | assumption | exact qset_self _ _ _ | (rw [qset_ne _ _ (by omega)]; first | assumption | exact qset_self _ _ _ | (rw [qset_ne _ _ (by omega)]; first | assumption | exact qset_self _ _ _ | (rw [qset_ne _ _ (by omega)]; first | assumption | exact qset_self _ _ _ | (rw [qset_ne _ _ (by omega)]; first | assumption | exact qset_self _ _ _))))))) rfl ?_
    refine v_iload_n i_G_goBackTo_69 rfl ?_
    refine v_aload_n i_G_goBackTo_70 rfl ?_
    refine v_get B i_G_goBackTo_71 (by first | assumption | exact qset_self _ _ _ | (rw [qset_ne _ _ (by omega)]; first | assumption | exact qset_self _ _ _ | (rw [qset_ne _ _ (by omega)]; first | assumption | exact qset_self _ _ _ | (rw [qset_ne _ _ (by omega)]; first | assumption | exact qset_self _ _ _ | (rw [qset_ne _ _ (by omega)]; first | assumption | exact qset_self _ _ _ | (rw [qset_ne _ _ (by omega)]; first | assumption | exact qset_self _ _ _ | (rw [qset_ne _ _ (by omega)]; first | assumption | exact qset_self _ _ _))))))) rfl ?_
    refine v_iload_n i_G_goBackTo_74 rfl ?_
    refine v_iald B (by first | assumption | exact qset_self _ _ _ | (rw [qset_ne _ _ (by omega)]; first | assumption | exact qset_self _ _ _ | (rw [qset_ne _ _ (by omega)]; first | assumption | exact qset_self _ _ _ | (rw [qset_ne _ _ (by omega)]; first | assumption | exact qset_self _ _ _ | (rw [qset_ne _ _ (by omega)]; first | assumption | exact qset_self _ _ _ | (rw [qset_ne _ _ (by omega)]; first | assumption | exact qset_self _ _ _ | (rw [qset_ne _ _ (by omega)]; first | assumption | exact qset_self _ _ _))))))) rfl (by omega) (by omega) i_G_goBackTo_75 ?_
    refine v_iload_n i_G_goBackTo_76 rfl ?_
    rw [g3]
    refine v_icmp_le (tgt := 84) i_G_goBackTo_77 rfl (fun h77 => ?_) (fun h77 => ?_)
    · refine v_aload_n i_G_goBackTo_84 rfl ?_
      refine v_get B i_G_goBackTo_85 (by first | assumption | exact qset_self _ _ _ | (rw [qset_ne _ _ (by omega)]; first | assumption | exact qset_self _ _ _ | (rw [qset_ne _ _ (by omega)]; first | assumption | exact qset_self _ _ _ | (rw [qset_ne _ _ (by omega)]; first | assumption | exact qset_self _ _ _ | (rw [qset_ne _ _ (by omega)]; first | assumption | exact qset_self _ _ _ | (rw [qset_ne _ _ (by omega)]; first | assumption | exact qset_self _ _ _ | (rw [qset_ne _ _ (by omega)]; first | assumption | exact qset_self _ _ _))))))) rfl ?_
      refine v_iload_n i_G_goBackTo_88 rfl ?_
      refine v_iald B (by first | assumption | exact qset_self _ _ _ | (rw [qset_ne _ _ (by omega)]; first | assumption | exact qset_self _ _ _ | (rw [qset_ne _ _ (by omega)]; first | assumption | exact qset_self _ _ _ | (rw [qset_ne _ _ (by omega)]; first | assumption | exact qset_self _ _ _ | (rw [qset_ne _ _ (by omega)]; first | assumption | exact qset_self _ _ _ | (rw [qset_ne _ _ (by omega)]; first | assumption | exact qset_self _ _ _ | (rw [qset_ne _ _ (by omega)]; first | assumption | exact qset_self _ _ _))))))) rfl (by omega) (by omega) i_G_goBackTo_89 ?_
      rw [g3]
      have : ¬ ogt (en P.2.2.2 i).2.2.1 v = true := fun q => absurd ((ogt_iff o2 hv).mpr q) (Int32.not_lt.mpr h77)
      rw [oback, if_neg this] at tail
      exact tail
    · refine v_iconst (v := (-1)) i_G_goBackTo_80 rfl ?_
      refine v_goto (tgt := 90) i_G_goBackTo_81 rfl ?_
      have : ogt (en P.2.2.2 i).2.2.1 v = true := (ogt_iff o2 hv).mp (Int32.not_le.mp h77)
      rw [oback, if_pos this] at tail
      exact tail
/-- the loop that drops what came later -/
theorem c_G_goBackTo_1 (B : qB l s0 C) (v : Nat) (hv : v < 2 ^ 30) (hok : PgOk P) (fk ff ft : Nat → Int32) (fw : Nat → Int64)
    (hg : ∀ i, i < P.2.2.2.length → fk i = (en P.2.2.2 i).1 ∧ ff i = nI (en P.2.2.2 i).2.1 ∧ ft i = vO (en P.2.2.2 i).2.2.1 ∧ fw i = (en P.2.2.2 i).2.2.2) : ∀ (i : Nat) (X' : qX), i ≤ P.2.2.2.length → gtrim P.2.2.2 v P.2.2.2.length = gtrim P.2.2.2 v i →
      X'.1 a = some (.inr (1, [.int (nI num), .ref (a + 1), .ref (a + 2), .ref (a + 3), .ref (a + 4), .int (nI P.1), .int (nI P.2.1), .int (vO (oback P.2.2.1 v)), .int (nI i)])) →
      X'.1 (a + 1) = some (.inl (0, 16, .inl fk)) → X'.1 (a + 2) = some (.inl (0, 16, .inl ff)) → X'.1 (a + 3) = some (.inl (0, 16, .inl ft)) → X'.1 (a + 4) = some (.inl (1, 16, .inr (.inl fw))) → qSame X X' a (a + 5) →
      qV l s0 C m_G_goBackTo rm_G_goBackTo (fun r X'' => r = none ∧ PgAt X'' a num (gback P v) ∧ qSame X X'' a (a + 5)) (fun _ _ => False) 0 0 X' 20 [(0, .ref a), (1, .int (nI v))] [] := by
  obtain ⟨ok1, ok2, ok3, ok4, ok5⟩ := id hok
  have go : ∀ (i : Nat) (X' : qX), i ≤ P.2.2.2.length → gtrim P.2.2.2 v P.2.2.2.length = i →
      X'.1 a = some (.inr (1, [.int (nI num), .ref (a + 1), .ref (a + 2), .ref (a + 3), .ref (a + 4), .int (nI P.1), .int (nI P.2.1), .int (vO (oback P.2.2.1 v)), .int (nI i)])) →
      X'.1 (a + 1) = some (.inl (0, 16, .inl fk)) → X'.1 (a + 2) = some (.inl (0, 16, .inl ff)) → X'.1 (a + 3) = some (.inl (0, 16, .inl ft)) → X'.1 (a + 4) = some (.inl (1, 16, .inr (.inl fw))) → qSame X X' a (a + 5) →
      qV l s0 C m_G_goBackTo rm_G_goBackTo (fun r X'' => r = none ∧ PgAt X'' a num (gback P v) ∧ qSame X X'' a (a + 5)) (fun _ _ => False) 0 0 X' 55 [(0, .ref a), (1, .int (nI v))] [] := by
    intro i X' hi ht0 h0 hk hf ht hw hs
    refine v_iconst (v := 0) i_G_goBackTo_55 rfl ?_
    refine v_istore_n i_G_goBackTo_56 (by decide) rfl ?_
    refine v_loc [(0, .ref a), (1, .int (nI v)), (2, .int (nI 0))] rfl ?_
    refine c_G_goBackTo_2 B v hv hok i 0 X' fk ff ft fw (by omega) (by rw [ht0]; exact h0) hk hf ht hw ?_ hs
    intro q hq
    rw [if_neg (Nat.not_lt_zero q)]
    exact hg q (by omega)
  intro i
  induction i with
  | zero =>
    intro X' hi htr h0 hk hf ht hw hs
    refine v_aload_n i_G_goBackTo_20 rfl ?_
    refine v_get B i_G_goBackTo_21 (by first | assumption | exact qset_self _ _ _ | (rw [qset_ne _ _ (by omega)]; first | assumption | exact qset_self _ _ _ | (rw [qset_ne _ _ (by omega)]; first | assumption | exact qset_self _ _ _ | (rw [qset_ne _ _ (by omega)]; first | assumption | exact qset_self _ _ _ | (rw [qset_ne _ _ (by omega)]; first | assumption | exact qset_self _ _ _ | (rw [qset_ne _ _ (by omega)]; first | assumption | exact qset_self _ _ _ | (rw [qset_ne _ _ (by omega)]; first | assumption | exact qset_self _ _ _))))))) rfl ?_
    refine v_if_le (tgt := 55) i_G_goBackTo_24 rfl (fun h24 => ?_) (fun h24 => ?_)
    · exact go 0 X' hi (by rw [htr]; rfl) h0 hk hf ht hw hs
    · exact absurd (by decide) h24
  | succ i ih =>
    intro X' hi htr h0 hk hf ht hw hs
    refine v_aload_n i_G_goBackTo_20 rfl ?_
    refine v_get B i_G_goBackTo_21 (by first | assumption | exact qset_self _ _ _ | (rw [qset_ne _ _ (by omega)]; first | assumption | exact qset_self _ _ _ | (rw [qset_ne _ _ (by omega)]; first | assumption | exact qset_self _ _ _ | (rw [qset_ne _ _ (by omega)]; first | assumption | exact qset_self _ _ _ | (rw [qset_ne _ _ (by omega)]; first | assumption | exact qset_self _ _ _ | (rw [qset_ne _ _ (by omega)]; first | assumption | exact qset_self _ _ _ | (rw [qset_ne _ _ (by omega)]; first | assumption | exact qset_self _ _ _))))))) rfl ?_
    refine v_if_le (tgt := 55) i_G_goBackTo_24 rfl (fun h24 => ?_) (fun h24 => ?_)
    · exact absurd h24 (nI_nle (by omega) (by omega))
    refine v_aload_n i_G_goBackTo_27 rfl ?_
    refine v_get B i_G_goBackTo_28 (by first | assumption | exact qset_self _ _ _ | (rw [qset_ne _ _ (by omega)]; first | assumption | exact qset_self _ _ _ | (rw [qset_ne _ _ (by omega)]; first | assumption | exact qset_self _ _ _ | (rw [qset_ne _ _ (by omega)]; first | assumption | exact qset_self _ _ _ | (rw [qset_ne _ _ (by omega)]; first | assumption | exact qset_self _ _ _ | (rw [qset_ne _ _ (by omega)]; first | assumption | exact qset_self _ _ _ | (rw [qset_ne _ _ (by omega)]; first | assumption | exact qset_self _ _ _))))))) rfl ?_
    refine v_aload_n i_G_goBackTo_31 rfl ?_
    refine v_get B i_G_goBackTo_32 (by first | assumption | exact qset_self _ _ _ | (rw [qset_ne _ _ (by omega)]; first | assumption | exact qset_self _ _ _ | (rw [qset_ne _ _ (by omega)]; first | assumption | exact qset_self _ _ _ | (rw [qset_ne _ _ (by omega)]; first | assumption | exact qset_self _ _ _ | (rw [qset_ne _ _ (by omega)]; first | assumption | exact qset_self _ _ _ | (rw [qset_ne _ _ (by omega)]; first | assumption | exact qset_self _ _ _ | (rw [qset_ne _ _ (by omega)]; first | assumption | exact qset_self _ _ _))))))) rfl ?_
    refine v_iconst (v := 1) i_G_goBackTo_35 rfl ?_
    refine v_isub i_G_goBackTo_36 ?_
    refine v_iald B (by first | assumption | exact qset_self _ _ _ | (rw [qset_ne _ _ (by omega)]; first | assumption | exact qset_self _ _ _ | (rw [qset_ne _ _ (by omega)]; first | assumption | exact qset_self _ _ _ | (rw [qset_ne _ _ (by omega)]; first | assumption | exact qset_self _ _ _ | (rw [qset_ne _ _ (by omega)]; first | assumption | exact qset_self _ _ _ | (rw [qset_ne _ _ (by omega)]; first | assumption | exact qset_self _ _ _ | (rw [qset_ne _ _ (by omega)]; first | assumption | exact qset_self _ _ _))))))) (nI_pred i) (by omega) (by omega) i_G_goBackTo_37 ?_
    rw [(hg i (by omega)).2.1]
    refine v_iload_n i_G_goBackTo_38 rfl ?_
    obtain ⟨o1, o2⟩ := ok5 i (by omega)
    refine v_icmp_le (tgt := 55) i_G_goBackTo_39 rfl (fun h39 => ?_) (fun h39 => ?_)
    · refine go (i + 1) X' hi ?_ h0 hk hf ht hw hs
      have : ¬ v < (en P.2.2.2 i).2.1 := Nat.not_lt.mpr ((nI_leI (by omega) (by omega)).mp h39)
      rw [htr, gtrim, if_neg this]
    refine v_aload_n i_G_goBackTo_42 rfl ?_
    refine v_dup i_G_goBackTo_43 rfl ?_
    refine v_get B i_G_goBackTo_44 (by first | assumption | exact qset_self _ _ _ | (rw [qset_ne _ _ (by omega)]; first | assumption | exact qset_self _ _ _ | (rw [qset_ne _ _ (by omega)]; first | assumption | exact qset_self _ _ _ | (rw [qset_ne _ _ (by omega)]; first | assumption | exact qset_self _ _ _ | (rw [qset_ne _ _ (by omega)]; first | assumption | exact qset_self _ _ _ | (rw [qset_ne _ _ (by omega)]; first | assumption | exact qset_self _ _ _ | (rw [qset_ne _ _ (by omega)]; first | assumption | exact qset_self _ _ _))))))) rfl ?_
    refine v_iconst (v := 1) i_G_goBackTo_47 rfl ?_
    refine v_isub i_G_goBackTo_48 ?_
    rw [nI_pred]
    refine v_put B i_G_goBackTo_49 (by first | assumption | exact qset_self _ _ _ | (rw [qset_ne _ _ (by omega)]; first | assumption | exact qset_self _ _ _ | (rw [qset_ne _ _ (by omega)]; first | assumption | exact qset_self _ _ _ | (rw [qset_ne _ _ (by omega)]; first | assumption | exact qset_self _ _ _ | (rw [qset_ne _ _ (by omega)]; first | assumption | exact qset_self _ _ _ | (rw [qset_ne _ _ (by omega)]; first | assumption | exact qset_self _ _ _ | (rw [qset_ne _ _ (by omega)]; first | assumption | exact qset_self _ _ _))))))) (Nat.le_of_ble_eq_true rfl) rfl rfl ?_
    refine v_goto (tgt := 20) i_G_goBackTo_52 rfl ?_
    refine ih _ (by omega) ?_ ?_ (by first | assumption | exact qset_self _ _ _ | (rw [qset_ne _ _ (by omega)]; first | assumption | exact qset_self _ _ _ | (rw [qset_ne _ _ (by omega)]; first | assumption | exact qset_self _ _ _ | (rw [qset_ne _ _ (by omega)]; first | assumption | exact qset_self _ _ _ | (rw [qset_ne _ _ (by omega)]; first | assumption | exact qset_self _ _ _ | (rw [qset_ne _ _ (by omega)]; first | assumption | exact qset_self _ _ _ | (rw [qset_ne _ _ (by omega)]; first | assumption | exact qset_self _ _ _))))))) (by first | assumption | exact qset_self _ _ _ | (rw [qset_ne _ _ (by omega)]; first | assumption | exact qset_self _ _ _ | (rw [qset_ne _ _ (by omega)]; first | assumption | exact qset_self _ _ _ | (rw [qset_ne _ _ (by omega)]; first | assumption | exact qset_self _ _ _ | (rw [qset_ne _ _ (by omega)]; first | assumption | exact qset_self _ _ _ | (rw [qset_ne _ _ (by omega)]; first | assumption | exact qset_self _ _ _ | (rw [qset_ne _ _ (by omega)]; first | assumption | exact qset_self _ _ _))))))) (by first | assumption | exact qset_self _ _ _ | (rw [qset_ne _ _ (by omega)]; first | assumption | exact qset_self _ _ _ | (rw [qset_ne _ _ (by omega)]; first | assumption | exact qset_self _ _ _ | (rw [qset_ne _ _ (by omega)]; first | assumption | exact qset_self _ _ _ | (rw [qset_ne _ _ (by omega)]; first | assumption | exact qset_self _ _ _ | (rw [qset_ne _ _ (by omega)]; first | assumption | exact qset_self _ _ _ | (rw [qset_ne _ _ (by omega)]; first | assumption | exact qset_self _ _ _))))))) (by first | assumption | exact qset_self _ _ _ | (rw [qset_ne _ _ (by omega)]; first | assumption | exact qset_self _ _ _ | (rw [qset_ne _ _ (by omega)]; first | assumption | exact qset_self _ _ _ | (rw [qset_ne _ _ (by omega)]; first | assumption | exact qset_self _ _ _ | (rw [qset_ne _ _ (by omega)]; first | assumption | exact qset_self _ _ _ | (rw [qset_ne _ _ (by omega)]; first | assumption | exact qset_self _ _ _ | (rw [qset_ne _ _ (by omega)]; first | assumption | exact qset_self _ _ _))))))) (hs.set _ (by omega) (by omega))
    · have : v < (en P.2.2.2 i).2.1 := Nat.lt_of_not_le (fun q => h39 (nI_le q (by omega)))
      rw [htr, gtrim, if_pos this]
    · rw [qset_self]; rfl
theorem c_G_goBackTo (B : qB l s0 C) (h : PgAt X a num P) (v : Nat) (hv : v < 2 ^ 30) : qMet l s0 C m_G_goBackTo rm_G_goBackTo [.ref a, .int (nI v)] X (fun r X' => r = none ∧ PgAt X' a num (gback P v) ∧ qSame X X' a (a + 5)) (fun _ _ => False) := by
  obtain ⟨h0, hok, fk, ff, ft, fw, hk, hf, ht, hw, hg⟩ := id h
  obtain ⟨ok1, ok2, ok3, ok4, ok5⟩ := id hok
  refine q_of (by decide +kernel) (Nat.le_of_ble_eq_true rfl) ?_
  refine v_L (L' := [(0, .ref a), (1, .int (nI v))]) rfl ?_
  have go : ∀ d : Int32, d = vO (oback P.2.2.1 v) → qV l s0 C m_G_goBackTo rm_G_goBackTo (fun r X'' => r = none ∧ PgAt X'' a num (gback P v) ∧ qSame X X'' a (a + 5)) (fun _ _ => False) 0 0 X 17 [(0, .ref a), (1, .int (nI v))] [.int d, .ref a] := by
    intro d hd
    subst hd
    refine v_put B i_G_goBackTo_17 (by first | assumption | exact qset_self _ _ _ | (rw [qset_ne _ _ (by omega)]; first | assumption | exact qset_self _ _ _ | (rw [qset_ne _ _ (by omega)]; first | assumption | exact qset_self _ _ _ | (rw [qset_ne _ _ (by omega)]; first | assumption | exact qset_self _ _ _ | (rw [qset_ne _ _ (by omega)]; first | assumption | exact qset_self _ _ _ | (rw [qset_ne _ _ (by omega)]; first | assumption | exact qset_self _ _ _ | (rw [qset_ne _ _ (by omega)]; first | assumption | exact qset_self _ _ _))))))) (Nat.le_of_ble_eq_true rfl) rfl rfl ?_
    refine c_G_goBackTo_1 B v hv hok fk ff ft fw hg P.2.2.2.length _ (Nat.le_refl _) rfl ?_ (by first | assumption | exact qset_self _ _ _ | (rw [qset_ne _ _ (by omega)]; first | assumption | exact qset_self _ _ _ | (rw [qset_ne _ _ (by omega)]; first | assumption | exact qset_self _ _ _ | (rw [qset_ne _ _ (by omega)]; first | assumption | exact qset_self _ _ _ | (rw [qset_ne _ _ (by omega)]; first | assumption | exact qset_self _ _ _ | (rw [qset_ne _ _ (by omega)]; first | assumption | exact qset_self _ _ _ | (rw [qset_ne _ _ (by omega)]; first | assumption | exact qset_self _ _ _))))))) (by first | assumption | exact qset_self _ _ _ | (rw [qset_ne _ _ (by omega)]; first | assumption | exact qset_self _ _ _ | (rw [qset_ne _ _ (by omega)]; first | assumption | exact qset_self _ _ _ | (rw [qset_ne _ _ (by omega)]; first | assumption | exact qset_self _ _ _ | (rw [qset_ne _ _ (by omega)]; first | assumption | exact qset_self _ _ _ | (rw [qset_ne _ _ (by omega)]; first | assumption | exact qset_self _ _ _ | (rw [qset_ne _ _ (by omega)]; first | assumption | exact qset_self _ _ _))))))) (by first | assumption | exact qset_self _ _ _ | (rw [qset_ne _ _ (by omega)]; first | assumption | exact qset_self _ _ _ | (rw [qset_ne _ _ (by omega)]; first | assumption | exact qset_self _ _ _ | (rw [qset_ne _ _ (by omega)]; first | assumption | exact qset_self _ _ _ | (rw [qset_ne _ _ (by omega)]; first | assumption | exact qset_self _ _ _ | (rw [qset_ne _ _ (by omega)]; first | assumption | exact qset_self _ _ _ | (rw [qset_ne _ _ (by omega)]; first | assumption | exact qset_self _ _ _))))))) (by first | assumption | exact qset_self _ _ _ | (rw [qset_ne _ _ (by omega)]; first | assumption | exact qset_self _ _ _ | (rw [qset_ne _ _ (by omega)]; first | assumption | exact qset_self _ _ _ | (rw [qset_ne _ _ (by omega)]; first | assumption | exact qset_self _ _ _ | (rw [qset_ne _ _ (by omega)]; first | assumption | exact qset_self _ _ _ | (rw [qset_ne _ _ (by omega)]; first | assumption | exact qset_self _ _ _ | (rw [qset_ne _ _ (by omega)]; first | assumption | exact qset_self _ _ _))))))) ((qSame.rf X _ _).set _ (by omega) (by omega))
    rw [qset_self]; rfl
  refine v_aload_n i_G_goBackTo_0 rfl ?_
  refine v_aload_n i_G_goBackTo_1 rfl ?_
  refine v_get B i_G_goBackTo_2 (by first | assumption | exact qset_self _ _ _ | (rw [qset_ne _ _ (by omega)]; first | assumption | exact qset_self _ _ _ | (rw [qset_ne _ _ (by omega)]; first | assumption | exact qset_self _ _ _ | (rw [qset_ne _ _ (by omega)]; first | assumption | exact qset_self _ _ _ | (rw [qset_ne _ _ (by omega)]; first | assumption | exact qset_self _ _ _ | (rw [qset_ne _ _ (by omega)]; first | assumption | exact qset_self _ _ _ | (rw [qset_ne _ _ (by omega)]; first | assumption | exact qset_self _ _ _))))))) rfl ?_
  refine v_iload_n i_G_goBackTo_5 rfl ?_
  refine v_icmp_le (tgt := 13) i_G_goBackTo_6 rfl (fun h6 => ?_) (fun h6 => ?_)
  · refine v_aload_n i_G_goBackTo_13 rfl ?_
    refine v_get B i_G_goBackTo_14 (by first | assumption | exact qset_self _ _ _ | (rw [qset_ne _ _ (by omega)]; first | assumption | exact qset_self _ _ _ | (rw [qset_ne _ _ (by omega)]; first | assumption | exact qset_self _ _ _ | (rw [qset_ne _ _ (by omega)]; first | assumption | exact qset_self _ _ _ | (rw [qset_ne _ _ (by omega)]; first | assumption | exact qset_self _ _ _ | (rw [qset_ne _ _ (by omega)]; first | assumption | exact qset_self _ _ _ | (rw [qset_ne _ _ (by omega)]; first | assumption | exact qset_self _ _ _))))))) rfl ?_
    refine go _ ?_
    have : ¬ ogt P.2.2.1 v = true := fun q => absurd ((ogt_iff ok3 hv).mpr q) (Int32.not_lt.mpr h6)
    rw [oback, if_neg this]
  · refine v_iconst (v := (-1)) i_G_goBackTo_9 rfl ?_
    refine v_goto (tgt := 17) i_G_goBackTo_10 rfl ?_
    refine go _ ?_
    have : ogt P.2.2.1 v = true := (ogt_iff ok3 hv).mp (Int32.not_le.mp h6)
    rw [oback, if_pos this]
    rfl
end PB
