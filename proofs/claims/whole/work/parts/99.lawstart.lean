/-! the law: its beginning -/
section LH
variable {l : Launch} {s0 : State} {C : qC} {b N : Nat} {xs : Nat → Int32}
theorem law_enter (B : qB l s0 C) (hX : va_X b N xs s0 s0.heap) (hb : b < s0.heap.size) (hN : N ≤ 2048) : qV l s0 C m_L_law rmW (fun v _ => v = some (.int 1)) (fun _ _ => False) 0 0 ((fun _ => none), s0.heap.size) 0 [(0, .ref b)] [] := by
  obtain ⟨x, hx⟩ : ∃ x, x = s0.heap.size := ⟨_, rfl⟩
  rw [← hx]
  refine v_new B (N := 4) i_L_law_0 rfl (by decide) (by decide) ?_
  refine v_dup i_L_law_3 rfl ?_
  refine v_invI B i_L_law_4 kn_m_P_init (c_P_init (x := x) B (qnew_self _ _) (qnew_2 _ _)) rfl rfl (Nat.le_of_ble_eq_true rfl) ⟨by decide, by decide, by decide, by decide⟩ rfl (fun r X1 hq => ?_) (fun _ _ h => False.elim h)
  obtain ⟨rfl, hP, z1, -⟩ := hq
  refine v_astore_n i_L_law_7 (by decide) rfl ?_
  refine v_new B (N := 44) i_L_law_8 rfl (by decide) (by decide) ?_
  refine v_dup i_L_law_11 rfl ?_
  rw [z1]
  refine v_invI B i_L_law_12 kn_m_M_init (c_M_init (m := x + 25) B (by rw [← z1]; exact qnew_self _ _) (by rw [qnew_2, z1])) rfl rfl (Nat.le_of_ble_eq_true rfl) ⟨by decide, by decide, by decide, by decide⟩ rfl (fun r X2 hq => ?_) (fun _ _ h => False.elim h)
  obtain ⟨rfl, z2, o2, hM⟩ := hq
  refine v_astore_n i_L_law_15 (by decide) rfl ?_
  refine v_iconst (v := 1) i_L_law_16 rfl ?_
  refine v_newa B (t := 1) (N := 1) (Or.inr (Or.inl ⟨rfl, rfl⟩)) i_L_law_17 wa_J rfl (by omega) (by decide) (by decide) ?_
  rw [z2]
  refine v_astore_n i_L_law_19 (by decide) rfl ?_
  refine v_iconst (v := 0) i_L_law_20 rfl ?_
  refine v_istore i_L_law_21 (by decide) rfl ?_
  refine v_loc [(0, .ref b), (1, .ref x), (2, .ref (x + 25)), (3, .ref (x + 55)), (4, .int (nI 0))] rfl ?_
  refine law_loop B hX hb hN (fun _ _ _ => rfl) 512 0 0 _ _ _ rfl rfl ?_ (by decide) (by decide)
  have z3 : (qnew X2 (.inl (1, qt0 1 1))).2 = x + 56 := by rw [qnew_2, z2]
  refine ⟨fun _ => (0, 0, none, []), 1, 0, fun _ => 0, 0, ([], 0, 0, none, false), fun _ => (0, 0, none, []), 1, fun _ => (0, 0, false), 0, fun _ => 0, ⟨?_, ?_, ?_⟩, ?_⟩
  · refine hP.raise (fun q h1 h2 => ?_) (by omega) (by rw [z3]; exact Nat.le_refl _)
    rw [qnew_ne _ _ (by rw [z2]; omega), o2 q (by omega), qnew_ne _ _ (by rw [z1]; omega)]
  · exact (hM _).cells (fun q h1 h2 => qnew_ne _ _ (by rw [z2]; omega))
  · have := qnew_self X2 (.inl (1, qt0 1 1))
    rw [z2] at this
    exact this
  · have h1 : yLw (fun _ => ((0, 0, none, []) : Pg)) := fun _ => Nat.zero_le _
    exact ⟨yAll_new _, h1, h1, Nat.le_refl _, by omega, by omega, Nat.le_refl _, yTr_cl (yAll_new (fun _ => (0, 0, false))).1⟩
end LH
/-! what is known in the state in which the law begins -/
theorem qcl_in {c : Nat} {r : vw_C} (h : qcl[c]? = some r) : ∃ n, Cond.instantiable r.1 n ∈ lw_tbl := by
  have hc : c < 6 := by
    rcases Nat.lt_or_ge c 6 with q | q
    · exact q
    · rw [List.getElem?_eq_none (show qcl.length ≤ c from q)] at h; cases h
  have use : ∀ {μ : qM} {pc : Nat}, qNew μ pc c → ∃ n, Cond.instantiable r.1 n ∈ lw_tbl := fun hn => by
    obtain ⟨ix, r', -, h2, -, h4, -⟩ := hn
    cases h.symm.trans h2
    exact ⟨_, h4.1⟩
  rcases (show c = 0 ∨ c = 1 ∨ c = 2 ∨ c = 3 ∨ c = 4 ∨ c = 5 by omega) with rfl | rfl | rfl | rfl | rfl | rfl
  · exact use i_P_init_16
  · exact use i_T_init_5
  · exact use i_T_init_60
  · exact use i_P_init_5
  · exact use i_L_law_0
  · exact use i_L_law_8
theorem qB_of {l : Launch} {s0 : State} (hl : l.stackTraces = false) {A0 : Array Value} (hts : ∀ w ∈ lw_tbl, w.before A0 s0 = true) (hg : (Jvm.Cond.and given_1 narrow_1).before A0 s0 = true) : ∃ C, qB l s0 C := by
  have hK : ∀ c : Nat, ∃ (cC : ClassId) (iS : Nat → Nat), ∀ q : vw_C, qcl[c]? = some q → u_Kn s0 q.1 q.2.1 q.2.2 cC iS := by
    intro c
    cases hq : qcl[c]? with
    | none => exact ⟨0, fun _ => 0, fun q h => by cases h⟩
    | some r =>
      obtain ⟨n, hn⟩ := qcl_in hq
      obtain ⟨cC, iS, h⟩ := u_known hts (qcl_nm hq).2.2 (hts _ hn)
      exact ⟨cC, iS, fun q h9 => by cases h9; exact h⟩
  have prim : ∀ {ty : FieldType}, Cond.arrayClass ty ∈ lw_tbl → ∃ cA : ClassId, ArrOfT s0 cA ty ∧ s0.vm.findClass ("[" ++ ty.toString) = some cA := fun hw => by
    obtain ⟨cA, kA, comp, h1, h2, h3⟩ := Cond.arrayClass_spec (hts _ hw)
    exact ⟨cA, fun n z => ⟨fun k h => (by cases h), kA, h2, comp, h3⟩, h1⟩
  obtain ⟨cI, a0, n0⟩ := prim wa_I
  obtain ⟨cJ, a1, n1⟩ := prim wa_J
  obtain ⟨cZ, a2, n2⟩ := prim wa_Z
  obtain ⟨comp, cP, kP, p1, -, p3, p4, p5⟩ := Cond.arrayOver_spec (hts _ wq_over)
  refine ⟨((fun c => Classical.choose (hK c), fun c => Classical.choose (Classical.choose_spec (hK c))), fun t => match t with | 0 => cI | 1 => cJ | 2 => cZ | _ => cP), hl, ⟨A0, hts, hg⟩, fun c q hq => Classical.choose_spec (Classical.choose_spec (hK c)) q hq, fun t ty ht => ?_⟩
  have h4 : t < 4 := by
    rcases Nat.lt_or_ge t 4 with q | q
    · exact q
    · rw [List.getElem?_eq_none (show qty.length ≤ t from q)] at ht; cases ht
  rcases (show t = 0 ∨ t = 1 ∨ t = 2 ∨ t = 3 by omega) with rfl | rfl | rfl | rfl
  · cases ht; exact ⟨a0, n0⟩
  · cases ht; exact ⟨a1, n1⟩
  · cases ht; exact ⟨a2, n2⟩
  · cases ht; exact ⟨fun n z => ⟨fun k h => (by cases h), kP, p3, comp, p4⟩, kP, comp, p3, p4, p1, p5⟩
