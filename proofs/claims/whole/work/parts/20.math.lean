/-! Math.max and min; small rows on ints -/
set_option maxHeartbeats 1000000 in
/-- a contract out of the walk of the body, for a method that no row of the machine's own stands for -/
theorem q_ofF {l : Launch} {s0 : State} {C : qC} {μ : qM} {rm : Room} {As : List Value} {X : qX} {Qp : Option Value → qX → Prop} {Ep : String → qX → Prop} (hy : plainFor μ.1 = true) (hn : (lg_sl As).length ≤ μ.2.2.1)
    (hV : qV l s0 C μ rm Qp Ep 0 0 X 0 (lv_args 0 As) []) : qMet l s0 C μ rm As X Qp Ep := by
  refine MetFree.of_bodySF (code := μ.2.1) (maxLocals := μ.2.2.1) (ret := μ.2.2.2.1) hy ?_ ?_
  · intro args s m h hnm
    obtain ⟨meth, c, h1, h2, h3, h4, h5, h6, -, -⟩ := qword_spec hnm (atoms_spec (ws := [qword μ]) h _ List.mem_cons_self)
    exact ⟨meth, c, h1, h2, h3, h4, h5, h6⟩
  · intro p e s m args below meth c s₁ B hml hP _
    obtain ⟨rfl, hW, hR⟩ := hP
    have hh0 : s₁.heap = s.heap := by rw [B.state]; rfl
    have hT : c.exceptionTable.toList.map (fun h => (h.startPc, h.endPc, h.handlerPc, h.catchType)) = μ.2.2.2.2 := by
      obtain ⟨meth9, c9, h1, h2, -, -, -, -, h7, -⟩ := qword_spec B.named (atoms_spec (ws := [qword μ]) B.pre _ List.mem_cons_self)
      cases Option.some.inj (h1.symm.trans B.method)
      cases Option.some.inj (h2.symm.trans (Stand.of_body B).code)
      exact h7
    have hl := lv_entry As (n := μ.2.2.1) hn
    have K := hV p e s m As.toArray below meth c ⟨B.exec, B.bytes, hml, B.returns, B.notSynchronized, findClass_of_methodNamed B.named, hT, (name_of_methodNamed B.named B.method).1, hW, hR.1 ▸ (hR.1 ▸ hR.2.1), hR.2.2.1⟩ s.heap [] _ hR (fun q h => nomatch h) hl
    rw [← lg_entry_eq] at K
    obtain ⟨t, a1, o, b1, b2, b3⟩ := K s₁ hh0 (Stand.of_body B)
    exact ⟨t, o, a1, b1, b2, b3⟩
section MJ
variable {l : Launch} {s0 : State} {C : qC} {X : qX}
def imax (x y : Int32) : Int32 := if x < y then y else x
def imin (x y : Int32) : Int32 := if y < x then y else x
def lmin (x y : Int64) : Int64 := if y < x then y else x
theorem c_J_maxI (x y : Int32) : qMet l s0 C m_J_maxI rm_J_maxI [.int x, .int y] X (fun r X' => X = X' ∧ r = some (.int (imax x y))) (fun _ _ => False) := by
  refine q_ofF (by decide +kernel) (Nat.le_of_ble_eq_true rfl) ?_
  refine v_L (L' := [(0, .int x), (1, .int y)]) rfl ?_
  refine v_iload_n i_J_maxI_0 rfl ?_
  refine v_iload_n i_J_maxI_1 rfl ?_
  refine v_icmp_lt (tgt := 9) i_J_maxI_2 rfl (fun h2 => ?_) (fun h2 => ?_)
  · refine v_iload_n i_J_maxI_9 rfl ?_
    refine v_iret i_J_maxI_10 rfl (by decide) (by decide) ⟨rfl, ?_⟩
    rw [imax, if_pos h2]
  · refine v_iload_n i_J_maxI_5 rfl ?_
    refine v_goto (tgt := 10) i_J_maxI_6 rfl ?_
    refine v_iret i_J_maxI_10 rfl (by decide) (by decide) ⟨rfl, ?_⟩
    rw [imax, if_neg h2]
theorem c_J_minI (x y : Int32) : qMet l s0 C m_J_minI rm_J_minI [.int x, .int y] X (fun r X' => X = X' ∧ r = some (.int (imin x y))) (fun _ _ => False) := by
  refine q_ofF (by decide +kernel) (Nat.le_of_ble_eq_true rfl) ?_
  refine v_L (L' := [(0, .int x), (1, .int y)]) rfl ?_
  refine v_iload_n i_J_minI_0 rfl ?_
  refine v_iload_n i_J_minI_1 rfl ?_
  refine v_icmp_gt (tgt := 9) i_J_minI_2 rfl (fun h2 => ?_) (fun h2 => ?_)
  · refine v_iload_n i_J_minI_9 rfl ?_
    refine v_iret i_J_minI_10 rfl (by decide) (by decide) ⟨rfl, ?_⟩
    rw [imin, if_pos h2]
  · refine v_iload_n i_J_minI_5 rfl ?_
    refine v_goto (tgt := 10) i_J_minI_6 rfl ?_
    refine v_iret i_J_minI_10 rfl (by decide) (by decide) ⟨rfl, ?_⟩
    rw [imin, if_neg h2]
theorem lcmp_gt {x y : Int64} : 0 < lg_cmp x y ↔ y < x := by
  unfold lg_cmp
  by_cases h1 : y < x
  · simp [h1]; try decide
  · by_cases h2 : x = y
    · subst h2; simp [h1]
    · simp [h1, h2]; try decide
theorem lcmp_eq {x y : Int64} : lg_cmp x y = 0 ↔ x = y := by
  unfold lg_cmp
  by_cases h1 : y < x
  · simp [h1]
    intro h
    subst h
    exact absurd h1 (Int64.lt_irrefl)
  · by_cases h2 : x = y
    · subst h2; simp [h1]
    · simp [h1, h2]
theorem c_J_minJ (x y : Int64) : qMet l s0 C m_J_minJ rm_J_minJ [.long x, .long y] X (fun r X' => X = X' ∧ r = some (.long (lmin x y))) (fun _ _ => False) := by
  refine q_ofF (by decide +kernel) (Nat.le_of_ble_eq_true rfl) ?_
  refine v_L (L' := [(0, .long x), (2, .long y)]) rfl ?_
  refine v_lload_n i_J_minJ_0 rfl ?_
  refine v_lload_n i_J_minJ_1 rfl ?_
  refine v_lcmp i_J_minJ_2 ?_
  refine v_if_gt (tgt := 10) i_J_minJ_3 rfl (fun h3 => ?_) (fun h3 => ?_)
  · refine v_lload_n i_J_minJ_10 rfl ?_
    refine v_lret i_J_minJ_11 rfl (by decide) (by decide) ⟨rfl, ?_⟩
    rw [lmin, if_pos (lcmp_gt.mp h3)]
  · refine v_lload_n i_J_minJ_6 rfl ?_
    refine v_goto (tgt := 11) i_J_minJ_7 rfl ?_
    refine v_lret i_J_minJ_11 rfl (by decide) (by decide) ⟨rfl, ?_⟩
    rw [lmin, if_neg (fun h => h3 (lcmp_gt.mpr h))]
end MJ
