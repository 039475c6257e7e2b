/-! the public methods of PastTree: what they answer -/
section PC
variable {X X' : qX} {x E cnt cnt' : Nat} {pa pa' : Nat → Nat} {pg pg' : Nat → Pg} {made made' lat lat' : Nat} {ro ro' : Nat → Nat} {db db' : Nat} {D D' : Dk}
variable {l : Launch} {s0 : State} {C : qC}
theorem c_P_version (B : qB l s0 C) (h : PtS X x E pg made lat ro db D) : qMet l s0 C m_P_version rmP [.ref x] X (fun r X' => D.2.2.2.2 = false ∧ r = some (.int (nI lat)) ∧ qSt X X' x E pg made lat ro db D) (fun e X' => D.2.2.2.2 = true ∧ e = xS ∧ qSt X X' x E pg made lat ro db D) := by
  have hS := h
  obtain ⟨cnt, pa, pn, fe, g1, g2, co, li, F, O, h⟩ := h
  obtain ⟨h0, h1, hd, hF, hO, he1, he2, he3⟩ := id h
  obtain ⟨t0, -, -, -, -, -, hPG, ⟨m1, m2, m3, m4, m5⟩, hro, -⟩ := id h1
  refine q_of (by decide +kernel) (Nat.le_of_ble_eq_true rfl) ?_
  refine v_L (L' := [(0, .ref x)]) rfl ?_
  refine v_aload_n i_P_version_0 rfl ?_
  refine v_inv B i_P_version_1 kn_m_P_demandUp (c_P_demandUp B h) h0 rfl rfl (Nat.le_of_ble_eq_true rfl) ⟨by decide, by decide, by first | decide | (simp; omega), by first | decide | (simp; omega)⟩ rfl (fun r X' hq => ?_) (fun e X' hx => by obtain ⟨a, b, N, c, rfl⟩ := hx; exact ⟨a, b, hS.thr c⟩)
  obtain ⟨hdn, rfl, rfl⟩ := hq
  refine v_aload_n i_P_version_4 rfl ?_
  refine v_get B i_P_version_5 (by first | assumption | exact qset_self _ _ _ | (rw [qset_ne _ _ (by omega)]; first | assumption | exact qset_self _ _ _ | (rw [qset_ne _ _ (by omega)]; first | assumption | exact qset_self _ _ _ | (rw [qset_ne _ _ (by omega)]; first | assumption | exact qset_self _ _ _ | (rw [qset_ne _ _ (by omega)]; first | assumption | exact qset_self _ _ _ | (rw [qset_ne _ _ (by omega)]; first | assumption | exact qset_self _ _ _ | (rw [qset_ne _ _ (by omega)]; first | assumption | exact qset_self _ _ _))))))) rfl ?_
  refine v_get B i_P_version_8 (by first | assumption | exact qset_self _ _ _ | (rw [qset_ne _ _ (by omega)]; first | assumption | exact qset_self _ _ _ | (rw [qset_ne _ _ (by omega)]; first | assumption | exact qset_self _ _ _ | (rw [qset_ne _ _ (by omega)]; first | assumption | exact qset_self _ _ _ | (rw [qset_ne _ _ (by omega)]; first | assumption | exact qset_self _ _ _ | (rw [qset_ne _ _ (by omega)]; first | assumption | exact qset_self _ _ _ | (rw [qset_ne _ _ (by omega)]; first | assumption | exact qset_self _ _ _))))))) rfl ?_
  exact v_iret i_P_version_11 rfl (by decide) (by decide) ⟨hdn, rfl, hS, qCl.rf _ _ _⟩
theorem c_P_pages (B : qB l s0 C) (h : PtS X x E pg made lat ro db D) : qMet l s0 C m_P_pages rmP [.ref x] X (fun r X' => D.2.2.2.2 = false ∧ r = some (.int (nI made)) ∧ qSt X X' x E pg made lat ro db D) (fun e X' => D.2.2.2.2 = true ∧ e = xS ∧ qSt X X' x E pg made lat ro db D) := by
  have hS := h
  obtain ⟨cnt, pa, pn, fe, g1, g2, co, li, F, O, h⟩ := h
  obtain ⟨h0, h1, hd, hF, hO, he1, he2, he3⟩ := id h
  obtain ⟨t0, -, -, -, -, -, hPG, ⟨m1, m2, m3, m4, m5⟩, hro, -⟩ := id h1
  refine q_of (by decide +kernel) (Nat.le_of_ble_eq_true rfl) ?_
  refine v_L (L' := [(0, .ref x)]) rfl ?_
  refine v_aload_n i_P_pages_0 rfl ?_
  refine v_inv B i_P_pages_1 kn_m_P_demandUp (c_P_demandUp B h) h0 rfl rfl (Nat.le_of_ble_eq_true rfl) ⟨by decide, by decide, by first | decide | (simp; omega), by first | decide | (simp; omega)⟩ rfl (fun r X' hq => ?_) (fun e X' hx => by obtain ⟨a, b, N, c, rfl⟩ := hx; exact ⟨a, b, hS.thr c⟩)
  obtain ⟨hdn, rfl, rfl⟩ := hq
  refine v_aload_n i_P_pages_4 rfl ?_
  refine v_get B i_P_pages_5 (by first | assumption | exact qset_self _ _ _ | (rw [qset_ne _ _ (by omega)]; first | assumption | exact qset_self _ _ _ | (rw [qset_ne _ _ (by omega)]; first | assumption | exact qset_self _ _ _ | (rw [qset_ne _ _ (by omega)]; first | assumption | exact qset_self _ _ _ | (rw [qset_ne _ _ (by omega)]; first | assumption | exact qset_self _ _ _ | (rw [qset_ne _ _ (by omega)]; first | assumption | exact qset_self _ _ _ | (rw [qset_ne _ _ (by omega)]; first | assumption | exact qset_self _ _ _))))))) rfl ?_
  refine v_get B i_P_pages_8 (by first | assumption | exact qset_self _ _ _ | (rw [qset_ne _ _ (by omega)]; first | assumption | exact qset_self _ _ _ | (rw [qset_ne _ _ (by omega)]; first | assumption | exact qset_self _ _ _ | (rw [qset_ne _ _ (by omega)]; first | assumption | exact qset_self _ _ _ | (rw [qset_ne _ _ (by omega)]; first | assumption | exact qset_self _ _ _ | (rw [qset_ne _ _ (by omega)]; first | assumption | exact qset_self _ _ _ | (rw [qset_ne _ _ (by omega)]; first | assumption | exact qset_self _ _ _))))))) rfl ?_
  exact v_iret i_P_pages_11 rfl (by decide) (by decide) ⟨hdn, rfl, hS, qCl.rf _ _ _⟩
theorem c_P_bound (B : qB l s0 C) (h : PtS X x E pg made lat ro db D) : qMet l s0 C m_P_bound rmP [.ref x] X (fun r X' => D.2.2.2.2 = false ∧ r = some (.int (nI (2 + 2 * lat))) ∧ qSt X X' x E pg made lat ro db D) (fun e X' => D.2.2.2.2 = true ∧ e = xS ∧ qSt X X' x E pg made lat ro db D) := by
  have hS := h
  obtain ⟨cnt, pa, pn, fe, g1, g2, co, li, F, O, h⟩ := h
  obtain ⟨h0, h1, hd, hF, hO, he1, he2, he3⟩ := id h
  obtain ⟨t0, -, -, -, -, -, hPG, ⟨m1, m2, m3, m4, m5⟩, hro, -⟩ := id h1
  refine q_of (by decide +kernel) (Nat.le_of_ble_eq_true rfl) ?_
  refine v_L (L' := [(0, .ref x)]) rfl ?_
  refine v_aload_n i_P_bound_0 rfl ?_
  refine v_inv B i_P_bound_1 kn_m_P_demandUp (c_P_demandUp B h) h0 rfl rfl (Nat.le_of_ble_eq_true rfl) ⟨by decide, by decide, by first | decide | (simp; omega), by first | decide | (simp; omega)⟩ rfl (fun r X' hq => ?_) (fun e X' hx => by obtain ⟨a, b, N, c, rfl⟩ := hx; exact ⟨a, b, hS.thr c⟩)
  obtain ⟨hdn, rfl, rfl⟩ := hq
  refine v_iconst (v := 2) i_P_bound_4 rfl ?_
  refine v_iconst (v := 2) i_P_bound_5 rfl ?_
  refine v_aload_n i_P_bound_6 rfl ?_
  refine v_get B i_P_bound_7 (by first | assumption | exact qset_self _ _ _ | (rw [qset_ne _ _ (by omega)]; first | assumption | exact qset_self _ _ _ | (rw [qset_ne _ _ (by omega)]; first | assumption | exact qset_self _ _ _ | (rw [qset_ne _ _ (by omega)]; first | assumption | exact qset_self _ _ _ | (rw [qset_ne _ _ (by omega)]; first | assumption | exact qset_self _ _ _ | (rw [qset_ne _ _ (by omega)]; first | assumption | exact qset_self _ _ _ | (rw [qset_ne _ _ (by omega)]; first | assumption | exact qset_self _ _ _))))))) rfl ?_
  refine v_get B i_P_bound_10 (by first | assumption | exact qset_self _ _ _ | (rw [qset_ne _ _ (by omega)]; first | assumption | exact qset_self _ _ _ | (rw [qset_ne _ _ (by omega)]; first | assumption | exact qset_self _ _ _ | (rw [qset_ne _ _ (by omega)]; first | assumption | exact qset_self _ _ _ | (rw [qset_ne _ _ (by omega)]; first | assumption | exact qset_self _ _ _ | (rw [qset_ne _ _ (by omega)]; first | assumption | exact qset_self _ _ _ | (rw [qset_ne _ _ (by omega)]; first | assumption | exact qset_self _ _ _))))))) rfl ?_
  refine v_imul i_P_bound_13 ?_
  refine v_iadd i_P_bound_14 ?_
  refine v_iret i_P_bound_15 rfl (by decide) (by decide) ⟨hdn, ?_, hS, qCl.rf _ _ _⟩
  rw [← nI_add, show 2 * lat = lat * 2 from Nat.mul_comm _ _, show nI (lat * 2) = nI lat * nI 2 from Int32.ofNat_mul _ _, Int32.mul_comm]
  rfl
theorem c_P_root (B : qB l s0 C) (h : PtS X x E pg made lat ro db D) (v : Int32) : qMet l s0 C m_P_root rmP [.ref x, .int v] X (fun r X' => D.2.2.2.2 = false ∧ (∃ j, j ≤ lat ∧ v = nI j ∧ r = some (.int (nI (ro j)))) ∧ qSt X X' x E pg made lat ro db D) (fun e X' => (D.2.2.2.2 = true ∧ e = xS ∨ D.2.2.2.2 = false ∧ ¬ (0 ≤ v ∧ v ≤ nI lat) ∧ e = xI) ∧ qSt X X' x E pg made lat ro db D) := by
  have hS := h
  obtain ⟨cnt, pa, pn, fe, g1, g2, co, li, F, O, h⟩ := h
  obtain ⟨h0, h1, hd, hF, hO, he1, he2, he3⟩ := id h
  obtain ⟨t0, -, -, -, -, -, hPG, ⟨m1, m2, m3, m4, m5⟩, hro, -⟩ := id h1
  refine q_of (by decide +kernel) (Nat.le_of_ble_eq_true rfl) ?_
  refine v_L (L' := [(0, .ref x), (1, .int v)]) rfl ?_
  refine v_aload_n i_P_root_0 rfl ?_
  refine v_inv B i_P_root_1 kn_m_P_demandUp (c_P_demandUp B h) h0 rfl rfl (Nat.le_of_ble_eq_true rfl) ⟨by decide, by decide, by first | decide | (simp; omega), by first | decide | (simp; omega)⟩ rfl (fun r X' hq => ?_) (fun e X' hx => by obtain ⟨a, b, N, c, rfl⟩ := hx; exact ⟨Or.inl ⟨a, b⟩, hS.thr c⟩)
  obtain ⟨hdn, rfl, rfl⟩ := hq
  refine v_aload_n i_P_root_4 rfl ?_
  refine v_iload_n i_P_root_5 rfl ?_
  refine v_inv B i_P_root_6 kn_m_P_demandVersion (c_P_demandVersion B h v) h0 rfl rfl (Nat.le_of_ble_eq_true rfl) ⟨by decide, by decide, by first | decide | (simp; omega), by first | decide | (simp; omega)⟩ rfl (fun r X' hq => ?_) (fun e X' hx => by obtain ⟨a, b, N, c, rfl⟩ := hx; exact ⟨Or.inr ⟨hdn, a, b⟩, hS.thr c⟩)
  obtain ⟨⟨j, hj, rfl⟩, rfl, rfl⟩ := hq
  refine v_aload_n i_P_root_9 rfl ?_
  refine v_get B i_P_root_10 (by first | assumption | exact qset_self _ _ _ | (rw [qset_ne _ _ (by omega)]; first | assumption | exact qset_self _ _ _ | (rw [qset_ne _ _ (by omega)]; first | assumption | exact qset_self _ _ _ | (rw [qset_ne _ _ (by omega)]; first | assumption | exact qset_self _ _ _ | (rw [qset_ne _ _ (by omega)]; first | assumption | exact qset_self _ _ _ | (rw [qset_ne _ _ (by omega)]; first | assumption | exact qset_self _ _ _ | (rw [qset_ne _ _ (by omega)]; first | assumption | exact qset_self _ _ _))))))) rfl ?_
  refine v_iload_n i_P_root_13 rfl ?_
  refine v_inv B i_P_root_14 kn_m_T_rootOf (c_T_rootOf B h1 j (by omega)) t0 rfl rfl (Nat.le_of_ble_eq_true rfl) ⟨by decide, by decide, by first | decide | (simp; omega), by first | decide | (simp; omega)⟩ rfl (fun r X' hq => ?_) (fun _ _ h => False.elim h)
  obtain ⟨rfl, rfl⟩ := hq
  exact v_iret i_P_root_17 rfl (by decide) (by decide) ⟨hdn, ⟨j, hj, rfl, rfl⟩, hS, qCl.rf _ _ _⟩
theorem c_P_has (B : qB l s0 C) (h : PtS X x E pg made lat ro db D) (v : Int32) (k : Int32) (hfit : ∀ j, j ≤ lat → cfit pg made ro j k k 2147483647) : qMet l s0 C m_P_has rmP [.ref x, .int v, .int k] X (fun r X' => D.2.2.2.2 = false ∧ (∃ j, j ≤ lat ∧ v = nI j ∧ r = some (.int (bI (decide (0 < (cgat pg made ro j k k 2147483647).length))))) ∧ qSt X X' x E pg made lat ro db D) (fun e X' => (D.2.2.2.2 = true ∧ e = xS ∨ D.2.2.2.2 = false ∧ ¬ (0 ≤ v ∧ v ≤ nI lat) ∧ e = xI) ∧ qSt X X' x E pg made lat ro db D) := by
  have hS := h
  obtain ⟨cnt, pa, pn, fe, g1, g2, co, li, F, O, h⟩ := h
  obtain ⟨h0, h1, hd, hF, hO, he1, he2, he3⟩ := id h
  obtain ⟨t0, -, -, -, -, -, hPG, ⟨m1, m2, m3, m4, m5⟩, hro, -⟩ := id h1
  refine q_of (by decide +kernel) (Nat.le_of_ble_eq_true rfl) ?_
  refine v_L (L' := [(0, .ref x), (1, .int v), (2, .int k)]) rfl ?_
  refine v_aload_n i_P_has_0 rfl ?_
  refine v_inv B i_P_has_1 kn_m_P_demandUp (c_P_demandUp B h) h0 rfl rfl (Nat.le_of_ble_eq_true rfl) ⟨by decide, by decide, by first | decide | (simp; omega), by first | decide | (simp; omega)⟩ rfl (fun r X' hq => ?_) (fun e X' hx => by obtain ⟨a, b, N, c, rfl⟩ := hx; exact ⟨Or.inl ⟨a, b⟩, hS.thr c⟩)
  obtain ⟨hdn, rfl, rfl⟩ := hq
  refine v_aload_n i_P_has_4 rfl ?_
  refine v_iload_n i_P_has_5 rfl ?_
  refine v_inv B i_P_has_6 kn_m_P_demandVersion (c_P_demandVersion B h v) h0 rfl rfl (Nat.le_of_ble_eq_true rfl) ⟨by decide, by decide, by first | decide | (simp; omega), by first | decide | (simp; omega)⟩ rfl (fun r X' hq => ?_) (fun e X' hx => by obtain ⟨a, b, N, c, rfl⟩ := hx; exact ⟨Or.inr ⟨hdn, a, b⟩, hS.thr c⟩)
  obtain ⟨⟨j, hj, rfl⟩, rfl, rfl⟩ := hq
  refine v_aload_n i_P_has_9 rfl ?_
  refine v_get B i_P_has_10 (by first | assumption | exact qset_self _ _ _ | (rw [qset_ne _ _ (by omega)]; first | assumption | exact qset_self _ _ _ | (rw [qset_ne _ _ (by omega)]; first | assumption | exact qset_self _ _ _ | (rw [qset_ne _ _ (by omega)]; first | assumption | exact qset_self _ _ _ | (rw [qset_ne _ _ (by omega)]; first | assumption | exact qset_self _ _ _ | (rw [qset_ne _ _ (by omega)]; first | assumption | exact qset_self _ _ _ | (rw [qset_ne _ _ (by omega)]; first | assumption | exact qset_self _ _ _))))))) rfl ?_
  refine v_iload_n i_P_has_13 rfl ?_
  refine v_iload_n i_P_has_14 rfl ?_
  refine v_iload_n i_P_has_15 rfl ?_
  refine v_aload_n i_P_has_16 rfl ?_
  refine v_get B i_P_has_17 (by first | assumption | exact qset_self _ _ _ | (rw [qset_ne _ _ (by omega)]; first | assumption | exact qset_self _ _ _ | (rw [qset_ne _ _ (by omega)]; first | assumption | exact qset_self _ _ _ | (rw [qset_ne _ _ (by omega)]; first | assumption | exact qset_self _ _ _ | (rw [qset_ne _ _ (by omega)]; first | assumption | exact qset_self _ _ _ | (rw [qset_ne _ _ (by omega)]; first | assumption | exact qset_self _ _ _ | (rw [qset_ne _ _ (by omega)]; first | assumption | exact qset_self _ _ _))))))) rfl ?_
  refine v_inv B i_P_has_20 kn_m_T_gather (c_T_gather B h1 j (by omega) k k hF (by omega) (by omega) (tfit_pn _ _ _ _ _ _ _ _ _ _ _ _ _ (hfit j hj))) t0 rfl rfl (Nat.le_of_ble_eq_true rfl) ⟨by decide, by decide, by first | decide | (simp; omega), by first | decide | (simp; omega)⟩ rfl (fun r X' hq => ?_) (fun _ _ h => False.elim h)
  obtain ⟨rfl, ht2, hF2, hz2, hs2⟩ := hq
  rw [show (tgat pg made ro j k k 2147483647 256 k.toInt64 [] pn fe).1 = cgat pg made ro j k k 2147483647 from tgat_pn _ _ _ _ _ _ _ _ _ _ _ _ _ _] at hF2
  obtain ⟨h2, hc2⟩ := h.rows (Or.inl rfl) ht2 hz2 hs2 hF2 (hO.cells (fun q a b => hz2 q (by omega)))
  obtain ⟨k0, -⟩ := id h2
  obtain ⟨f0, f1, -⟩ := id hF2
  refine v_aload_n i_P_has_23 rfl ?_
  refine v_get B i_P_has_24 (by first | assumption | exact qset_self _ _ _ | (rw [qset_ne _ _ (by omega)]; first | assumption | exact qset_self _ _ _ | (rw [qset_ne _ _ (by omega)]; first | assumption | exact qset_self _ _ _ | (rw [qset_ne _ _ (by omega)]; first | assumption | exact qset_self _ _ _ | (rw [qset_ne _ _ (by omega)]; first | assumption | exact qset_self _ _ _ | (rw [qset_ne _ _ (by omega)]; first | assumption | exact qset_self _ _ _ | (rw [qset_ne _ _ (by omega)]; first | assumption | exact qset_self _ _ _))))))) rfl ?_
  refine v_get B i_P_has_27 (by first | assumption | exact qset_self _ _ _ | (rw [qset_ne _ _ (by omega)]; first | assumption | exact qset_self _ _ _ | (rw [qset_ne _ _ (by omega)]; first | assumption | exact qset_self _ _ _ | (rw [qset_ne _ _ (by omega)]; first | assumption | exact qset_self _ _ _ | (rw [qset_ne _ _ (by omega)]; first | assumption | exact qset_self _ _ _ | (rw [qset_ne _ _ (by omega)]; first | assumption | exact qset_self _ _ _ | (rw [qset_ne _ _ (by omega)]; first | assumption | exact qset_self _ _ _))))))) rfl ?_
  refine v_if_le (tgt := 37) i_P_has_30 rfl (fun h30 => ?_) (fun h30 => ?_)
  · refine v_iconst (v := 0) i_P_has_37 rfl ?_
    refine v_zret i_P_has_38 rfl (Or.inl rfl) (by decide) (by decide) ⟨hdn, ⟨j, hj, rfl, ?_⟩, h2.st, hc2⟩
    rw [decide_eq_false (fun q => nI_nle q (by omega) h30)]; rfl
  · refine v_iconst (v := 1) i_P_has_33 rfl ?_
    refine v_goto (tgt := 38) i_P_has_34 rfl ?_
    refine v_zret i_P_has_38 rfl (Or.inr rfl) (by decide) (by decide) ⟨hdn, ⟨j, hj, rfl, ?_⟩, h2.st, hc2⟩
    rw [decide_eq_true (show 0 < (cgat pg made ro j k k 2147483647).length from by
      rcases Nat.eq_zero_or_pos (cgat pg made ro j k k 2147483647).length with q | q
      · rw [q] at h30; exact absurd (by decide) h30
      · exact q)]; rfl
theorem c_P_count (B : qB l s0 C) (h : PtS X x E pg made lat ro db D) (v : Int32) (lo : Int32) (hi : Int32) (hfit : ∀ j, j ≤ lat → cfit pg made ro j lo hi 2147483647) : qMet l s0 C m_P_count rmP [.ref x, .int v, .int lo, .int hi] X (fun r X' => D.2.2.2.2 = false ∧ (∃ j, j ≤ lat ∧ v = nI j ∧ r = some (.int (nI (cgat pg made ro j lo hi 2147483647).length))) ∧ qSt X X' x E pg made lat ro db D) (fun e X' => (D.2.2.2.2 = true ∧ e = xS ∨ D.2.2.2.2 = false ∧ ¬ (0 ≤ v ∧ v ≤ nI lat) ∧ e = xI) ∧ qSt X X' x E pg made lat ro db D) := by
  have hS := h
  obtain ⟨cnt, pa, pn, fe, g1, g2, co, li, F, O, h⟩ := h
  obtain ⟨h0, h1, hd, hF, hO, he1, he2, he3⟩ := id h
  obtain ⟨t0, -, -, -, -, -, hPG, ⟨m1, m2, m3, m4, m5⟩, hro, -⟩ := id h1
  refine q_of (by decide +kernel) (Nat.le_of_ble_eq_true rfl) ?_
  refine v_L (L' := [(0, .ref x), (1, .int v), (2, .int lo), (3, .int hi)]) rfl ?_
  refine v_aload_n i_P_count_0 rfl ?_
  refine v_inv B i_P_count_1 kn_m_P_demandUp (c_P_demandUp B h) h0 rfl rfl (Nat.le_of_ble_eq_true rfl) ⟨by decide, by decide, by first | decide | (simp; omega), by first | decide | (simp; omega)⟩ rfl (fun r X' hq => ?_) (fun e X' hx => by obtain ⟨a, b, N, c, rfl⟩ := hx; exact ⟨Or.inl ⟨a, b⟩, hS.thr c⟩)
  obtain ⟨hdn, rfl, rfl⟩ := hq
  refine v_aload_n i_P_count_4 rfl ?_
  refine v_iload_n i_P_count_5 rfl ?_
  refine v_inv B i_P_count_6 kn_m_P_demandVersion (c_P_demandVersion B h v) h0 rfl rfl (Nat.le_of_ble_eq_true rfl) ⟨by decide, by decide, by first | decide | (simp; omega), by first | decide | (simp; omega)⟩ rfl (fun r X' hq => ?_) (fun e X' hx => by obtain ⟨a, b, N, c, rfl⟩ := hx; exact ⟨Or.inr ⟨hdn, a, b⟩, hS.thr c⟩)
  obtain ⟨⟨j, hj, rfl⟩, rfl, rfl⟩ := hq
  refine v_aload_n i_P_count_9 rfl ?_
  refine v_get B i_P_count_10 (by first | assumption | exact qset_self _ _ _ | (rw [qset_ne _ _ (by omega)]; first | assumption | exact qset_self _ _ _ | (rw [qset_ne _ _ (by omega)]; first | assumption | exact qset_self _ _ _ | (rw [qset_ne _ _ (by omega)]; first | assumption | exact qset_self _ _ _ | (rw [qset_ne _ _ (by omega)]; first | assumption | exact qset_self _ _ _ | (rw [qset_ne _ _ (by omega)]; first | assumption | exact qset_self _ _ _ | (rw [qset_ne _ _ (by omega)]; first | assumption | exact qset_self _ _ _))))))) rfl ?_
  refine v_iload_n i_P_count_13 rfl ?_
  refine v_iload_n i_P_count_14 rfl ?_
  refine v_iload_n i_P_count_15 rfl ?_
  refine v_aload_n i_P_count_16 rfl ?_
  refine v_get B i_P_count_17 (by first | assumption | exact qset_self _ _ _ | (rw [qset_ne _ _ (by omega)]; first | assumption | exact qset_self _ _ _ | (rw [qset_ne _ _ (by omega)]; first | assumption | exact qset_self _ _ _ | (rw [qset_ne _ _ (by omega)]; first | assumption | exact qset_self _ _ _ | (rw [qset_ne _ _ (by omega)]; first | assumption | exact qset_self _ _ _ | (rw [qset_ne _ _ (by omega)]; first | assumption | exact qset_self _ _ _ | (rw [qset_ne _ _ (by omega)]; first | assumption | exact qset_self _ _ _))))))) rfl ?_
  refine v_inv B i_P_count_20 kn_m_T_gather (c_T_gather B h1 j (by omega) lo hi hF (by omega) (by omega) (tfit_pn _ _ _ _ _ _ _ _ _ _ _ _ _ (hfit j hj))) t0 rfl rfl (Nat.le_of_ble_eq_true rfl) ⟨by decide, by decide, by first | decide | (simp; omega), by first | decide | (simp; omega)⟩ rfl (fun r X' hq => ?_) (fun _ _ h => False.elim h)
  obtain ⟨rfl, ht2, hF2, hz2, hs2⟩ := hq
  rw [show (tgat pg made ro j lo hi 2147483647 256 lo.toInt64 [] pn fe).1 = cgat pg made ro j lo hi 2147483647 from tgat_pn _ _ _ _ _ _ _ _ _ _ _ _ _ _] at hF2
  obtain ⟨h2, hc2⟩ := h.rows (Or.inl rfl) ht2 hz2 hs2 hF2 (hO.cells (fun q a b => hz2 q (by omega)))
  obtain ⟨k0, -⟩ := id h2
  obtain ⟨f0, f1, -⟩ := id hF2
  refine v_aload_n i_P_count_23 rfl ?_
  refine v_get B i_P_count_24 (by first | assumption | exact qset_self _ _ _ | (rw [qset_ne _ _ (by omega)]; first | assumption | exact qset_self _ _ _ | (rw [qset_ne _ _ (by omega)]; first | assumption | exact qset_self _ _ _ | (rw [qset_ne _ _ (by omega)]; first | assumption | exact qset_self _ _ _ | (rw [qset_ne _ _ (by omega)]; first | assumption | exact qset_self _ _ _ | (rw [qset_ne _ _ (by omega)]; first | assumption | exact qset_self _ _ _ | (rw [qset_ne _ _ (by omega)]; first | assumption | exact qset_self _ _ _))))))) rfl ?_
  refine v_get B i_P_count_27 (by first | assumption | exact qset_self _ _ _ | (rw [qset_ne _ _ (by omega)]; first | assumption | exact qset_self _ _ _ | (rw [qset_ne _ _ (by omega)]; first | assumption | exact qset_self _ _ _ | (rw [qset_ne _ _ (by omega)]; first | assumption | exact qset_self _ _ _ | (rw [qset_ne _ _ (by omega)]; first | assumption | exact qset_self _ _ _ | (rw [qset_ne _ _ (by omega)]; first | assumption | exact qset_self _ _ _ | (rw [qset_ne _ _ (by omega)]; first | assumption | exact qset_self _ _ _))))))) rfl ?_
  exact v_iret i_P_count_30 rfl (by decide) (by decide) ⟨hdn, ⟨j, hj, rfl, rfl⟩, h2.st, hc2⟩
theorem c_P_sum (B : qB l s0 C) (h : PtS X x E pg made lat ro db D) (v : Int32) (lo : Int32) (hi : Int32) (hfit : ∀ j, j ≤ lat → cfit pg made ro j lo hi 2147483647) : qMet l s0 C m_P_sum rmP [.ref x, .int v, .int lo, .int hi] X (fun r X' => D.2.2.2.2 = false ∧ (∃ j, j ≤ lat ∧ v = nI j ∧ r = some (.long (rsum (cgat pg made ro j lo hi 2147483647)))) ∧ qSt X X' x E pg made lat ro db D) (fun e X' => (D.2.2.2.2 = true ∧ e = xS ∨ D.2.2.2.2 = false ∧ ¬ (0 ≤ v ∧ v ≤ nI lat) ∧ e = xI) ∧ qSt X X' x E pg made lat ro db D) := by
  have hS := h
  obtain ⟨cnt, pa, pn, fe, g1, g2, co, li, F, O, h⟩ := h
  obtain ⟨h0, h1, hd, hF, hO, he1, he2, he3⟩ := id h
  obtain ⟨t0, -, -, -, -, -, hPG, ⟨m1, m2, m3, m4, m5⟩, hro, -⟩ := id h1
  refine q_of (by decide +kernel) (Nat.le_of_ble_eq_true rfl) ?_
  refine v_L (L' := [(0, .ref x), (1, .int v), (2, .int lo), (3, .int hi)]) rfl ?_
  refine v_aload_n i_P_sum_0 rfl ?_
  refine v_inv B i_P_sum_1 kn_m_P_demandUp (c_P_demandUp B h) h0 rfl rfl (Nat.le_of_ble_eq_true rfl) ⟨by decide, by decide, by first | decide | (simp; omega), by first | decide | (simp; omega)⟩ rfl (fun r X' hq => ?_) (fun e X' hx => by obtain ⟨a, b, N, c, rfl⟩ := hx; exact ⟨Or.inl ⟨a, b⟩, hS.thr c⟩)
  obtain ⟨hdn, rfl, rfl⟩ := hq
  refine v_aload_n i_P_sum_4 rfl ?_
  refine v_iload_n i_P_sum_5 rfl ?_
  refine v_inv B i_P_sum_6 kn_m_P_demandVersion (c_P_demandVersion B h v) h0 rfl rfl (Nat.le_of_ble_eq_true rfl) ⟨by decide, by decide, by first | decide | (simp; omega), by first | decide | (simp; omega)⟩ rfl (fun r X' hq => ?_) (fun e X' hx => by obtain ⟨a, b, N, c, rfl⟩ := hx; exact ⟨Or.inr ⟨hdn, a, b⟩, hS.thr c⟩)
  obtain ⟨⟨j, hj, rfl⟩, rfl, rfl⟩ := hq
  refine v_aload_n i_P_sum_9 rfl ?_
  refine v_get B i_P_sum_10 (by first | assumption | exact qset_self _ _ _ | (rw [qset_ne _ _ (by omega)]; first | assumption | exact qset_self _ _ _ | (rw [qset_ne _ _ (by omega)]; first | assumption | exact qset_self _ _ _ | (rw [qset_ne _ _ (by omega)]; first | assumption | exact qset_self _ _ _ | (rw [qset_ne _ _ (by omega)]; first | assumption | exact qset_self _ _ _ | (rw [qset_ne _ _ (by omega)]; first | assumption | exact qset_self _ _ _ | (rw [qset_ne _ _ (by omega)]; first | assumption | exact qset_self _ _ _))))))) rfl ?_
  refine v_iload_n i_P_sum_13 rfl ?_
  refine v_iload_n i_P_sum_14 rfl ?_
  refine v_iload_n i_P_sum_15 rfl ?_
  refine v_aload_n i_P_sum_16 rfl ?_
  refine v_get B i_P_sum_17 (by first | assumption | exact qset_self _ _ _ | (rw [qset_ne _ _ (by omega)]; first | assumption | exact qset_self _ _ _ | (rw [qset_ne _ _ (by omega)]; first | assumption | exact qset_self _ _ _ | (rw [qset_ne _ _ (by omega)]; first | assumption | exact qset_self _ _ _ | (rw [qset_ne _ _ (by omega)]; first | assumption | exact qset_self _ _ _ | (rw [qset_ne _ _ (by omega)]; first | assumption | exact qset_self _ _ _ | (rw [qset_ne _ _ (by omega)]; first | assumption | exact qset_self _ _ _))))))) rfl ?_
  refine v_inv B i_P_sum_20 kn_m_T_gather (c_T_gather B h1 j (by omega) lo hi hF (by omega) (by omega) (tfit_pn _ _ _ _ _ _ _ _ _ _ _ _ _ (hfit j hj))) t0 rfl rfl (Nat.le_of_ble_eq_true rfl) ⟨by decide, by decide, by first | decide | (simp; omega), by first | decide | (simp; omega)⟩ rfl (fun r X' hq => ?_) (fun _ _ h => False.elim h)
  obtain ⟨rfl, ht2, hF2, hz2, hs2⟩ := hq
  rw [show (tgat pg made ro j lo hi 2147483647 256 lo.toInt64 [] pn fe).1 = cgat pg made ro j lo hi 2147483647 from tgat_pn _ _ _ _ _ _ _ _ _ _ _ _ _ _] at hF2
  obtain ⟨h2, hc2⟩ := h.rows (Or.inl rfl) ht2 hz2 hs2 hF2 (hO.cells (fun q a b => hz2 q (by omega)))
  obtain ⟨k0, -⟩ := id h2
  obtain ⟨f0, f1, -⟩ := id hF2
  refine v_aload_n i_P_sum_23 rfl ?_
  refine v_get B i_P_sum_24 (by first | assumption | exact qset_self _ _ _ | (rw [qset_ne _ _ (by omega)]; first | assumption | exact qset_self _ _ _ | (rw [qset_ne _ _ (by omega)]; first | assumption | exact qset_self _ _ _ | (rw [qset_ne _ _ (by omega)]; first | assumption | exact qset_self _ _ _ | (rw [qset_ne _ _ (by omega)]; first | assumption | exact qset_self _ _ _ | (rw [qset_ne _ _ (by omega)]; first | assumption | exact qset_self _ _ _ | (rw [qset_ne _ _ (by omega)]; first | assumption | exact qset_self _ _ _))))))) rfl ?_
  refine v_inv B i_P_sum_27 kn_m_R_total (c_R_total B hF2) f0 rfl rfl (Nat.le_of_ble_eq_true rfl) ⟨by decide, by decide, by first | decide | (simp; omega), by first | decide | (simp; omega)⟩ rfl (fun r X' hq => ?_) (fun _ _ h => False.elim h)
  obtain ⟨rfl, rfl⟩ := hq
  exact v_lret i_P_sum_30 rfl (by decide) (by decide) ⟨hdn, ⟨j, hj, rfl, rfl⟩, h2.st, hc2⟩
theorem c_P_get (B : qB l s0 C) (h : PtS X x E pg made lat ro db D) (v : Int32) (k : Int32) (hfit : ∀ j, j ≤ lat → cfit pg made ro j k k 2147483647) : qMet l s0 C m_P_get rmP [.ref x, .int v, .int k] X (fun r X' => D.2.2.2.2 = false ∧ (∃ j, j ≤ lat ∧ v = nI j ∧ 0 < (cgat pg made ro j k k 2147483647).length ∧ r = some (.long (rv (cgat pg made ro j k k 2147483647) 0))) ∧ qSt X X' x E pg made lat ro db D) (fun e X' => (D.2.2.2.2 = true ∧ e = xS ∨ D.2.2.2.2 = false ∧ ¬ (0 ≤ v ∧ v ≤ nI lat) ∧ e = xI ∨ D.2.2.2.2 = false ∧ (∃ j, j ≤ lat ∧ v = nI j ∧ (cgat pg made ro j k k 2147483647).length = 0) ∧ e = xN) ∧ qSt X X' x E pg made lat ro db D) := by
  have hS := h
  obtain ⟨cnt, pa, pn, fe, g1, g2, co, li, F, O, h⟩ := h
  obtain ⟨h0, h1, hd, hF, hO, he1, he2, he3⟩ := id h
  obtain ⟨t0, -, -, -, -, -, hPG, ⟨m1, m2, m3, m4, m5⟩, hro, -⟩ := id h1
  refine q_of (by decide +kernel) (Nat.le_of_ble_eq_true rfl) ?_
  refine v_L (L' := [(0, .ref x), (1, .int v), (2, .int k)]) rfl ?_
  refine v_aload_n i_P_get_0 rfl ?_
  refine v_inv B i_P_get_1 kn_m_P_demandUp (c_P_demandUp B h) h0 rfl rfl (Nat.le_of_ble_eq_true rfl) ⟨by decide, by decide, by first | decide | (simp; omega), by first | decide | (simp; omega)⟩ rfl (fun r X' hq => ?_) (fun e X' hx => by obtain ⟨a, b, N, c, rfl⟩ := hx; exact ⟨Or.inl ⟨a, b⟩, hS.thr c⟩)
  obtain ⟨hdn, rfl, rfl⟩ := hq
  refine v_aload_n i_P_get_4 rfl ?_
  refine v_iload_n i_P_get_5 rfl ?_
  refine v_inv B i_P_get_6 kn_m_P_demandVersion (c_P_demandVersion B h v) h0 rfl rfl (Nat.le_of_ble_eq_true rfl) ⟨by decide, by decide, by first | decide | (simp; omega), by first | decide | (simp; omega)⟩ rfl (fun r X' hq => ?_) (fun e X' hx => by obtain ⟨a, b, N, c, rfl⟩ := hx; exact ⟨Or.inr (Or.inl ⟨hdn, a, b⟩), hS.thr c⟩)
  obtain ⟨⟨j, hj, rfl⟩, rfl, rfl⟩ := hq
  refine v_aload_n i_P_get_9 rfl ?_
  refine v_get B i_P_get_10 (by first | assumption | exact qset_self _ _ _ | (rw [qset_ne _ _ (by omega)]; first | assumption | exact qset_self _ _ _ | (rw [qset_ne _ _ (by omega)]; first | assumption | exact qset_self _ _ _ | (rw [qset_ne _ _ (by omega)]; first | assumption | exact qset_self _ _ _ | (rw [qset_ne _ _ (by omega)]; first | assumption | exact qset_self _ _ _ | (rw [qset_ne _ _ (by omega)]; first | assumption | exact qset_self _ _ _ | (rw [qset_ne _ _ (by omega)]; first | assumption | exact qset_self _ _ _))))))) rfl ?_
  refine v_iload_n i_P_get_13 rfl ?_
  refine v_iload_n i_P_get_14 rfl ?_
  refine v_iload_n i_P_get_15 rfl ?_
  refine v_aload_n i_P_get_16 rfl ?_
  refine v_get B i_P_get_17 (by first | assumption | exact qset_self _ _ _ | (rw [qset_ne _ _ (by omega)]; first | assumption | exact qset_self _ _ _ | (rw [qset_ne _ _ (by omega)]; first | assumption | exact qset_self _ _ _ | (rw [qset_ne _ _ (by omega)]; first | assumption | exact qset_self _ _ _ | (rw [qset_ne _ _ (by omega)]; first | assumption | exact qset_self _ _ _ | (rw [qset_ne _ _ (by omega)]; first | assumption | exact qset_self _ _ _ | (rw [qset_ne _ _ (by omega)]; first | assumption | exact qset_self _ _ _))))))) rfl ?_
  refine v_inv B i_P_get_20 kn_m_T_gather (c_T_gather B h1 j (by omega) k k hF (by omega) (by omega) (tfit_pn _ _ _ _ _ _ _ _ _ _ _ _ _ (hfit j hj))) t0 rfl rfl (Nat.le_of_ble_eq_true rfl) ⟨by decide, by decide, by first | decide | (simp; omega), by first | decide | (simp; omega)⟩ rfl (fun r X' hq => ?_) (fun _ _ h => False.elim h)
  obtain ⟨rfl, ht2, hF2, hz2, hs2⟩ := hq
  rw [show (tgat pg made ro j k k 2147483647 256 k.toInt64 [] pn fe).1 = cgat pg made ro j k k 2147483647 from tgat_pn _ _ _ _ _ _ _ _ _ _ _ _ _ _] at hF2
  obtain ⟨h2, hc2⟩ := h.rows (Or.inl rfl) ht2 hz2 hs2 hF2 (hO.cells (fun q a b => hz2 q (by omega)))
  obtain ⟨k0, -⟩ := id h2
  obtain ⟨f0, f1, -⟩ := id hF2
  refine v_aload_n i_P_get_23 rfl ?_
  refine v_get B i_P_get_24 (by first | assumption | exact qset_self _ _ _ | (rw [qset_ne _ _ (by omega)]; first | assumption | exact qset_self _ _ _ | (rw [qset_ne _ _ (by omega)]; first | assumption | exact qset_self _ _ _ | (rw [qset_ne _ _ (by omega)]; first | assumption | exact qset_self _ _ _ | (rw [qset_ne _ _ (by omega)]; first | assumption | exact qset_self _ _ _ | (rw [qset_ne _ _ (by omega)]; first | assumption | exact qset_self _ _ _ | (rw [qset_ne _ _ (by omega)]; first | assumption | exact qset_self _ _ _))))))) rfl ?_
  refine v_get B i_P_get_27 (by first | assumption | exact qset_self _ _ _ | (rw [qset_ne _ _ (by omega)]; first | assumption | exact qset_self _ _ _ | (rw [qset_ne _ _ (by omega)]; first | assumption | exact qset_self _ _ _ | (rw [qset_ne _ _ (by omega)]; first | assumption | exact qset_self _ _ _ | (rw [qset_ne _ _ (by omega)]; first | assumption | exact qset_self _ _ _ | (rw [qset_ne _ _ (by omega)]; first | assumption | exact qset_self _ _ _ | (rw [qset_ne _ _ (by omega)]; first | assumption | exact qset_self _ _ _))))))) rfl ?_
  refine v_if_ne (tgt := 43) i_P_get_30 rfl (fun h30 => ?_) (fun h30 => ?_)
  · have hpos : 0 < (cgat pg made ro j k k 2147483647).length := by
      rcases Nat.eq_zero_or_pos (cgat pg made ro j k k 2147483647).length with q | q
      · rw [q] at h30; exact absurd rfl h30
      · exact q
    refine v_aload_n i_P_get_43 rfl ?_
    refine v_get B i_P_get_44 (by first | assumption | exact qset_self _ _ _ | (rw [qset_ne _ _ (by omega)]; first | assumption | exact qset_self _ _ _ | (rw [qset_ne _ _ (by omega)]; first | assumption | exact qset_self _ _ _ | (rw [qset_ne _ _ (by omega)]; first | assumption | exact qset_self _ _ _ | (rw [qset_ne _ _ (by omega)]; first | assumption | exact qset_self _ _ _ | (rw [qset_ne _ _ (by omega)]; first | assumption | exact qset_self _ _ _ | (rw [qset_ne _ _ (by omega)]; first | assumption | exact qset_self _ _ _))))))) rfl ?_
    refine v_iconst (v := 0) i_P_get_47 rfl ?_
    refine v_inv B i_P_get_48 kn_m_R_whatAt (c_R_whatAt B hF2 0) f0 rfl rfl (Nat.le_of_ble_eq_true rfl) ⟨by decide, by decide, by first | decide | (simp; omega), by first | decide | (simp; omega)⟩ rfl (fun r X' hq => ?_) (fun _ _ h => False.elim h)
    obtain ⟨rfl, rfl⟩ := hq
    refine v_lret i_P_get_51 rfl (by decide) (by decide) ⟨hdn, ⟨j, hj, rfl, hpos, ?_⟩, h2.st, hc2⟩
    rw [show (0 : Int32) = nI 0 from rfl, rwhatAt_nI hpos (by omega)]
  · have hz : (cgat pg made ro j k k 2147483647).length = 0 := (nI_eq (b := 0) (by omega) (by omega)).mp h30
    refine v_throwX (text := "the version has no such key") B th_N rfl (List.mem_of_getElem? (i := 555) (by decide +kernel)) rfl i_P_get_33 i_P_get_36 i_P_get_37 i_P_get_39 i_P_get_42 (by decide) (by decide) (by first | decide | (simp; omega)) (by first | decide | (simp; omega)) (fun N hN => ⟨Or.inr (Or.inr ⟨hdn, ⟨j, hj, rfl, hz⟩, rfl⟩), (h2.st.thr hN).1, hc2.trans (h2.st.thr hN).2⟩)
theorem c_P_next (B : qB l s0 C) (h : PtS X x E pg made lat ro db D) (v : Int32) (k : Int32) (hfit : ∀ j, j ≤ lat → cfit pg made ro j k 2147483647 1) : qMet l s0 C m_P_next rmP [.ref x, .int v, .int k] X (fun r X' => D.2.2.2.2 = false ∧ (∃ j, j ≤ lat ∧ v = nI j ∧ 0 < (cgat pg made ro j k 2147483647 1).length ∧ r = some (.int (rk (cgat pg made ro j k 2147483647 1) 0))) ∧ qSt X X' x E pg made lat ro db D) (fun e X' => (D.2.2.2.2 = true ∧ e = xS ∨ D.2.2.2.2 = false ∧ ¬ (0 ≤ v ∧ v ≤ nI lat) ∧ e = xI ∨ D.2.2.2.2 = false ∧ (∃ j, j ≤ lat ∧ v = nI j ∧ (cgat pg made ro j k 2147483647 1).length = 0) ∧ e = xN) ∧ qSt X X' x E pg made lat ro db D) := by
  have hS := h
  obtain ⟨cnt, pa, pn, fe, g1, g2, co, li, F, O, h⟩ := h
  obtain ⟨h0, h1, hd, hF, hO, he1, he2, he3⟩ := id h
  obtain ⟨t0, -, -, -, -, -, hPG, ⟨m1, m2, m3, m4, m5⟩, hro, -⟩ := id h1
  refine q_of (by decide +kernel) (Nat.le_of_ble_eq_true rfl) ?_
  refine v_L (L' := [(0, .ref x), (1, .int v), (2, .int k)]) rfl ?_
  refine v_aload_n i_P_next_0 rfl ?_
  refine v_inv B i_P_next_1 kn_m_P_demandUp (c_P_demandUp B h) h0 rfl rfl (Nat.le_of_ble_eq_true rfl) ⟨by decide, by decide, by first | decide | (simp; omega), by first | decide | (simp; omega)⟩ rfl (fun r X' hq => ?_) (fun e X' hx => by obtain ⟨a, b, N, c, rfl⟩ := hx; exact ⟨Or.inl ⟨a, b⟩, hS.thr c⟩)
  obtain ⟨hdn, rfl, rfl⟩ := hq
  refine v_aload_n i_P_next_4 rfl ?_
  refine v_iload_n i_P_next_5 rfl ?_
  refine v_inv B i_P_next_6 kn_m_P_demandVersion (c_P_demandVersion B h v) h0 rfl rfl (Nat.le_of_ble_eq_true rfl) ⟨by decide, by decide, by first | decide | (simp; omega), by first | decide | (simp; omega)⟩ rfl (fun r X' hq => ?_) (fun e X' hx => by obtain ⟨a, b, N, c, rfl⟩ := hx; exact ⟨Or.inr (Or.inl ⟨hdn, a, b⟩), hS.thr c⟩)
  obtain ⟨⟨j, hj, rfl⟩, rfl, rfl⟩ := hq
  refine v_aload_n i_P_next_9 rfl ?_
  refine v_get B i_P_next_10 (by first | assumption | exact qset_self _ _ _ | (rw [qset_ne _ _ (by omega)]; first | assumption | exact qset_self _ _ _ | (rw [qset_ne _ _ (by omega)]; first | assumption | exact qset_self _ _ _ | (rw [qset_ne _ _ (by omega)]; first | assumption | exact qset_self _ _ _ | (rw [qset_ne _ _ (by omega)]; first | assumption | exact qset_self _ _ _ | (rw [qset_ne _ _ (by omega)]; first | assumption | exact qset_self _ _ _ | (rw [qset_ne _ _ (by omega)]; first | assumption | exact qset_self _ _ _))))))) rfl ?_
  refine v_iload_n i_P_next_13 rfl ?_
  refine v_iload_n i_P_next_14 rfl ?_
  refine v_ldc B i_P_next_15 i_P_next_15_w ?_
  refine v_iconst (v := 1) i_P_next_17 rfl ?_
  refine v_aload_n i_P_next_18 rfl ?_
  refine v_get B i_P_next_19 (by first | assumption | exact qset_self _ _ _ | (rw [qset_ne _ _ (by omega)]; first | assumption | exact qset_self _ _ _ | (rw [qset_ne _ _ (by omega)]; first | assumption | exact qset_self _ _ _ | (rw [qset_ne _ _ (by omega)]; first | assumption | exact qset_self _ _ _ | (rw [qset_ne _ _ (by omega)]; first | assumption | exact qset_self _ _ _ | (rw [qset_ne _ _ (by omega)]; first | assumption | exact qset_self _ _ _ | (rw [qset_ne _ _ (by omega)]; first | assumption | exact qset_self _ _ _))))))) rfl ?_
  refine v_inv B i_P_next_22 kn_m_T_gatherSome (c_T_gatherSome B h1 j (by omega) k 2147483647 1 hF (by omega) (by omega) (tfit_pn _ _ _ _ _ _ _ _ _ _ _ _ _ (hfit j hj))) t0 rfl rfl (Nat.le_of_ble_eq_true rfl) ⟨by decide, by decide, by first | decide | (simp; omega), by first | decide | (simp; omega)⟩ rfl (fun r X' hq => ?_) (fun _ _ h => False.elim h)
  obtain ⟨rfl, ht2, hF2, hz2, hs2⟩ := hq
  rw [show (tgat pg made ro j k 2147483647 1 256 k.toInt64 [] pn fe).1 = cgat pg made ro j k 2147483647 1 from tgat_pn _ _ _ _ _ _ _ _ _ _ _ _ _ _] at hF2
  obtain ⟨h2, hc2⟩ := h.rows (Or.inl rfl) ht2 hz2 hs2 hF2 (hO.cells (fun q a b => hz2 q (by omega)))
  obtain ⟨k0, -⟩ := id h2
  obtain ⟨f0, f1, -⟩ := id hF2
  refine v_aload_n i_P_next_25 rfl ?_
  refine v_get B i_P_next_26 (by first | assumption | exact qset_self _ _ _ | (rw [qset_ne _ _ (by omega)]; first | assumption | exact qset_self _ _ _ | (rw [qset_ne _ _ (by omega)]; first | assumption | exact qset_self _ _ _ | (rw [qset_ne _ _ (by omega)]; first | assumption | exact qset_self _ _ _ | (rw [qset_ne _ _ (by omega)]; first | assumption | exact qset_self _ _ _ | (rw [qset_ne _ _ (by omega)]; first | assumption | exact qset_self _ _ _ | (rw [qset_ne _ _ (by omega)]; first | assumption | exact qset_self _ _ _))))))) rfl ?_
  refine v_get B i_P_next_29 (by first | assumption | exact qset_self _ _ _ | (rw [qset_ne _ _ (by omega)]; first | assumption | exact qset_self _ _ _ | (rw [qset_ne _ _ (by omega)]; first | assumption | exact qset_self _ _ _ | (rw [qset_ne _ _ (by omega)]; first | assumption | exact qset_self _ _ _ | (rw [qset_ne _ _ (by omega)]; first | assumption | exact qset_self _ _ _ | (rw [qset_ne _ _ (by omega)]; first | assumption | exact qset_self _ _ _ | (rw [qset_ne _ _ (by omega)]; first | assumption | exact qset_self _ _ _))))))) rfl ?_
  refine v_if_ne (tgt := 45) i_P_next_32 rfl (fun h32 => ?_) (fun h32 => ?_)
  · have hpos : 0 < (cgat pg made ro j k 2147483647 1).length := by
      rcases Nat.eq_zero_or_pos (cgat pg made ro j k 2147483647 1).length with q | q
      · rw [q] at h32; exact absurd rfl h32
      · exact q
    refine v_aload_n i_P_next_45 rfl ?_
    refine v_get B i_P_next_46 (by first | assumption | exact qset_self _ _ _ | (rw [qset_ne _ _ (by omega)]; first | assumption | exact qset_self _ _ _ | (rw [qset_ne _ _ (by omega)]; first | assumption | exact qset_self _ _ _ | (rw [qset_ne _ _ (by omega)]; first | assumption | exact qset_self _ _ _ | (rw [qset_ne _ _ (by omega)]; first | assumption | exact qset_self _ _ _ | (rw [qset_ne _ _ (by omega)]; first | assumption | exact qset_self _ _ _ | (rw [qset_ne _ _ (by omega)]; first | assumption | exact qset_self _ _ _))))))) rfl ?_
    refine v_iconst (v := 0) i_P_next_49 rfl ?_
    refine v_inv B i_P_next_50 kn_m_R_keyAt (c_R_keyAt B hF2 0) f0 rfl rfl (Nat.le_of_ble_eq_true rfl) ⟨by decide, by decide, by first | decide | (simp; omega), by first | decide | (simp; omega)⟩ rfl (fun r X' hq => ?_) (fun _ _ h => False.elim h)
    obtain ⟨rfl, rfl⟩ := hq
    rw [show (0 : Int32) = nI 0 from rfl, rkeyAt_nI hpos (by omega)]
    refine v_l2i i_P_next_53 ?_
    rw [i64_i32]
    exact v_iret i_P_next_54 rfl (by decide) (by decide) ⟨hdn, ⟨j, hj, rfl, hpos, rfl⟩, h2.st, hc2⟩
  · have hz : (cgat pg made ro j k 2147483647 1).length = 0 := (nI_eq (b := 0) (by omega) (by omega)).mp h32
    refine v_throwX (text := "the version has no such key nor one above it") B th_N rfl (List.mem_of_getElem? (i := 566) (by decide +kernel)) rfl i_P_next_35 i_P_next_38 i_P_next_39 i_P_next_41 i_P_next_44 (by decide) (by decide) (by first | decide | (simp; omega)) (by first | decide | (simp; omega)) (fun N hN => ⟨Or.inr (Or.inr ⟨hdn, ⟨j, hj, rfl, hz⟩, rfl⟩), (h2.st.thr hN).1, hc2.trans (h2.st.thr hN).2⟩)
theorem c_P_alive (B : qB l s0 C) (h : PtS X x E pg made lat ro db D) (p : Int32) (v : Int32) : qMet l s0 C m_P_alive rmP [.ref x, .int p, .int v] X (fun r X' => D.2.2.2.2 = false ∧ (∃ i j, i < made ∧ j ≤ lat ∧ p = nI i ∧ v = nI j ∧ r = some (.int (if gserves (pg i) j = true then nI (gliving (pg i).2.2.2 j (pg i).2.2.2.length) else -1))) ∧ qSt X X' x E pg made lat ro db D) (fun e X' => (D.2.2.2.2 = true ∧ e = xS ∨ D.2.2.2.2 = false ∧ (¬ (0 ≤ p ∧ p < nI made) ∨ ¬ (0 ≤ v ∧ v ≤ nI lat)) ∧ e = xI) ∧ qSt X X' x E pg made lat ro db D) := by
  have hS := h
  obtain ⟨cnt, pa, pn, fe, g1, g2, co, li, F, O, h⟩ := h
  obtain ⟨h0, h1, hd, hF, hO, he1, he2, he3⟩ := id h
  obtain ⟨t0, -, -, -, -, -, hPG, ⟨m1, m2, m3, m4, m5⟩, hro, -⟩ := id h1
  refine q_of (by decide +kernel) (Nat.le_of_ble_eq_true rfl) ?_
  refine v_L (L' := [(0, .ref x), (1, .int p), (2, .int v)]) rfl ?_
  refine v_aload_n i_P_alive_0 rfl ?_
  refine v_inv B i_P_alive_1 kn_m_P_demandUp (c_P_demandUp B h) h0 rfl rfl (Nat.le_of_ble_eq_true rfl) ⟨by decide, by decide, by first | decide | (simp; omega), by first | decide | (simp; omega)⟩ rfl (fun r X' hq => ?_) (fun e X' hx => by obtain ⟨a, b, N, c, rfl⟩ := hx; exact ⟨Or.inl ⟨a, b⟩, hS.thr c⟩)
  obtain ⟨hdn, rfl, rfl⟩ := hq
  refine v_aload_n i_P_alive_4 rfl ?_
  refine v_iload_n i_P_alive_5 rfl ?_
  refine v_inv B i_P_alive_6 kn_m_P_demandPage (c_P_demandPage B h p) h0 rfl rfl (Nat.le_of_ble_eq_true rfl) ⟨by decide, by decide, by first | decide | (simp; omega), by first | decide | (simp; omega)⟩ rfl (fun r X' hq => ?_) (fun e X' hx => by obtain ⟨a, b, N, c, rfl⟩ := hx; exact ⟨Or.inr ⟨hdn, Or.inl a, b⟩, hS.thr c⟩)
  obtain ⟨⟨i, hi, rfl⟩, rfl, rfl⟩ := hq
  refine v_aload_n i_P_alive_9 rfl ?_
  refine v_iload_n i_P_alive_10 rfl ?_
  refine v_inv B i_P_alive_11 kn_m_P_demandVersion (c_P_demandVersion B h v) h0 rfl rfl (Nat.le_of_ble_eq_true rfl) ⟨by decide, by decide, by first | decide | (simp; omega), by first | decide | (simp; omega)⟩ rfl (fun r X' hq => ?_) (fun e X' hx => by obtain ⟨a, b, N, c, rfl⟩ := hx; exact ⟨Or.inr ⟨hdn, Or.inr a, b⟩, hS.thr c⟩)
  obtain ⟨⟨j, hj, rfl⟩, rfl, rfl⟩ := hq
  refine v_aload_n i_P_alive_14 rfl ?_
  refine v_get B i_P_alive_15 (by first | assumption | exact qset_self _ _ _ | (rw [qset_ne _ _ (by omega)]; first | assumption | exact qset_self _ _ _ | (rw [qset_ne _ _ (by omega)]; first | assumption | exact qset_self _ _ _ | (rw [qset_ne _ _ (by omega)]; first | assumption | exact qset_self _ _ _ | (rw [qset_ne _ _ (by omega)]; first | assumption | exact qset_self _ _ _ | (rw [qset_ne _ _ (by omega)]; first | assumption | exact qset_self _ _ _ | (rw [qset_ne _ _ (by omega)]; first | assumption | exact qset_self _ _ _))))))) rfl ?_
  refine v_iload_n i_P_alive_18 rfl ?_
  refine v_i2l i_P_alive_19 ?_
  refine v_inv B i_P_alive_20 kn_m_T_pageAt (c_T_pageAt B h1 (nI i).toInt64) t0 rfl rfl (Nat.le_of_ble_eq_true rfl) ⟨by decide, by decide, by first | decide | (simp; omega), by first | decide | (simp; omega)⟩ rfl (fun r X' hq => ?_) (fun _ _ h => False.elim h)
  obtain ⟨rfl, rfl⟩ := hq
  rw [tpn_nI hi (by omega)]
  have hP := hPG i (by omega)
  refine v_astore_n i_P_alive_23 (by decide) rfl ?_
  refine v_aload_n i_P_alive_24 rfl ?_
  refine v_iload_n i_P_alive_25 rfl ?_
  refine v_inv B i_P_alive_26 kn_m_G_serves (c_G_serves B hP j (by omega)) hP.1 rfl rfl (Nat.le_of_ble_eq_true rfl) ⟨by decide, by decide, by first | decide | (simp; omega), by first | decide | (simp; omega)⟩ rfl (fun r X' hq => ?_) (fun _ _ h => False.elim h)
  obtain ⟨rfl, rfl⟩ := hq
  refine v_if_eq (tgt := 40) i_P_alive_29 rfl (fun h29 => ?_) (fun h29 => ?_)
  · refine v_iconst (v := (-1)) i_P_alive_40 rfl ?_
    refine v_iret i_P_alive_41 rfl (by decide) (by decide) ⟨hdn, ⟨i, j, hi, hj, rfl, rfl, ?_⟩, hS, qCl.rf _ _ _⟩
    rw [if_neg (by rw [bI_0.mp h29]; decide)]
  · refine v_aload_n i_P_alive_32 rfl ?_
    refine v_iload_n i_P_alive_33 rfl ?_
    refine v_inv B i_P_alive_34 kn_m_G_living (c_G_living B hP j (by omega)) hP.1 rfl rfl (Nat.le_of_ble_eq_true rfl) ⟨by decide, by decide, by first | decide | (simp; omega), by first | decide | (simp; omega)⟩ rfl (fun r X' hq => ?_) (fun _ _ h => False.elim h)
    obtain ⟨rfl, rfl⟩ := hq
    refine v_goto (tgt := 41) i_P_alive_37 rfl ?_
    refine v_iret i_P_alive_41 rfl (by decide) (by decide) ⟨hdn, ⟨i, j, hi, hj, rfl, rfl, ?_⟩, hS, qCl.rf _ _ _⟩
    rw [if_pos (bI_ne h29)]
theorem c_P_dense (B : qB l s0 C) (h : PtS X x E pg made lat ro db D) (hdb : db ≤ lat + 1) : qMet l s0 C m_P_dense rmP [.ref x] X (fun r X' => D.2.2.2.2 = false ∧ r = some (.int (bI (decide (lat < tdb pg ro made lat (lat + 1) db)))) ∧ qSt X X' x E pg made lat ro (tdb pg ro made lat (lat + 1) db) D) (fun e X' => D.2.2.2.2 = true ∧ e = xS ∧ qSt X X' x E pg made lat ro db D) := by
  have hS := h
  obtain ⟨cnt, pa, pn, fe, g1, g2, co, li, F, O, h⟩ := h
  obtain ⟨h0, h1, hd, hF, hO, he1, he2, he3⟩ := id h
  obtain ⟨t0, -, -, -, -, -, hPG, ⟨m1, m2, m3, m4, m5⟩, hro, -⟩ := id h1
  refine q_of (by decide +kernel) (Nat.le_of_ble_eq_true rfl) ?_
  refine v_L (L' := [(0, .ref x)]) rfl ?_
  refine v_aload_n i_P_dense_0 rfl ?_
  refine v_inv B i_P_dense_1 kn_m_P_demandUp (c_P_demandUp B h) h0 rfl rfl (Nat.le_of_ble_eq_true rfl) ⟨by decide, by decide, by first | decide | (simp; omega), by first | decide | (simp; omega)⟩ rfl (fun r X' hq => ?_) (fun e X' hx => by obtain ⟨a, b, N, c, rfl⟩ := hx; exact ⟨a, b, hS.thr c⟩)
  obtain ⟨hdn, rfl, rfl⟩ := hq
  refine v_aload_n i_P_dense_4 rfl ?_
  refine v_get B i_P_dense_5 (by first | assumption | exact qset_self _ _ _ | (rw [qset_ne _ _ (by omega)]; first | assumption | exact qset_self _ _ _ | (rw [qset_ne _ _ (by omega)]; first | assumption | exact qset_self _ _ _ | (rw [qset_ne _ _ (by omega)]; first | assumption | exact qset_self _ _ _ | (rw [qset_ne _ _ (by omega)]; first | assumption | exact qset_self _ _ _ | (rw [qset_ne _ _ (by omega)]; first | assumption | exact qset_self _ _ _ | (rw [qset_ne _ _ (by omega)]; first | assumption | exact qset_self _ _ _))))))) rfl ?_
  refine v_inv B i_P_dense_8 kn_m_T_isDense (c_T_isDense B h1 hdb) t0 rfl rfl (Nat.le_of_ble_eq_true rfl) ⟨by decide, by decide, by first | decide | (simp; omega), by first | decide | (simp; omega)⟩ rfl (fun r X' hq => ?_) (fun _ _ h => False.elim h)
  obtain ⟨rfl, ht2, hs2⟩ := hq
  obtain ⟨h2, hc2⟩ := h.tree ht2 (qFr.own hs2 (by omega) (by omega)) (qGr.rf X cnt pa)
  exact v_zret i_P_dense_11 rfl (bI_01 _) (by decide) (by decide) ⟨hdn, rfl, h2.st, hc2⟩
end PC
