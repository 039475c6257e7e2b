/-! put, remove, sync, checkpoint, start, differs -/
/-- what an update comes to, whatever path was walked before -/
def cupd (pg : Nat → Pg) (made lat : Nat) (ro : Nat → Nat) (k : Int32) (w : Int64) (b : Bool) (U : TU) : Prop := tref pg made lat ro = false → ∀ pn : Nat → Option Nat, tupOK (tdes pg made ro pn lat k).2.2 lat (lat + 1) k 16 0 (tup0 pg made lat ro pn k w b) ∧ (tupd pg made lat ro pn k w b).1 = U.1 ∧ (tupd pg made lat ro pn k w b).2.1 = U.2.1 ∧ (tupd pg made lat ro pn k w b).2.2.1 = U.2.2.1
theorem tref_lat {pg : Nat → Pg} {made lat : Nat} {ro : Nat → Nat} (h : tref pg made lat ro = false) : lat < 800 := by
  unfold tref at h
  rw [Bool.or_eq_false_iff, decide_eq_false_iff_not, decide_eq_false_iff_not] at h
  omega
section PE
variable {X X' : qX} {x E cnt cnt' : Nat} {pa pa' : Nat → Nat} {pg pg' : Nat → Pg} {made made' lat lat' : Nat} {ro ro' : Nat → Nat} {db db' : Nat} {D D' : Dk}
variable {l : Launch} {s0 : State} {C : qC}
theorem c_P_put (B : qB l s0 C) (h : PtS X x E pg made lat ro db D) (k : Int32) (w : Int64) (U : TU) (hU : cupd pg made lat ro k w true U) : qMet l s0 C m_P_put rmP [.ref x, .int k, .long w] X (fun r X' => D.2.2.2.2 = false ∧ tref pg made lat ro = false ∧ r = some (.int (nI (lat + 1))) ∧ qSt X X' x E U.1 U.2.1 (lat + 1) U.2.2.1 db D) (fun e X' => (D.2.2.2.2 = true ∧ e = xS ∨ D.2.2.2.2 = false ∧ tref pg made lat ro = true ∧ e = xU) ∧ qSt X X' x E pg made lat ro db D) := by
  have hS := h
  obtain ⟨cnt, pa, pn, fe, g1, g2, co, li, F, O, h⟩ := h
  obtain ⟨h0, h1, hd, hF, hO, he1, he2, he3⟩ := id h
  obtain ⟨t0, -, -, -, -, -, hPG, ⟨m1, m2, m3, m4, m5⟩, hro, -⟩ := id h1
  refine q_of (by decide +kernel) (Nat.le_of_ble_eq_true rfl) ?_
  refine v_L (L' := [(0, .ref x), (1, .int k), (2, .long w)]) rfl ?_
  refine v_aload_n i_P_put_0 rfl ?_
  refine v_inv B i_P_put_1 kn_m_P_demandUp (c_P_demandUp B h) h0 rfl rfl (Nat.le_of_ble_eq_true rfl) ⟨by decide, by decide, by first | decide | (simp; omega), by first | decide | (simp; omega)⟩ rfl (fun r X' hq => ?_) (fun e X' hx => by obtain ⟨a, b, N, c, rfl⟩ := hx; exact ⟨Or.inl ⟨a, b⟩, hS.thr c⟩)
  obtain ⟨hdn, rfl, rfl⟩ := hq
  refine v_aload_n i_P_put_4 rfl ?_
  refine v_get B i_P_put_5 (by first | assumption | exact qset_self _ _ _ | (rw [qset_ne _ _ (by omega)]; first | assumption | exact qset_self _ _ _ | (rw [qset_ne _ _ (by omega)]; first | assumption | exact qset_self _ _ _ | (rw [qset_ne _ _ (by omega)]; first | assumption | exact qset_self _ _ _ | (rw [qset_ne _ _ (by omega)]; first | assumption | exact qset_self _ _ _ | (rw [qset_ne _ _ (by omega)]; first | assumption | exact qset_self _ _ _ | (rw [qset_ne _ _ (by omega)]; first | assumption | exact qset_self _ _ _))))))) rfl ?_
  refine v_iload_n i_P_put_8 rfl ?_
  refine v_lload_n i_P_put_9 rfl ?_
  refine v_iconst (v := 1) i_P_put_10 rfl ?_
  refine v_inv B i_P_put_11 kn_m_T_update (c_T_update B h1 (by omega) k w true (fun hr => ((hU hr _).1))) t0 rfl rfl (Nat.le_of_ble_eq_true rfl) ⟨by decide, by decide, by first | decide | (simp; omega), by first | decide | (simp; omega)⟩ rfl (fun r X' hq => ?_) (fun _ _ h => False.elim h)
  rcases hq with ⟨hr, rfl, rfl⟩ | ⟨hr, rfl, cnt3, pa3, li3, ht3, hf3, hg3⟩
  · refine v_invS B i_P_put_14 kn_m_P_unlessRefused (c_P_unlessRefused B (-1)) rfl rfl (Nat.le_of_ble_eq_true rfl) ⟨by decide, by decide, by first | decide | (simp; omega), by first | decide | (simp; omega)⟩ rfl (fun r X9 hq => absurd rfl hq.1) (fun e X' hx => ?_)
    obtain ⟨a, b, N, c, rfl⟩ := hx
    exact ⟨Or.inr ⟨hdn, hr, b⟩, hS.thr c⟩
  · have hlt := tref_lat hr
    obtain ⟨-, u1, u2, u3⟩ := hU hr _
    dsimp only [TrU] at ht3
    rw [show (tupd pg made lat ro _ k w true).1 = U.1 from u1, show (tupd pg made lat ro _ k w true).2.1 = U.2.1 from u2, show (tupd pg made lat ro _ k w true).2.2.1 = U.2.2.1 from u3] at ht3
    obtain ⟨h9, hc9⟩ := h.tree ht3 hf3 hg3
    refine v_invS B i_P_put_14 kn_m_P_unlessRefused (c_P_unlessRefused B (nI (lat + 1))) rfl rfl (Nat.le_of_ble_eq_true rfl) ⟨by decide, by decide, by first | decide | (simp; omega), by first | decide | (simp; omega)⟩ rfl (fun r X9 hq => ?_) (fun e X' hx => ?_)
    · obtain ⟨-, rfl, rfl⟩ := hq
      exact v_iret i_P_put_17 rfl (by decide) (by decide) ⟨hdn, hr, rfl, h9.st, hc9⟩
    · have h5 := (nI_toInt (n := lat + 1) (by omega)).symm.trans (congrArg Int32.toInt hx.1)
      rw [show (-1 : Int32).toInt = -1 from rfl] at h5
      omega
theorem c_P_remove (B : qB l s0 C) (h : PtS X x E pg made lat ro db D) (k : Int32) (hfit : cfit pg made ro lat k k 2147483647) (U : TU) (hU : cupd pg made lat ro k 0 false U) : qMet l s0 C m_P_remove rmP [.ref x, .int k] X (fun r X' => D.2.2.2.2 = false ∧ 0 < (cgat pg made ro lat k k 2147483647).length ∧ tref pg made lat ro = false ∧ r = some (.int (nI (lat + 1))) ∧ qSt X X' x E U.1 U.2.1 (lat + 1) U.2.2.1 db D) (fun e X' => (D.2.2.2.2 = true ∧ e = xS ∨ D.2.2.2.2 = false ∧ (cgat pg made ro lat k k 2147483647).length = 0 ∧ e = xN ∨ D.2.2.2.2 = false ∧ 0 < (cgat pg made ro lat k k 2147483647).length ∧ tref pg made lat ro = true ∧ e = xU) ∧ qSt X X' x E pg made lat ro db D) := by
  have hS := h
  obtain ⟨cnt, pa, pn, fe, g1, g2, co, li, F, O, h⟩ := h
  obtain ⟨h0, h1, hd, hF, hO, he1, he2, he3⟩ := id h
  obtain ⟨t0, -, -, -, -, -, hPG, ⟨m1, m2, m3, m4, m5⟩, hro, -⟩ := id h1
  refine q_of (by decide +kernel) (Nat.le_of_ble_eq_true rfl) ?_
  refine v_L (L' := [(0, .ref x), (1, .int k)]) rfl ?_
  refine v_aload_n i_P_remove_0 rfl ?_
  refine v_inv B i_P_remove_1 kn_m_P_demandUp (c_P_demandUp B h) h0 rfl rfl (Nat.le_of_ble_eq_true rfl) ⟨by decide, by decide, by first | decide | (simp; omega), by first | decide | (simp; omega)⟩ rfl (fun r X' hq => ?_) (fun e X' hx => by obtain ⟨a, b, N, c, rfl⟩ := hx; exact ⟨Or.inl ⟨a, b⟩, hS.thr c⟩)
  obtain ⟨hdn, rfl, rfl⟩ := hq
  refine v_aload_n i_P_remove_4 rfl ?_
  refine v_get B i_P_remove_5 (by first | assumption | exact qset_self _ _ _ | (rw [qset_ne _ _ (by omega)]; first | assumption | exact qset_self _ _ _ | (rw [qset_ne _ _ (by omega)]; first | assumption | exact qset_self _ _ _ | (rw [qset_ne _ _ (by omega)]; first | assumption | exact qset_self _ _ _ | (rw [qset_ne _ _ (by omega)]; first | assumption | exact qset_self _ _ _ | (rw [qset_ne _ _ (by omega)]; first | assumption | exact qset_self _ _ _ | (rw [qset_ne _ _ (by omega)]; first | assumption | exact qset_self _ _ _))))))) rfl ?_
  refine v_aload_n i_P_remove_8 rfl ?_
  refine v_get B i_P_remove_9 (by first | assumption | exact qset_self _ _ _ | (rw [qset_ne _ _ (by omega)]; first | assumption | exact qset_self _ _ _ | (rw [qset_ne _ _ (by omega)]; first | assumption | exact qset_self _ _ _ | (rw [qset_ne _ _ (by omega)]; first | assumption | exact qset_self _ _ _ | (rw [qset_ne _ _ (by omega)]; first | assumption | exact qset_self _ _ _ | (rw [qset_ne _ _ (by omega)]; first | assumption | exact qset_self _ _ _ | (rw [qset_ne _ _ (by omega)]; first | assumption | exact qset_self _ _ _))))))) rfl ?_
  refine v_get B i_P_remove_12 (by first | assumption | exact qset_self _ _ _ | (rw [qset_ne _ _ (by omega)]; first | assumption | exact qset_self _ _ _ | (rw [qset_ne _ _ (by omega)]; first | assumption | exact qset_self _ _ _ | (rw [qset_ne _ _ (by omega)]; first | assumption | exact qset_self _ _ _ | (rw [qset_ne _ _ (by omega)]; first | assumption | exact qset_self _ _ _ | (rw [qset_ne _ _ (by omega)]; first | assumption | exact qset_self _ _ _ | (rw [qset_ne _ _ (by omega)]; first | assumption | exact qset_self _ _ _))))))) rfl ?_
  refine v_iload_n i_P_remove_15 rfl ?_
  refine v_iload_n i_P_remove_16 rfl ?_
  refine v_aload_n i_P_remove_17 rfl ?_
  refine v_get B i_P_remove_18 (by first | assumption | exact qset_self _ _ _ | (rw [qset_ne _ _ (by omega)]; first | assumption | exact qset_self _ _ _ | (rw [qset_ne _ _ (by omega)]; first | assumption | exact qset_self _ _ _ | (rw [qset_ne _ _ (by omega)]; first | assumption | exact qset_self _ _ _ | (rw [qset_ne _ _ (by omega)]; first | assumption | exact qset_self _ _ _ | (rw [qset_ne _ _ (by omega)]; first | assumption | exact qset_self _ _ _ | (rw [qset_ne _ _ (by omega)]; first | assumption | exact qset_self _ _ _))))))) rfl ?_
  refine v_inv B i_P_remove_21 kn_m_T_gather (c_T_gather B h1 lat (by omega) k k hF (by omega) (by omega) (tfit_pn _ _ _ _ _ _ _ _ _ _ _ _ _ hfit)) t0 rfl rfl (Nat.le_of_ble_eq_true rfl) ⟨by decide, by decide, by first | decide | (simp; omega), by first | decide | (simp; omega)⟩ rfl (fun r X' hq => ?_) (fun _ _ h => False.elim h)
  obtain ⟨rfl, ht2, hF2, hz2, hs2⟩ := hq
  rw [show (tgat pg made ro lat k k 2147483647 256 k.toInt64 [] pn fe).1 = cgat pg made ro lat k k 2147483647 from tgat_pn _ _ _ _ _ _ _ _ _ _ _ _ _ _] at hF2
  obtain ⟨h2, hc2⟩ := h.rows (Or.inl rfl) ht2 hz2 hs2 hF2 (hO.cells (fun q a b => hz2 q (by omega)))
  obtain ⟨k0, k1, -, -, -, -, ke2, -⟩ := id h2
  obtain ⟨k2, -⟩ := id k1
  obtain ⟨f0, f1, -⟩ := id hF2
  refine v_aload_n i_P_remove_24 rfl ?_
  refine v_get B i_P_remove_25 (by first | assumption | exact qset_self _ _ _ | (rw [qset_ne _ _ (by omega)]; first | assumption | exact qset_self _ _ _ | (rw [qset_ne _ _ (by omega)]; first | assumption | exact qset_self _ _ _ | (rw [qset_ne _ _ (by omega)]; first | assumption | exact qset_self _ _ _ | (rw [qset_ne _ _ (by omega)]; first | assumption | exact qset_self _ _ _ | (rw [qset_ne _ _ (by omega)]; first | assumption | exact qset_self _ _ _ | (rw [qset_ne _ _ (by omega)]; first | assumption | exact qset_self _ _ _))))))) rfl ?_
  refine v_get B i_P_remove_28 (by first | assumption | exact qset_self _ _ _ | (rw [qset_ne _ _ (by omega)]; first | assumption | exact qset_self _ _ _ | (rw [qset_ne _ _ (by omega)]; first | assumption | exact qset_self _ _ _ | (rw [qset_ne _ _ (by omega)]; first | assumption | exact qset_self _ _ _ | (rw [qset_ne _ _ (by omega)]; first | assumption | exact qset_self _ _ _ | (rw [qset_ne _ _ (by omega)]; first | assumption | exact qset_self _ _ _ | (rw [qset_ne _ _ (by omega)]; first | assumption | exact qset_self _ _ _))))))) rfl ?_
  refine v_if_ne (tgt := 44) i_P_remove_31 rfl (fun h31 => ?_) (fun h31 => ?_)
  rotate_left
  · have hz : (cgat pg made ro lat k k 2147483647).length = 0 := (nI_eq (b := 0) (by omega) (by omega)).mp h31
    refine v_throwX (text := "the latest version has no such key") B th_N rfl (List.mem_of_getElem? (i := 506) (by decide +kernel)) rfl i_P_remove_34 i_P_remove_37 i_P_remove_38 i_P_remove_40 i_P_remove_43 (by decide) (by decide) (by first | decide | (simp; omega)) (by first | decide | (simp; omega)) (fun N hN => ⟨Or.inr (Or.inl ⟨hdn, hz, rfl⟩), (h2.st.thr hN).1, hc2.trans (h2.st.thr hN).2⟩)
  have hpos : 0 < (cgat pg made ro lat k k 2147483647).length := by
    rcases Nat.eq_zero_or_pos (cgat pg made ro lat k k 2147483647).length with q | q
    · rw [q] at h31; exact absurd rfl h31
    · exact q
  refine v_aload_n i_P_remove_44 rfl ?_
  refine v_get B i_P_remove_45 (by first | assumption | exact qset_self _ _ _ | (rw [qset_ne _ _ (by omega)]; first | assumption | exact qset_self _ _ _ | (rw [qset_ne _ _ (by omega)]; first | assumption | exact qset_self _ _ _ | (rw [qset_ne _ _ (by omega)]; first | assumption | exact qset_self _ _ _ | (rw [qset_ne _ _ (by omega)]; first | assumption | exact qset_self _ _ _ | (rw [qset_ne _ _ (by omega)]; first | assumption | exact qset_self _ _ _ | (rw [qset_ne _ _ (by omega)]; first | assumption | exact qset_self _ _ _))))))) rfl ?_
  refine v_iload_n i_P_remove_48 rfl ?_
  refine v_lconst (v := 0) i_P_remove_49 rfl ?_
  refine v_iconst (v := 0) i_P_remove_50 rfl ?_
  refine v_inv B i_P_remove_51 kn_m_T_update (c_T_update B k1 (by omega) k 0 false (fun hr => ((hU hr _).1))) k2 rfl rfl (Nat.le_of_ble_eq_true rfl) ⟨by decide, by decide, by first | decide | (simp; omega), by first | decide | (simp; omega)⟩ rfl (fun r X' hq => ?_) (fun _ _ h => False.elim h)
  rcases hq with ⟨hr, rfl, rfl⟩ | ⟨hr, rfl, cnt3, pa3, li3, ht3, hf3, hg3⟩
  · refine v_invS B i_P_remove_54 kn_m_P_unlessRefused (c_P_unlessRefused B (-1)) rfl rfl (Nat.le_of_ble_eq_true rfl) ⟨by decide, by decide, by first | decide | (simp; omega), by first | decide | (simp; omega)⟩ rfl (fun r X9 hq => absurd rfl hq.1) (fun e X' hx => ?_)
    obtain ⟨a, b, N, c, rfl⟩ := hx
    exact ⟨Or.inr (Or.inr ⟨hdn, hpos, hr, b⟩), (h2.st.thr c).1, hc2.trans (h2.st.thr c).2⟩
  · have hlt := tref_lat hr
    obtain ⟨-, u1, u2, u3⟩ := hU hr _
    dsimp only [TrU] at ht3
    rw [show (tupd pg made lat ro _ k 0 false).1 = U.1 from u1, show (tupd pg made lat ro _ k 0 false).2.1 = U.2.1 from u2, show (tupd pg made lat ro _ k 0 false).2.2.1 = U.2.2.1 from u3] at ht3
    obtain ⟨h9, hc9⟩ := h2.tree ht3 hf3 hg3
    refine v_invS B i_P_remove_54 kn_m_P_unlessRefused (c_P_unlessRefused B (nI (lat + 1))) rfl rfl (Nat.le_of_ble_eq_true rfl) ⟨by decide, by decide, by first | decide | (simp; omega), by first | decide | (simp; omega)⟩ rfl (fun r X9 hq => ?_) (fun e X' hx => ?_)
    · obtain ⟨-, rfl, rfl⟩ := hq
      exact v_iret i_P_remove_57 rfl (by decide) (by decide) ⟨hdn, hpos, hr, rfl, h9.st, hc2.trans hc9⟩
    · have h5 := (nI_toInt (n := lat + 1) (by omega)).symm.trans (congrArg Int32.toInt hx.1)
      rw [show (-1 : Int32).toInt = -1 from rfl] at h5
      omega
theorem c_P_sync (B : qB l s0 C) (h : PtS X x E pg made lat ro db D) (hw : dlat D ≤ lat) : qMet l s0 C m_P_sync rmP [.ref x] X (fun r X' => D.2.2.2.2 = false ∧ D.1.length + ((lat - dlat D) + 3) / 4 ≤ 40 ∧ (dws (lat - dlat D) (((lat - dlat D) + 3) / 4) 0 D).2.2.2.2.2 = false ∧ r = some (.int (nI (dws (lat - dlat D) (((lat - dlat D) + 3) / 4) 0 D).1)) ∧ qSt X X' x E pg made lat ro db (dws (lat - dlat D) (((lat - dlat D) + 3) / 4) 0 D).2) (fun e X' => (D.2.2.2.2 = true ∧ e = xS ∧ qSt X X' x E pg made lat ro db D) ∨ (D.2.2.2.2 = false ∧ ¬ D.1.length + ((lat - dlat D) + 3) / 4 ≤ 40 ∧ e = xU ∧ qSt X X' x E pg made lat ro db D) ∨ (D.2.2.2.2 = false ∧ D.1.length + ((lat - dlat D) + 3) / 4 ≤ 40 ∧ (dws (lat - dlat D) (((lat - dlat D) + 3) / 4) 0 D).2.2.2.2.2 = true ∧ e = xS ∧ qSt X X' x E pg made lat ro db (dws (lat - dlat D) (((lat - dlat D) + 3) / 4) 0 D).2)) := by
  have hS := h
  obtain ⟨cnt, pa, pn, fe, g1, g2, co, li, F, O, h⟩ := h
  obtain ⟨h0, h1, hd, hF, hO, he1, he2, he3⟩ := id h
  obtain ⟨t0, -, -, -, -, -, hPG, ⟨m1, m2, m3, m4, m5⟩, hro, -⟩ := id h1
  refine q_of (by decide +kernel) (Nat.le_of_ble_eq_true rfl) ?_
  refine v_L (L' := [(0, .ref x)]) rfl ?_
  refine v_aload_n i_P_sync_0 rfl ?_
  refine v_inv B i_P_sync_1 kn_m_P_demandUp (c_P_demandUp B h) h0 rfl rfl (Nat.le_of_ble_eq_true rfl) ⟨by decide, by decide, by first | decide | (simp; omega), by first | decide | (simp; omega)⟩ rfl (fun r X' hq => ?_) (fun e X' hx => by obtain ⟨a, b, N, c, rfl⟩ := hx; exact Or.inl ⟨a, b, hS.thr c⟩)
  obtain ⟨hdn, rfl, rfl⟩ := hq
  refine v_aload_n i_P_sync_4 rfl ?_
  refine v_inv B i_P_sync_5 kn_m_P_waitingRecords (c_P_waitingRecords B h hw) h0 rfl rfl (Nat.le_of_ble_eq_true rfl) ⟨by decide, by decide, by first | decide | (simp; omega), by first | decide | (simp; omega)⟩ rfl (fun r X' hq => ?_) (fun _ _ h => False.elim h)
  obtain ⟨rfl, rfl⟩ := hq
  refine v_istore_n i_P_sync_8 (by decide) rfl ?_
  refine v_aload_n i_P_sync_9 rfl ?_
  refine v_get B i_P_sync_10 (by first | assumption | exact qset_self _ _ _ | (rw [qset_ne _ _ (by omega)]; first | assumption | exact qset_self _ _ _ | (rw [qset_ne _ _ (by omega)]; first | assumption | exact qset_self _ _ _ | (rw [qset_ne _ _ (by omega)]; first | assumption | exact qset_self _ _ _ | (rw [qset_ne _ _ (by omega)]; first | assumption | exact qset_self _ _ _ | (rw [qset_ne _ _ (by omega)]; first | assumption | exact qset_self _ _ _ | (rw [qset_ne _ _ (by omega)]; first | assumption | exact qset_self _ _ _))))))) rfl ?_
  refine v_iload_n i_P_sync_13 rfl ?_
  refine v_inv B i_P_sync_14 kn_m_D_hasRoomFor (c_D_hasRoomFor B hd (lat - dlat D) (by omega)) hd.1 rfl rfl (Nat.le_of_ble_eq_true rfl) ⟨by decide, by decide, by first | decide | (simp; omega), by first | decide | (simp; omega)⟩ rfl (fun r X' hq => ?_) (fun _ _ h => False.elim h)
  obtain ⟨rfl, rfl⟩ := hq
  refine v_if_ne (tgt := 30) i_P_sync_17 rfl (fun h17 => ?_) (fun h17 => ?_)
  · have hroom := of_decide_eq_true (bI_ne h17)
    refine v_aload_n i_P_sync_30 rfl ?_
    refine v_get B i_P_sync_31 (by first | assumption | exact qset_self _ _ _ | (rw [qset_ne _ _ (by omega)]; first | assumption | exact qset_self _ _ _ | (rw [qset_ne _ _ (by omega)]; first | assumption | exact qset_self _ _ _ | (rw [qset_ne _ _ (by omega)]; first | assumption | exact qset_self _ _ _ | (rw [qset_ne _ _ (by omega)]; first | assumption | exact qset_self _ _ _ | (rw [qset_ne _ _ (by omega)]; first | assumption | exact qset_self _ _ _ | (rw [qset_ne _ _ (by omega)]; first | assumption | exact qset_self _ _ _))))))) rfl ?_
    refine v_iload_n i_P_sync_34 rfl ?_
    refine v_inv B i_P_sync_35 kn_m_D_writeRecords (c_D_writeRecords B hd (lat - dlat D) (by omega) hroom) hd.1 rfl rfl (Nat.le_of_ble_eq_true rfl) ⟨by decide, by decide, by first | decide | (simp; omega), by first | decide | (simp; omega)⟩ rfl (fun r X' hq => ?_) (fun _ _ h => False.elim h)
    obtain ⟨rfl, hd2, hs2⟩ := hq
    have h2 := h.disk hd2 hs2
    have hc2 : qCl X X' x E := qCl.same hs2 (by omega) (by omega)
    refine v_istore_n i_P_sync_38 (by decide) rfl ?_
    refine v_aload_n i_P_sync_39 rfl ?_
    refine v_inv B i_P_sync_40 kn_m_P_demandUp (c_P_demandUp B h2) h2.1 rfl rfl (Nat.le_of_ble_eq_true rfl) ⟨by decide, by decide, by first | decide | (simp; omega), by first | decide | (simp; omega)⟩ rfl (fun r X9 hq => ?_) (fun e X9 hx => ?_)
    · obtain ⟨hdn2, rfl, rfl⟩ := hq
      refine v_iload_n i_P_sync_43 rfl ?_
      exact v_iret i_P_sync_44 rfl (by decide) (by decide) ⟨hdn, hroom, hdn2, rfl, h2.st, hc2⟩
    · obtain ⟨a, b, N, c, rfl⟩ := hx
      exact Or.inr (Or.inr ⟨hdn, hroom, a, b, (h2.st.thr c).1, hc2.trans (h2.st.thr c).2⟩)
  · have hroom : ¬ D.1.length + (lat - dlat D + 3) / 4 ≤ 40 := fun q => by rw [decide_eq_true q] at h17; exact absurd h17 (by decide)
    refine v_throw (text := "the log has not so many blocks left") B th_U rfl (List.mem_of_getElem? (i := 735) (by decide +kernel)) rfl i_P_sync_20 i_P_sync_23 i_P_sync_24 i_P_sync_26 i_P_sync_29 (by decide) (by decide) (by first | decide | (simp; omega)) (by first | decide | (simp; omega)) (fun N hN => Or.inr (Or.inl ⟨hdn, hroom, rfl, hS.thr hN⟩))
theorem c_P_checkpoint (B : qB l s0 C) (h : PtS X x E pg made lat ro db D) : qMet l s0 C m_P_checkpoint rmP [.ref x] X (fun r X' => D.2.2.2.2 = false ∧ (dck D (tchg pg D.2.2.1 made) lat).2.2.2.2.2 = false ∧ r = some (.int (nI (dck D (tchg pg D.2.2.1 made) lat).1)) ∧ qSt X X' x E pg made lat ro db (dck D (tchg pg D.2.2.1 made) lat).2) (fun e X' => (D.2.2.2.2 = true ∧ e = xS ∧ qSt X X' x E pg made lat ro db D) ∨ (D.2.2.2.2 = false ∧ (dck D (tchg pg D.2.2.1 made) lat).2.2.2.2.2 = true ∧ e = xS ∧ qSt X X' x E pg made lat ro db (dck D (tchg pg D.2.2.1 made) lat).2)) := by
  have hS := h
  obtain ⟨cnt, pa, pn, fe, g1, g2, co, li, F, O, h⟩ := h
  obtain ⟨h0, h1, hd, hF, hO, he1, he2, he3⟩ := id h
  obtain ⟨t0, -, -, -, -, -, hPG, ⟨m1, m2, m3, m4, m5⟩, hro, -⟩ := id h1
  refine q_of (by decide +kernel) (Nat.le_of_ble_eq_true rfl) ?_
  refine v_L (L' := [(0, .ref x)]) rfl ?_
  refine v_aload_n i_P_checkpoint_0 rfl ?_
  refine v_inv B i_P_checkpoint_1 kn_m_P_demandUp (c_P_demandUp B h) h0 rfl rfl (Nat.le_of_ble_eq_true rfl) ⟨by decide, by decide, by first | decide | (simp; omega), by first | decide | (simp; omega)⟩ rfl (fun r X' hq => ?_) (fun e X' hx => by obtain ⟨a, b, N, c, rfl⟩ := hx; exact Or.inl ⟨a, b, hS.thr c⟩)
  obtain ⟨hdn, rfl, rfl⟩ := hq
  obtain ⟨d0, d1, d2, -⟩ := id hd
  have hdirty := tchg_le pg D.2.2.1 made
  refine v_aload_n i_P_checkpoint_4 rfl ?_
  refine v_get B i_P_checkpoint_5 (by first | assumption | exact qset_self _ _ _ | (rw [qset_ne _ _ (by omega)]; first | assumption | exact qset_self _ _ _ | (rw [qset_ne _ _ (by omega)]; first | assumption | exact qset_self _ _ _ | (rw [qset_ne _ _ (by omega)]; first | assumption | exact qset_self _ _ _ | (rw [qset_ne _ _ (by omega)]; first | assumption | exact qset_self _ _ _ | (rw [qset_ne _ _ (by omega)]; first | assumption | exact qset_self _ _ _ | (rw [qset_ne _ _ (by omega)]; first | assumption | exact qset_self _ _ _))))))) rfl ?_
  refine v_aload_n i_P_checkpoint_8 rfl ?_
  refine v_get B i_P_checkpoint_9 (by first | assumption | exact qset_self _ _ _ | (rw [qset_ne _ _ (by omega)]; first | assumption | exact qset_self _ _ _ | (rw [qset_ne _ _ (by omega)]; first | assumption | exact qset_self _ _ _ | (rw [qset_ne _ _ (by omega)]; first | assumption | exact qset_self _ _ _ | (rw [qset_ne _ _ (by omega)]; first | assumption | exact qset_self _ _ _ | (rw [qset_ne _ _ (by omega)]; first | assumption | exact qset_self _ _ _ | (rw [qset_ne _ _ (by omega)]; first | assumption | exact qset_self _ _ _))))))) rfl ?_
  refine v_aload_n i_P_checkpoint_12 rfl ?_
  refine v_get B i_P_checkpoint_13 (by first | assumption | exact qset_self _ _ _ | (rw [qset_ne _ _ (by omega)]; first | assumption | exact qset_self _ _ _ | (rw [qset_ne _ _ (by omega)]; first | assumption | exact qset_self _ _ _ | (rw [qset_ne _ _ (by omega)]; first | assumption | exact qset_self _ _ _ | (rw [qset_ne _ _ (by omega)]; first | assumption | exact qset_self _ _ _ | (rw [qset_ne _ _ (by omega)]; first | assumption | exact qset_self _ _ _ | (rw [qset_ne _ _ (by omega)]; first | assumption | exact qset_self _ _ _))))))) rfl ?_
  refine v_get B i_P_checkpoint_16 (by first | assumption | exact qset_self _ _ _ | (rw [qset_ne _ _ (by omega)]; first | assumption | exact qset_self _ _ _ | (rw [qset_ne _ _ (by omega)]; first | assumption | exact qset_self _ _ _ | (rw [qset_ne _ _ (by omega)]; first | assumption | exact qset_self _ _ _ | (rw [qset_ne _ _ (by omega)]; first | assumption | exact qset_self _ _ _ | (rw [qset_ne _ _ (by omega)]; first | assumption | exact qset_self _ _ _ | (rw [qset_ne _ _ (by omega)]; first | assumption | exact qset_self _ _ _))))))) rfl ?_
  refine v_inv B i_P_checkpoint_19 kn_m_T_changedSince (c_T_changedSince B h1 D.2.2.1 d2) t0 rfl rfl (Nat.le_of_ble_eq_true rfl) ⟨by decide, by decide, by first | decide | (simp; omega), by first | decide | (simp; omega)⟩ rfl (fun r X' hq => ?_) (fun _ _ h => False.elim h)
  obtain ⟨rfl, rfl⟩ := hq
  refine v_aload_n i_P_checkpoint_22 rfl ?_
  refine v_get B i_P_checkpoint_23 (by first | assumption | exact qset_self _ _ _ | (rw [qset_ne _ _ (by omega)]; first | assumption | exact qset_self _ _ _ | (rw [qset_ne _ _ (by omega)]; first | assumption | exact qset_self _ _ _ | (rw [qset_ne _ _ (by omega)]; first | assumption | exact qset_self _ _ _ | (rw [qset_ne _ _ (by omega)]; first | assumption | exact qset_self _ _ _ | (rw [qset_ne _ _ (by omega)]; first | assumption | exact qset_self _ _ _ | (rw [qset_ne _ _ (by omega)]; first | assumption | exact qset_self _ _ _))))))) rfl ?_
  refine v_get B i_P_checkpoint_26 (by first | assumption | exact qset_self _ _ _ | (rw [qset_ne _ _ (by omega)]; first | assumption | exact qset_self _ _ _ | (rw [qset_ne _ _ (by omega)]; first | assumption | exact qset_self _ _ _ | (rw [qset_ne _ _ (by omega)]; first | assumption | exact qset_self _ _ _ | (rw [qset_ne _ _ (by omega)]; first | assumption | exact qset_self _ _ _ | (rw [qset_ne _ _ (by omega)]; first | assumption | exact qset_self _ _ _ | (rw [qset_ne _ _ (by omega)]; first | assumption | exact qset_self _ _ _))))))) rfl ?_
  refine v_inv B i_P_checkpoint_29 kn_m_D_writePages (c_D_writePages B hd (tchg pg D.2.2.1 made) lat (by omega) (by omega)) hd.1 rfl rfl (Nat.le_of_ble_eq_true rfl) ⟨by decide, by decide, by first | decide | (simp; omega), by first | decide | (simp; omega)⟩ rfl (fun r X' hq => ?_) (fun _ _ h => False.elim h)
  obtain ⟨rfl, hd2, hs2⟩ := hq
  have h2 := h.disk hd2 hs2
  have hc2 : qCl X X' x E := qCl.same hs2 (by omega) (by omega)
  refine v_istore_n i_P_checkpoint_32 (by decide) rfl ?_
  refine v_aload_n i_P_checkpoint_33 rfl ?_
  refine v_inv B i_P_checkpoint_34 kn_m_P_demandUp (c_P_demandUp B h2) h2.1 rfl rfl (Nat.le_of_ble_eq_true rfl) ⟨by decide, by decide, by first | decide | (simp; omega), by first | decide | (simp; omega)⟩ rfl (fun r X9 hq => ?_) (fun e X9 hx => ?_)
  · obtain ⟨hdn2, rfl, rfl⟩ := hq
    refine v_iload_n i_P_checkpoint_37 rfl ?_
    exact v_iret i_P_checkpoint_38 rfl (by decide) (by decide) ⟨hdn, hdn2, rfl, h2.st, hc2⟩
  · obtain ⟨a, b, N, c, rfl⟩ := hx
    exact Or.inr ⟨hdn, a, b, (h2.st.thr c).1, hc2.trans (h2.st.thr c).2⟩
theorem c_P_start (B : qB l s0 C) (h : PtS X x E pg made lat ro db D) (hl : dlat (dup D) ≤ 800) : qMet l s0 C m_P_start rmP [.ref x] X (fun r X' => D.2.2.2.2 = true ∧ r = some (.int (nI (dlat (dup D)))) ∧ qSt X X' x E (tbk pg (dlat (dup D)) (tmd pg (dlat (dup D)) made)) (tmd pg (dlat (dup D)) made) (dlat (dup D)) ro (min db ((dlat (dup D)) + 1)) (dup D)) (fun e X' => D.2.2.2.2 = false ∧ e = xS ∧ qSt X X' x E pg made lat ro db D) := by
  have hS := h
  obtain ⟨cnt, pa, pn, fe, g1, g2, co, li, F, O, h⟩ := h
  obtain ⟨h0, h1, hd, hF, hO, he1, he2, he3⟩ := id h
  obtain ⟨t0, -, -, -, -, -, hPG, ⟨m1, m2, m3, m4, m5⟩, hro, -⟩ := id h1
  refine q_of (by decide +kernel) (Nat.le_of_ble_eq_true rfl) ?_
  refine v_L (L' := [(0, .ref x)]) rfl ?_
  obtain ⟨d0, -⟩ := id hd
  refine v_aload_n i_P_start_0 rfl ?_
  refine v_get B i_P_start_1 (by first | assumption | exact qset_self _ _ _ | (rw [qset_ne _ _ (by omega)]; first | assumption | exact qset_self _ _ _ | (rw [qset_ne _ _ (by omega)]; first | assumption | exact qset_self _ _ _ | (rw [qset_ne _ _ (by omega)]; first | assumption | exact qset_self _ _ _ | (rw [qset_ne _ _ (by omega)]; first | assumption | exact qset_self _ _ _ | (rw [qset_ne _ _ (by omega)]; first | assumption | exact qset_self _ _ _ | (rw [qset_ne _ _ (by omega)]; first | assumption | exact qset_self _ _ _))))))) rfl ?_
  refine v_get B i_P_start_4 (by first | assumption | exact qset_self _ _ _ | (rw [qset_ne _ _ (by omega)]; first | assumption | exact qset_self _ _ _ | (rw [qset_ne _ _ (by omega)]; first | assumption | exact qset_self _ _ _ | (rw [qset_ne _ _ (by omega)]; first | assumption | exact qset_self _ _ _ | (rw [qset_ne _ _ (by omega)]; first | assumption | exact qset_self _ _ _ | (rw [qset_ne _ _ (by omega)]; first | assumption | exact qset_self _ _ _ | (rw [qset_ne _ _ (by omega)]; first | assumption | exact qset_self _ _ _))))))) rfl ?_
  refine v_if_ne (tgt := 20) i_P_start_7 rfl (fun h7 => ?_) (fun h7 => ?_)
  · have hdn := bI_ne h7
    refine v_aload_n i_P_start_20 rfl ?_
    refine v_get B i_P_start_21 (by first | assumption | exact qset_self _ _ _ | (rw [qset_ne _ _ (by omega)]; first | assumption | exact qset_self _ _ _ | (rw [qset_ne _ _ (by omega)]; first | assumption | exact qset_self _ _ _ | (rw [qset_ne _ _ (by omega)]; first | assumption | exact qset_self _ _ _ | (rw [qset_ne _ _ (by omega)]; first | assumption | exact qset_self _ _ _ | (rw [qset_ne _ _ (by omega)]; first | assumption | exact qset_self _ _ _ | (rw [qset_ne _ _ (by omega)]; first | assumption | exact qset_self _ _ _))))))) rfl ?_
    refine v_inv B i_P_start_24 kn_m_D_comeUp (c_D_comeUp B hd) d0 rfl rfl (Nat.le_of_ble_eq_true rfl) ⟨by decide, by decide, by first | decide | (simp; omega), by first | decide | (simp; omega)⟩ rfl (fun r X' hq => ?_) (fun _ _ h => False.elim h)
    obtain ⟨rfl, hd2, hs2⟩ := hq
    have h2 := h.disk hd2 hs2
    have hc2 : qCl X X' x E := qCl.same hs2 (by omega) (by omega)
    generalize X' = X2 at h2 hd2 hc2 ⊢
    obtain ⟨k0, k1, kd, -⟩ := id h2
    obtain ⟨kt0, -⟩ := id k1
    refine v_aload_n i_P_start_27 rfl ?_
    refine v_get B i_P_start_28 (by first | assumption | exact qset_self _ _ _ | (rw [qset_ne _ _ (by omega)]; first | assumption | exact qset_self _ _ _ | (rw [qset_ne _ _ (by omega)]; first | assumption | exact qset_self _ _ _ | (rw [qset_ne _ _ (by omega)]; first | assumption | exact qset_self _ _ _ | (rw [qset_ne _ _ (by omega)]; first | assumption | exact qset_self _ _ _ | (rw [qset_ne _ _ (by omega)]; first | assumption | exact qset_self _ _ _ | (rw [qset_ne _ _ (by omega)]; first | assumption | exact qset_self _ _ _))))))) rfl ?_
    refine v_aload_n i_P_start_31 rfl ?_
    refine v_get B i_P_start_32 (by first | assumption | exact qset_self _ _ _ | (rw [qset_ne _ _ (by omega)]; first | assumption | exact qset_self _ _ _ | (rw [qset_ne _ _ (by omega)]; first | assumption | exact qset_self _ _ _ | (rw [qset_ne _ _ (by omega)]; first | assumption | exact qset_self _ _ _ | (rw [qset_ne _ _ (by omega)]; first | assumption | exact qset_self _ _ _ | (rw [qset_ne _ _ (by omega)]; first | assumption | exact qset_self _ _ _ | (rw [qset_ne _ _ (by omega)]; first | assumption | exact qset_self _ _ _))))))) rfl ?_
    refine v_inv B i_P_start_35 kn_m_D_latestOnDisk (c_D_latestOnDisk B hd2) hd2.1 rfl rfl (Nat.le_of_ble_eq_true rfl) ⟨by decide, by decide, by first | decide | (simp; omega), by first | decide | (simp; omega)⟩ rfl (fun r X' hq => ?_) (fun _ _ h => False.elim h)
    obtain ⟨rfl, rfl⟩ := hq
    refine v_inv B i_P_start_38 kn_m_T_goBackTo (c_T_goBackTo B k1 (dlat (dup D)) hl) kt0 rfl rfl (Nat.le_of_ble_eq_true rfl) ⟨by decide, by decide, by first | decide | (simp; omega), by first | decide | (simp; omega)⟩ rfl (fun r X' hq => ?_) (fun _ _ h => False.elim h)
    obtain ⟨rfl, ht3, hf3⟩ := hq
    obtain ⟨h3, hc3⟩ := h2.tree ht3 hf3 (qGr.rf _ cnt pa)
    obtain ⟨n0, n1, -⟩ := id h3
    obtain ⟨nt0, -⟩ := id n1
    refine v_aload_n i_P_start_41 rfl ?_
    refine v_get B i_P_start_42 (by first | assumption | exact qset_self _ _ _ | (rw [qset_ne _ _ (by omega)]; first | assumption | exact qset_self _ _ _ | (rw [qset_ne _ _ (by omega)]; first | assumption | exact qset_self _ _ _ | (rw [qset_ne _ _ (by omega)]; first | assumption | exact qset_self _ _ _ | (rw [qset_ne _ _ (by omega)]; first | assumption | exact qset_self _ _ _ | (rw [qset_ne _ _ (by omega)]; first | assumption | exact qset_self _ _ _ | (rw [qset_ne _ _ (by omega)]; first | assumption | exact qset_self _ _ _))))))) rfl ?_
    refine v_get B i_P_start_45 (by first | assumption | exact qset_self _ _ _ | (rw [qset_ne _ _ (by omega)]; first | assumption | exact qset_self _ _ _ | (rw [qset_ne _ _ (by omega)]; first | assumption | exact qset_self _ _ _ | (rw [qset_ne _ _ (by omega)]; first | assumption | exact qset_self _ _ _ | (rw [qset_ne _ _ (by omega)]; first | assumption | exact qset_self _ _ _ | (rw [qset_ne _ _ (by omega)]; first | assumption | exact qset_self _ _ _ | (rw [qset_ne _ _ (by omega)]; first | assumption | exact qset_self _ _ _))))))) rfl ?_
    exact v_iret i_P_start_48 rfl (by decide) (by decide) ⟨hdn, rfl, h3.st, hc2.trans hc3⟩
  · refine v_throw (text := "the store is not down") B th_S rfl (List.mem_of_getElem? (i := 795) (by decide +kernel)) rfl i_P_start_10 i_P_start_13 i_P_start_14 i_P_start_16 i_P_start_19 (by decide) (by decide) (by first | decide | (simp; omega)) (by first | decide | (simp; omega)) (fun N hN => ⟨bI_0.mp h7, rfl, hS.thr hN⟩)
theorem c_P_differs (B : qB l s0 C) (h : PtS X x E pg made lat ro db D) (u : Int32) (v : Int32) (k : Int32) (hfit : ∀ j, j ≤ lat → cfit pg made ro j (-2147483648) 2147483647 2147483647) : qMet l s0 C m_P_differs rmP [.ref x, .int u, .int v, .int k] X (fun r X' => D.2.2.2.2 = false ∧ ¬ k < 0 ∧ (∃ i j, i ≤ lat ∧ j ≤ lat ∧ u = nI i ∧ v = nI j ∧ ¬ rdf (cgat pg made ro i (-2147483648) 2147483647 2147483647) (cgat pg made ro j (-2147483648) 2147483647 2147483647) k ((cgat pg made ro i (-2147483648) 2147483647 2147483647).length + (cgat pg made ro j (-2147483648) 2147483647 2147483647).length) 0 0 0 = 9223372036854775807 ∧ r = some (.int (rdf (cgat pg made ro i (-2147483648) 2147483647 2147483647) (cgat pg made ro j (-2147483648) 2147483647 2147483647) k ((cgat pg made ro i (-2147483648) 2147483647 2147483647).length + (cgat pg made ro j (-2147483648) 2147483647 2147483647).length) 0 0 0).toInt32)) ∧ qSt X X' x E pg made lat ro db D) (fun e X' => (D.2.2.2.2 = true ∧ e = xS ∨ D.2.2.2.2 = false ∧ (¬ (0 ≤ u ∧ u ≤ nI lat) ∨ ¬ (0 ≤ v ∧ v ≤ nI lat)) ∧ e = xI ∨ D.2.2.2.2 = false ∧ (0 ≤ u ∧ u ≤ nI lat) ∧ (0 ≤ v ∧ v ≤ nI lat) ∧ k < 0 ∧ e = xA ∨ D.2.2.2.2 = false ∧ ¬ k < 0 ∧ (∃ i j, i ≤ lat ∧ j ≤ lat ∧ u = nI i ∧ v = nI j ∧ rdf (cgat pg made ro i (-2147483648) 2147483647 2147483647) (cgat pg made ro j (-2147483648) 2147483647 2147483647) k ((cgat pg made ro i (-2147483648) 2147483647 2147483647).length + (cgat pg made ro j (-2147483648) 2147483647 2147483647).length) 0 0 0 = 9223372036854775807) ∧ e = xN) ∧ qSt X X' x E pg made lat ro db D) := by
  have hS := h
  obtain ⟨cnt, pa, pn, fe, g1, g2, co, li, F, O, h⟩ := h
  obtain ⟨h0, h1, hd, hF, hO, he1, he2, he3⟩ := id h
  obtain ⟨t0, -, -, -, -, -, hPG, ⟨m1, m2, m3, m4, m5⟩, hro, -⟩ := id h1
  refine q_of (by decide +kernel) (Nat.le_of_ble_eq_true rfl) ?_
  refine v_L (L' := [(0, .ref x), (1, .int u), (2, .int v), (3, .int k)]) rfl ?_
  refine v_aload_n i_P_differs_0 rfl ?_
  refine v_inv B i_P_differs_1 kn_m_P_demandUp (c_P_demandUp B h) h0 rfl rfl (Nat.le_of_ble_eq_true rfl) ⟨by decide, by decide, by first | decide | (simp; omega), by first | decide | (simp; omega)⟩ rfl (fun r X' hq => ?_) (fun e X' hx => by obtain ⟨a, b, N, c, rfl⟩ := hx; exact ⟨Or.inl ⟨a, b⟩, hS.thr c⟩)
  obtain ⟨hdn, rfl, rfl⟩ := hq
  refine v_aload_n i_P_differs_4 rfl ?_
  refine v_iload_n i_P_differs_5 rfl ?_
  refine v_inv B i_P_differs_6 kn_m_P_demandVersion (c_P_demandVersion B h u) h0 rfl rfl (Nat.le_of_ble_eq_true rfl) ⟨by decide, by decide, by first | decide | (simp; omega), by first | decide | (simp; omega)⟩ rfl (fun r X' hq => ?_) (fun e X' hx => by obtain ⟨a, b, N, c, rfl⟩ := hx; exact ⟨Or.inr (Or.inl ⟨hdn, Or.inl a, b⟩), hS.thr c⟩)
  obtain ⟨⟨i, hi, rfl⟩, rfl, rfl⟩ := hq
  refine v_aload_n i_P_differs_9 rfl ?_
  refine v_iload_n i_P_differs_10 rfl ?_
  refine v_inv B i_P_differs_11 kn_m_P_demandVersion (c_P_demandVersion B h v) h0 rfl rfl (Nat.le_of_ble_eq_true rfl) ⟨by decide, by decide, by first | decide | (simp; omega), by first | decide | (simp; omega)⟩ rfl (fun r X' hq => ?_) (fun e X' hx => by obtain ⟨a, b, N, c, rfl⟩ := hx; exact ⟨Or.inr (Or.inl ⟨hdn, Or.inr a, b⟩), hS.thr c⟩)
  obtain ⟨⟨j, hj, rfl⟩, rfl, rfl⟩ := hq
  refine v_iload_n i_P_differs_14 rfl ?_
  refine v_if_ge (tgt := 28) i_P_differs_15 rfl (fun h15 => ?_) (fun h15 => ?_)
  rotate_left
  · have hk : k < 0 := Int32.lt_iff_toInt_lt.mpr (by have h7 : ¬ (0 : Int32).toInt ≤ k.toInt := fun q => h15 (Int32.le_iff_toInt_le.mpr q); omega)
    refine v_throw (text := "k is below 0") B th_A rfl (List.mem_of_getElem? (i := 603) (by decide +kernel)) rfl i_P_differs_18 i_P_differs_21 i_P_differs_22 i_P_differs_24 i_P_differs_27 (by decide) (by decide) (by first | decide | (simp; omega)) (by first | decide | (simp; omega)) (fun N hN => ⟨Or.inr (Or.inr (Or.inl ⟨hdn, ⟨nI_pos' (by omega), nI_le hi (by omega)⟩, ⟨nI_pos' (by omega), nI_le hj (by omega)⟩, hk, rfl⟩)), hS.thr hN⟩)
  have hk : ¬ k < 0 := fun q => by
    have h7 := Int32.le_iff_toInt_le.mp h15
    have h8 := Int32.lt_iff_toInt_lt.mp q
    omega
  refine v_aload_n i_P_differs_28 rfl ?_
  refine v_get B i_P_differs_29 (by first | assumption | exact qset_self _ _ _ | (rw [qset_ne _ _ (by omega)]; first | assumption | exact qset_self _ _ _ | (rw [qset_ne _ _ (by omega)]; first | assumption | exact qset_self _ _ _ | (rw [qset_ne _ _ (by omega)]; first | assumption | exact qset_self _ _ _ | (rw [qset_ne _ _ (by omega)]; first | assumption | exact qset_self _ _ _ | (rw [qset_ne _ _ (by omega)]; first | assumption | exact qset_self _ _ _ | (rw [qset_ne _ _ (by omega)]; first | assumption | exact qset_self _ _ _))))))) rfl ?_
  refine v_iload_n i_P_differs_32 rfl ?_
  refine v_ldc B i_P_differs_33 i_P_differs_33_w ?_
  refine v_ldc B i_P_differs_35 i_P_differs_35_w ?_
  refine v_aload_n i_P_differs_37 rfl ?_
  refine v_get B i_P_differs_38 (by first | assumption | exact qset_self _ _ _ | (rw [qset_ne _ _ (by omega)]; first | assumption | exact qset_self _ _ _ | (rw [qset_ne _ _ (by omega)]; first | assumption | exact qset_self _ _ _ | (rw [qset_ne _ _ (by omega)]; first | assumption | exact qset_self _ _ _ | (rw [qset_ne _ _ (by omega)]; first | assumption | exact qset_self _ _ _ | (rw [qset_ne _ _ (by omega)]; first | assumption | exact qset_self _ _ _ | (rw [qset_ne _ _ (by omega)]; first | assumption | exact qset_self _ _ _))))))) rfl ?_
  refine v_inv B i_P_differs_41 kn_m_T_gather (c_T_gather B h1 i (by omega) (-2147483648) 2147483647 hF (by omega) (by omega) (tfit_pn _ _ _ _ _ _ _ _ _ _ _ _ _ (hfit i hi))) t0 rfl rfl (Nat.le_of_ble_eq_true rfl) ⟨by decide, by decide, by first | decide | (simp; omega), by first | decide | (simp; omega)⟩ rfl (fun r X' hq => ?_) (fun _ _ h => False.elim h)
  obtain ⟨rfl, ht2, hF2, hz2, hs2⟩ := hq
  rw [show (tgat pg made ro i (-2147483648) 2147483647 2147483647 256 (-2147483648 : Int32).toInt64 [] pn fe).1 = cgat pg made ro i (-2147483648) 2147483647 2147483647 from tgat_pn _ _ _ _ _ _ _ _ _ _ _ _ _ _] at hF2
  obtain ⟨h2, hc2⟩ := h.rows (Or.inl rfl) ht2 hz2 hs2 hF2 (hO.cells (fun q a b => hz2 q (by omega)))
  generalize X' = X2 at h2 hc2 ⊢
  obtain ⟨k0, k1, -, kF, kO, -⟩ := id h2
  obtain ⟨kt0, -⟩ := id k1
  refine v_aload_n i_P_differs_44 rfl ?_
  refine v_get B i_P_differs_45 (by first | assumption | exact qset_self _ _ _ | (rw [qset_ne _ _ (by omega)]; first | assumption | exact qset_self _ _ _ | (rw [qset_ne _ _ (by omega)]; first | assumption | exact qset_self _ _ _ | (rw [qset_ne _ _ (by omega)]; first | assumption | exact qset_self _ _ _ | (rw [qset_ne _ _ (by omega)]; first | assumption | exact qset_self _ _ _ | (rw [qset_ne _ _ (by omega)]; first | assumption | exact qset_self _ _ _ | (rw [qset_ne _ _ (by omega)]; first | assumption | exact qset_self _ _ _))))))) rfl ?_
  refine v_iload_n i_P_differs_48 rfl ?_
  refine v_ldc B i_P_differs_49 i_P_differs_49_w ?_
  refine v_ldc B i_P_differs_51 i_P_differs_51_w ?_
  refine v_aload_n i_P_differs_53 rfl ?_
  refine v_get B i_P_differs_54 (by first | assumption | exact qset_self _ _ _ | (rw [qset_ne _ _ (by omega)]; first | assumption | exact qset_self _ _ _ | (rw [qset_ne _ _ (by omega)]; first | assumption | exact qset_self _ _ _ | (rw [qset_ne _ _ (by omega)]; first | assumption | exact qset_self _ _ _ | (rw [qset_ne _ _ (by omega)]; first | assumption | exact qset_self _ _ _ | (rw [qset_ne _ _ (by omega)]; first | assumption | exact qset_self _ _ _ | (rw [qset_ne _ _ (by omega)]; first | assumption | exact qset_self _ _ _))))))) rfl ?_
  refine v_inv B i_P_differs_57 kn_m_T_gather (c_T_gather B k1 j (by omega) (-2147483648) 2147483647 kO (by omega) (by omega) (tfit_pn _ _ _ _ _ _ _ _ _ _ _ _ _ (hfit j hj))) kt0 rfl rfl (Nat.le_of_ble_eq_true rfl) ⟨by decide, by decide, by first | decide | (simp; omega), by first | decide | (simp; omega)⟩ rfl (fun r X' hq => ?_) (fun _ _ h => False.elim h)
  obtain ⟨rfl, ht3, hO3, hz3, hs3⟩ := hq
  rw [show (tgat pg made ro j (-2147483648) 2147483647 2147483647 256 (-2147483648 : Int32).toInt64 [] _ _).1 = cgat pg made ro j (-2147483648) 2147483647 2147483647 from tgat_pn _ _ _ _ _ _ _ _ _ _ _ _ _ _] at hO3
  obtain ⟨h3, hc3⟩ := h2.rows (Or.inr rfl) ht3 hz3 hs3 (kF.cells (fun q a b => hz3 q (by omega))) hO3
  generalize X' = X3 at h3 hc3 ⊢
  obtain ⟨n0, n1, -, nF, nO, -⟩ := id h3
  obtain ⟨f0, -⟩ := id nF
  refine v_aload_n i_P_differs_60 rfl ?_
  refine v_get B i_P_differs_61 (by first | assumption | exact qset_self _ _ _ | (rw [qset_ne _ _ (by omega)]; first | assumption | exact qset_self _ _ _ | (rw [qset_ne _ _ (by omega)]; first | assumption | exact qset_self _ _ _ | (rw [qset_ne _ _ (by omega)]; first | assumption | exact qset_self _ _ _ | (rw [qset_ne _ _ (by omega)]; first | assumption | exact qset_self _ _ _ | (rw [qset_ne _ _ (by omega)]; first | assumption | exact qset_self _ _ _ | (rw [qset_ne _ _ (by omega)]; first | assumption | exact qset_self _ _ _))))))) rfl ?_
  refine v_aload_n i_P_differs_64 rfl ?_
  refine v_get B i_P_differs_65 (by first | assumption | exact qset_self _ _ _ | (rw [qset_ne _ _ (by omega)]; first | assumption | exact qset_self _ _ _ | (rw [qset_ne _ _ (by omega)]; first | assumption | exact qset_self _ _ _ | (rw [qset_ne _ _ (by omega)]; first | assumption | exact qset_self _ _ _ | (rw [qset_ne _ _ (by omega)]; first | assumption | exact qset_self _ _ _ | (rw [qset_ne _ _ (by omega)]; first | assumption | exact qset_self _ _ _ | (rw [qset_ne _ _ (by omega)]; first | assumption | exact qset_self _ _ _))))))) rfl ?_
  refine v_iload_n i_P_differs_68 rfl ?_
  refine v_inv B i_P_differs_69 kn_m_R_differing (c_R_differing B nF nO k) f0 rfl rfl (Nat.le_of_ble_eq_true rfl) ⟨by decide, by decide, by first | decide | (simp; omega), by first | decide | (simp; omega)⟩ rfl (fun r X' hq => ?_) (fun _ _ h => False.elim h)
  obtain ⟨rfl, rfl⟩ := hq
  refine v_lstore i_P_differs_72 (by decide) rfl ?_
  refine v_lload i_P_differs_74 rfl ?_
  refine v_ldc2 B i_P_differs_76 i_P_differs_76_w ?_
  refine v_lcmp i_P_differs_79 ?_
  refine v_if_ne (tgt := 93) i_P_differs_80 rfl (fun h80 => ?_) (fun h80 => ?_)
  rotate_left
  · have hz := lcmp_eq.mp h80
    refine v_throwX (text := "there are not so many") B th_N rfl (List.mem_of_getElem? (i := 621) (by decide +kernel)) rfl i_P_differs_83 i_P_differs_86 i_P_differs_87 i_P_differs_89 i_P_differs_92 (by decide) (by decide) (by first | decide | (simp; omega)) (by first | decide | (simp; omega)) (fun N hN => ⟨Or.inr (Or.inr (Or.inr ⟨hdn, hk, ⟨i, j, hi, hj, rfl, rfl, hz⟩, rfl⟩)), (h3.st.thr hN).1, (hc2.trans hc3).trans (h3.st.thr hN).2⟩)
  refine v_lload i_P_differs_93 rfl ?_
  refine v_l2i i_P_differs_95 ?_
  exact v_iret i_P_differs_96 rfl (by decide) (by decide) ⟨hdn, hk, ⟨i, j, hi, hj, rfl, rfl, fun q => h80 (lcmp_eq.mpr q), rfl⟩, h3.st, hc2.trans hc3⟩
end PE
