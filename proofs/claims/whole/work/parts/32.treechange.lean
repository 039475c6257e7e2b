/-! a page is changed, an update is made -/
/-- below the root: what goes in the parent (page q), the first key, the pages, the list -/
def trbO1 (pg : Nat → Pg) (q : Nat) (k : Int32) (lat : Nat) : Option Nat := gstand (pg q) k lat
def trbO2 (pg : Nat → Pg) (q : Nat) (k : Int32) (lat : Nat) (li : qRw) : Option Nat := if li.length < 5 then gneigh (pg q) (vO (trbO1 pg q k lat)) lat else none
def trbK (pg : Nat → Pg) (q : Nat) (k : Int32) (lat : Nat) (li : qRw) : Int32 := if li.length < 5 then imin (gkeyAt (pg q) (vO (trbO1 pg q k lat))) (gkeyAt (pg q) (vO (trbO2 pg q k lat li))) else gkeyAt (pg q) (vO (trbO1 pg q k lat))
def trbN (pg : Nat → Pg) (made q : Nat) (k : Int32) (lat : Nat) (li : qRw) : Nat := tpn made (gwhatAt (pg q) (vO (trbO2 pg q k lat li)))
def trbP (pg : Nat → Pg) (made q : Nat) (k : Int32) (lat v : Nat) (li : qRw) : Nat → Pg := if li.length < 5 then va_up pg (trbN pg made q k lat li) (gdie (pg (trbN pg made q k lat li)) v) else pg
def trbL (pg : Nat → Pg) (made q : Nat) (k : Int32) (lat : Nat) (li : qRw) : qRw := if li.length < 5 then gcopy (pg (trbN pg made q k lat li)).2.2.2 lat (-2147483648) 2147483647 li (pg (trbN pg made q k lat li)).2.2.2.length else li
section TC
variable {X X' : qX} {t cnt : Nat} {pa : Nat → Nat} {pg : Nat → Pg} {made lat : Nat} {ro : Nat → Nat} {pn : Nat → Option Nat} {fe : Int64} {g1 g2 : Int32} {co li : qRw} {db : Nat}
variable {l : Launch} {s0 : State} {C : qC}
set_option maxHeartbeats 2000000 in
theorem c_T_remakeBelow (B : qB l s0 C) (h : TrAt X t cnt pa pg made lat ro pn fe g1 g2 co li db) (hX : t + 24 ≤ X.2) (hm : made + 2 ≤ 256) (q : Nat) (hq0 : q < cnt) (lev v : Nat) (hlv : lev < 1000) (hv : v < 2 ^ 30) (k : Int32) (hli : li.length ≤ 20) :
    qMet l s0 C m_T_remakeBelow rm_T_remakeBelow [.ref t, .ref (pa q), .int (nI lev), .int (nI v), .int k] X (fun r X' => r = none ∧ ∃ (cnt' : Nat) (pa' : Nat → Nat), TrAt X' t cnt' pa' (tmkP (trbP pg made q k lat v li) made (trbL pg made q k lat li) lev v) (tmkN made (trbL pg made q k lat li)) lat ro pn fe (vO (trbO1 pg q k lat)) (vO (trbO2 pg q k lat li)) (rlow (tmkC made (trbL pg made q k lat li) lev v) (trbK pg q k lat li)) (trbL pg made q k lat li) db ∧ qFr X X' t cnt pa ∧ qGr X cnt cnt' pa pa') (fun _ _ => False) := by
  obtain ⟨h0, -, -, -, hco, hl0, hPG, ⟨m1, m2, m3, m4, m5⟩, -⟩ := id h
  have hP := hPG q hq0
  refine q_of (by decide +kernel) (Nat.le_of_ble_eq_true rfl) ?_
  refine v_L (L' := [(0, .ref t), (1, .ref (pa q)), (2, .int (nI lev)), (3, .int (nI v)), (4, .int k)]) rfl ?_
  refine v_aload_n i_T_remakeBelow_0 rfl ?_
  refine v_aload_n i_T_remakeBelow_1 rfl ?_
  refine v_iload i_T_remakeBelow_2 rfl ?_
  refine v_aload_n i_T_remakeBelow_4 rfl ?_
  refine v_get B i_T_remakeBelow_5 (by first | assumption | exact qset_self _ _ _ | (rw [qset_ne _ _ (by omega)]; first | assumption | exact qset_self _ _ _ | (rw [qset_ne _ _ (by omega)]; first | assumption | exact qset_self _ _ _ | (rw [qset_ne _ _ (by omega)]; first | assumption | exact qset_self _ _ _ | (rw [qset_ne _ _ (by omega)]; first | assumption | exact qset_self _ _ _ | (rw [qset_ne _ _ (by omega)]; first | assumption | exact qset_self _ _ _ | (rw [qset_ne _ _ (by omega)]; first | assumption | exact qset_self _ _ _))))))) rfl ?_
  refine v_inv B i_T_remakeBelow_8 kn_m_G_standingFor (c_G_standingFor B hP k lat (by omega)) hP.1 rfl rfl (Nat.le_of_ble_eq_true rfl) ⟨by decide, by decide, by first | decide | (simp; omega), by first | decide | (simp; omega)⟩ rfl (fun r X' hq => ?_) (fun _ _ h => False.elim h)
  obtain ⟨rfl, rfl⟩ := hq
  rw [show gstand (pg q) k lat = trbO1 pg q k lat from rfl]
  refine v_put B i_T_remakeBelow_11 (by first | assumption | exact qset_self _ _ _ | (rw [qset_ne _ _ (by omega)]; first | assumption | exact qset_self _ _ _ | (rw [qset_ne _ _ (by omega)]; first | assumption | exact qset_self _ _ _ | (rw [qset_ne _ _ (by omega)]; first | assumption | exact qset_self _ _ _ | (rw [qset_ne _ _ (by omega)]; first | assumption | exact qset_self _ _ _ | (rw [qset_ne _ _ (by omega)]; first | assumption | exact qset_self _ _ _ | (rw [qset_ne _ _ (by omega)]; first | assumption | exact qset_self _ _ _))))))) (Nat.le_of_ble_eq_true rfl) rfl rfl ?_
  refine v_aload_n i_T_remakeBelow_14 rfl ?_
  refine v_iconst (v := (-1)) i_T_remakeBelow_15 rfl ?_
  refine v_put B i_T_remakeBelow_16 (by first | assumption | exact qset_self _ _ _ | (rw [qset_ne _ _ (by omega)]; first | assumption | exact qset_self _ _ _ | (rw [qset_ne _ _ (by omega)]; first | assumption | exact qset_self _ _ _ | (rw [qset_ne _ _ (by omega)]; first | assumption | exact qset_self _ _ _ | (rw [qset_ne _ _ (by omega)]; first | assumption | exact qset_self _ _ _ | (rw [qset_ne _ _ (by omega)]; first | assumption | exact qset_self _ _ _ | (rw [qset_ne _ _ (by omega)]; first | assumption | exact qset_self _ _ _))))))) (Nat.le_of_ble_eq_true rfl) rfl rfl ?_
  have h1 : TrAt (qset (qset X t (.inr (3, [Value.ref (t + 1), .ref (t + 6), .ref (t + 7), .int (nI made), .int (nI lat), .ref (t + 8), .long fe, .int g1, .int g2, .ref (t + 9), .ref (t + 12), .int (nI db)].set 7 (.int (vO (trbO1 pg q k lat)))))) t (.inr (3, ([Value.ref (t + 1), .ref (t + 6), .ref (t + 7), .int (nI made), .int (nI lat), .ref (t + 8), .long fe, .int g1, .int g2, .ref (t + 9), .ref (t + 12), .int (nI db)].set 7 (.int (vO (trbO1 pg q k lat)))).set 8 (.int (-1))))) t cnt pa pg made lat ro pn fe (vO (trbO1 pg q k lat)) (vO none) co li db :=
    (h.obj (g1' := vO (trbO1 pg q k lat)) rfl ⟨m1, m2⟩ m4 m5).obj (g2' := vO none) rfl ⟨m1, m2⟩ m4 m5
  have f1 : qFr X (qset (qset X t (.inr (3, [Value.ref (t + 1), .ref (t + 6), .ref (t + 7), .int (nI made), .int (nI lat), .ref (t + 8), .long fe, .int g1, .int g2, .ref (t + 9), .ref (t + 12), .int (nI db)].set 7 (.int (vO (trbO1 pg q k lat)))))) t (.inr (3, ([Value.ref (t + 1), .ref (t + 6), .ref (t + 7), .int (nI made), .int (nI lat), .ref (t + 8), .long fe, .int g1, .int g2, .ref (t + 9), .ref (t + 12), .int (nI db)].set 7 (.int (vO (trbO1 pg q k lat)))).set 8 (.int (-1))))) t cnt pa := qFr.own (((qSame.rf X t (t + 1)).set _ (by omega) (by omega)).set _ (by omega) (by omega)) (by omega) (by omega)
  have z1 : (qset (qset X t (.inr (3, [Value.ref (t + 1), .ref (t + 6), .ref (t + 7), .int (nI made), .int (nI lat), .ref (t + 8), .long fe, .int g1, .int g2, .ref (t + 9), .ref (t + 12), .int (nI db)].set 7 (.int (vO (trbO1 pg q k lat)))))) t (.inr (3, ([Value.ref (t + 1), .ref (t + 6), .ref (t + 7), .int (nI made), .int (nI lat), .ref (t + 8), .long fe, .int g1, .int g2, .ref (t + 9), .ref (t + 12), .int (nI db)].set 7 (.int (vO (trbO1 pg q k lat)))).set 8 (.int (-1))))).2 = X.2 := rfl
  generalize qset (qset X t (.inr (3, [Value.ref (t + 1), .ref (t + 6), .ref (t + 7), .int (nI made), .int (nI lat), .ref (t + 8), .long fe, .int g1, .int g2, .ref (t + 9), .ref (t + 12), .int (nI db)].set 7 (.int (vO (trbO1 pg q k lat)))))) t (.inr (3, ([Value.ref (t + 1), .ref (t + 6), .ref (t + 7), .int (nI made), .int (nI lat), .ref (t + 8), .long fe, .int g1, .int g2, .ref (t + 9), .ref (t + 12), .int (nI db)].set 7 (.int (vO (trbO1 pg q k lat)))).set 8 (.int (-1)))) = X1 at h1 f1 z1 ⊢
  obtain ⟨a0, -, -, -, aco, ali, aPG, -⟩ := id h1
  obtain ⟨al0, alc, -⟩ := id ali
  have aP := aPG q hq0
  refine v_aload_n i_T_remakeBelow_19 rfl ?_
  refine v_aload_n i_T_remakeBelow_20 rfl ?_
  refine v_get B i_T_remakeBelow_21 (by first | assumption | exact qset_self _ _ _ | (rw [qset_ne _ _ (by omega)]; first | assumption | exact qset_self _ _ _ | (rw [qset_ne _ _ (by omega)]; first | assumption | exact qset_self _ _ _ | (rw [qset_ne _ _ (by omega)]; first | assumption | exact qset_self _ _ _ | (rw [qset_ne _ _ (by omega)]; first | assumption | exact qset_self _ _ _ | (rw [qset_ne _ _ (by omega)]; first | assumption | exact qset_self _ _ _ | (rw [qset_ne _ _ (by omega)]; first | assumption | exact qset_self _ _ _))))))) rfl ?_
  refine v_inv B i_T_remakeBelow_24 kn_m_G_keyAt (c_G_keyAt B aP (vO (trbO1 pg q k lat))) aP.1 rfl rfl (Nat.le_of_ble_eq_true rfl) ⟨by decide, by decide, by first | decide | (simp; omega), by first | decide | (simp; omega)⟩ rfl (fun r X' hq => ?_) (fun _ _ h => False.elim h)
  obtain ⟨rfl, rfl⟩ := hq
  refine v_istore i_T_remakeBelow_27 (by decide) rfl ?_
  refine v_aload_n i_T_remakeBelow_29 rfl ?_
  refine v_get B i_T_remakeBelow_30 (by first | assumption | exact qset_self _ _ _ | (rw [qset_ne _ _ (by omega)]; first | assumption | exact qset_self _ _ _ | (rw [qset_ne _ _ (by omega)]; first | assumption | exact qset_self _ _ _ | (rw [qset_ne _ _ (by omega)]; first | assumption | exact qset_self _ _ _ | (rw [qset_ne _ _ (by omega)]; first | assumption | exact qset_self _ _ _ | (rw [qset_ne _ _ (by omega)]; first | assumption | exact qset_self _ _ _ | (rw [qset_ne _ _ (by omega)]; first | assumption | exact qset_self _ _ _))))))) rfl ?_
  refine v_get B i_T_remakeBelow_33 (by first | assumption | exact qset_self _ _ _ | (rw [qset_ne _ _ (by omega)]; first | assumption | exact qset_self _ _ _ | (rw [qset_ne _ _ (by omega)]; first | assumption | exact qset_self _ _ _ | (rw [qset_ne _ _ (by omega)]; first | assumption | exact qset_self _ _ _ | (rw [qset_ne _ _ (by omega)]; first | assumption | exact qset_self _ _ _ | (rw [qset_ne _ _ (by omega)]; first | assumption | exact qset_self _ _ _ | (rw [qset_ne _ _ (by omega)]; first | assumption | exact qset_self _ _ _))))))) rfl ?_
  refine v_iconst (v := 5) i_T_remakeBelow_36 rfl ?_
  have go : ∀ (X2 : qX) (o2 : Option Nat) (fk : Int32) (pg2 : Nat → Pg) (li2 : qRw), li2.length ≤ 20 → X2.2 = X.2 → qFr X X2 t cnt pa → TrAt X2 t cnt pa pg2 made lat ro pn fe (vO (trbO1 pg q k lat)) (vO o2) co li2 db →
      qV l s0 C m_T_remakeBelow rm_T_remakeBelow (fun r X' => r = none ∧ ∃ (cnt' : Nat) (pa' : Nat → Nat), TrAt X' t cnt' pa' (tmkP pg2 made li2 lev v) (tmkN made li2) lat ro pn fe (vO (trbO1 pg q k lat)) (vO o2) (rlow (tmkC made li2 lev v) fk) li2 db ∧ qFr X X' t cnt pa ∧ qGr X cnt cnt' pa pa') (fun _ _ => False) 0 0 X2 108 [(0, .ref t), (1, .ref (pa q)), (2, .int (nI lev)), (3, .int (nI v)), (4, .int k), (5, .int fk)] [] := by
    intro X2 o2 fk pg2 li2 hl2 hz2 f2 h2
    obtain ⟨b0, -⟩ := id h2
    refine v_aload_n i_T_remakeBelow_108 rfl ?_
    refine v_iload_n i_T_remakeBelow_109 rfl ?_
    refine v_iload_n i_T_remakeBelow_110 rfl ?_
    refine v_inv B i_T_remakeBelow_111 kn_m_T_makeFromList (c_T_makeFromList B h2 (by omega) hm lev v hlv hv hl2) b0 rfl rfl (Nat.le_of_ble_eq_true rfl) ⟨by decide, by decide, by first | decide | (simp; omega), by first | decide | (simp; omega)⟩ rfl (fun r X' hq => ?_) (fun _ _ h => False.elim h)
    obtain ⟨rfl, cnt3, pa3, h3, f3, gr3⟩ := hq
    have gr3' : qGr X cnt cnt3 pa pa3 := by
      refine ⟨gr3.1, gr3.2.1, fun i hi1 hi2 => ?_⟩
      have := gr3.2.2 i hi1 hi2
      omega
    have f3' := f2.trans f3 (qGr.rf X cnt pa)
    generalize X' = X3 at h3 f3' ⊢
    obtain ⟨c0, -, -, -, cco, -⟩ := id h3
    refine v_aload_n i_T_remakeBelow_114 rfl ?_
    refine v_get B i_T_remakeBelow_115 (by first | assumption | exact qset_self _ _ _ | (rw [qset_ne _ _ (by omega)]; first | assumption | exact qset_self _ _ _ | (rw [qset_ne _ _ (by omega)]; first | assumption | exact qset_self _ _ _ | (rw [qset_ne _ _ (by omega)]; first | assumption | exact qset_self _ _ _ | (rw [qset_ne _ _ (by omega)]; first | assumption | exact qset_self _ _ _ | (rw [qset_ne _ _ (by omega)]; first | assumption | exact qset_self _ _ _ | (rw [qset_ne _ _ (by omega)]; first | assumption | exact qset_self _ _ _))))))) rfl ?_
    refine v_iload i_T_remakeBelow_118 rfl ?_
    refine v_inv B i_T_remakeBelow_120 kn_m_R_lowerFirst (c_R_lowerFirst B cco fk) cco.1 rfl rfl (Nat.le_of_ble_eq_true rfl) ⟨by decide, by decide, by first | decide | (simp; omega), by first | decide | (simp; omega)⟩ rfl (fun r X' hq => ?_) (fun _ _ h => False.elim h)
    obtain ⟨rfl, hr4, hs4⟩ := hq
    exact v_vret i_T_remakeBelow_123 rfl (by decide) (by decide) ⟨rfl, cnt3, pa3, h3.coming hs4 hr4, f3'.trans (qFr.own (t := t) (cnt := cnt3) (pa := pa3) hs4 (by omega) (by omega)) gr3', gr3'⟩
  refine v_icmp_ge (tgt := 108) i_T_remakeBelow_37 rfl (fun h37 => ?_) (fun h37 => ?_)
  · have h5 : ¬ li.length < 5 := Nat.not_lt.mpr ((nI_leI (a := 5) (by omega) (by omega)).mp h37)
    refine v_loc [(0, .ref t), (1, .ref (pa q)), (2, .int (nI lev)), (3, .int (nI v)), (4, .int k), (5, .int (gkeyAt (pg q) (vO (trbO1 pg q k lat))))] rfl ?_
    rw [show trbP pg made q k lat v li = pg by unfold trbP; rw [if_neg h5], show trbL pg made q k lat li = li by unfold trbL; rw [if_neg h5], show trbO2 pg q k lat li = none by unfold trbO2; rw [if_neg h5], show trbK pg q k lat li = gkeyAt (pg q) (vO (trbO1 pg q k lat)) by unfold trbK; rw [if_neg h5]]
    exact go X1 none _ pg li hli z1 f1 h1
  · have h5 : li.length < 5 := by
      have : ¬ 5 ≤ li.length := fun q => h37 (nI_le (a := 5) q (by omega))
      omega
    refine v_aload_n i_T_remakeBelow_40 rfl ?_
    refine v_aload_n i_T_remakeBelow_41 rfl ?_
    refine v_aload_n i_T_remakeBelow_42 rfl ?_
    refine v_get B i_T_remakeBelow_43 (by first | assumption | exact qset_self _ _ _ | (rw [qset_ne _ _ (by omega)]; first | assumption | exact qset_self _ _ _ | (rw [qset_ne _ _ (by omega)]; first | assumption | exact qset_self _ _ _ | (rw [qset_ne _ _ (by omega)]; first | assumption | exact qset_self _ _ _ | (rw [qset_ne _ _ (by omega)]; first | assumption | exact qset_self _ _ _ | (rw [qset_ne _ _ (by omega)]; first | assumption | exact qset_self _ _ _ | (rw [qset_ne _ _ (by omega)]; first | assumption | exact qset_self _ _ _))))))) rfl ?_
    refine v_aload_n i_T_remakeBelow_46 rfl ?_
    refine v_get B i_T_remakeBelow_47 (by first | assumption | exact qset_self _ _ _ | (rw [qset_ne _ _ (by omega)]; first | assumption | exact qset_self _ _ _ | (rw [qset_ne _ _ (by omega)]; first | assumption | exact qset_self _ _ _ | (rw [qset_ne _ _ (by omega)]; first | assumption | exact qset_self _ _ _ | (rw [qset_ne _ _ (by omega)]; first | assumption | exact qset_self _ _ _ | (rw [qset_ne _ _ (by omega)]; first | assumption | exact qset_self _ _ _ | (rw [qset_ne _ _ (by omega)]; first | assumption | exact qset_self _ _ _))))))) rfl ?_
    refine v_inv B i_T_remakeBelow_50 kn_m_G_neighbourOf (c_G_neighbourOf B aP (vO (trbO1 pg q k lat)) lat (by omega)) aP.1 rfl rfl (Nat.le_of_ble_eq_true rfl) ⟨by decide, by decide, by first | decide | (simp; omega), by first | decide | (simp; omega)⟩ rfl (fun r X' hq => ?_) (fun _ _ h => False.elim h)
    obtain ⟨rfl, rfl⟩ := hq
    rw [show gneigh (pg q) (vO (trbO1 pg q k lat)) lat = trbO2 pg q k lat li by unfold trbO2; rw [if_pos h5]]
    refine v_put B i_T_remakeBelow_53 (by first | assumption | exact qset_self _ _ _ | (rw [qset_ne _ _ (by omega)]; first | assumption | exact qset_self _ _ _ | (rw [qset_ne _ _ (by omega)]; first | assumption | exact qset_self _ _ _ | (rw [qset_ne _ _ (by omega)]; first | assumption | exact qset_self _ _ _ | (rw [qset_ne _ _ (by omega)]; first | assumption | exact qset_self _ _ _ | (rw [qset_ne _ _ (by omega)]; first | assumption | exact qset_self _ _ _ | (rw [qset_ne _ _ (by omega)]; first | assumption | exact qset_self _ _ _))))))) (Nat.le_of_ble_eq_true rfl) rfl rfl ?_
    have h2 : TrAt (qset X1 t (.inr (3, [Value.ref (t + 1), .ref (t + 6), .ref (t + 7), .int (nI made), .int (nI lat), .ref (t + 8), .long fe, .int (vO (trbO1 pg q k lat)), .int (vO none), .ref (t + 9), .ref (t + 12), .int (nI db)].set 8 (.int (vO (trbO2 pg q k lat li)))))) t cnt pa pg made lat ro pn fe (vO (trbO1 pg q k lat)) (vO (trbO2 pg q k lat li)) co li db := h1.obj rfl ⟨m1, m2⟩ m4 m5
    have f2 : qFr X (qset X1 t (.inr (3, [Value.ref (t + 1), .ref (t + 6), .ref (t + 7), .int (nI made), .int (nI lat), .ref (t + 8), .long fe, .int (vO (trbO1 pg q k lat)), .int (vO none), .ref (t + 9), .ref (t + 12), .int (nI db)].set 8 (.int (vO (trbO2 pg q k lat li)))))) t cnt pa := f1.trans (qFr.own ((qSame.rf X1 t (t + 1)).set _ (by omega) (by omega)) (by omega) (by omega)) (qGr.rf X cnt pa)
    have z2 : (qset X1 t (.inr (3, [Value.ref (t + 1), .ref (t + 6), .ref (t + 7), .int (nI made), .int (nI lat), .ref (t + 8), .long fe, .int (vO (trbO1 pg q k lat)), .int (vO none), .ref (t + 9), .ref (t + 12), .int (nI db)].set 8 (.int (vO (trbO2 pg q k lat li)))))).2 = X.2 := z1
    generalize qset X1 t (.inr (3, [Value.ref (t + 1), .ref (t + 6), .ref (t + 7), .int (nI made), .int (nI lat), .ref (t + 8), .long fe, .int (vO (trbO1 pg q k lat)), .int (vO none), .ref (t + 9), .ref (t + 12), .int (nI db)].set 8 (.int (vO (trbO2 pg q k lat li))))) = X2 at h2 f2 z2 ⊢
    obtain ⟨b0, -, -, -, bco, bli, bPG, -⟩ := id h2
    have bP := bPG q hq0
    refine v_iload i_T_remakeBelow_56 rfl ?_
    refine v_aload_n i_T_remakeBelow_58 rfl ?_
    refine v_aload_n i_T_remakeBelow_59 rfl ?_
    refine v_get B i_T_remakeBelow_60 (by first | assumption | exact qset_self _ _ _ | (rw [qset_ne _ _ (by omega)]; first | assumption | exact qset_self _ _ _ | (rw [qset_ne _ _ (by omega)]; first | assumption | exact qset_self _ _ _ | (rw [qset_ne _ _ (by omega)]; first | assumption | exact qset_self _ _ _ | (rw [qset_ne _ _ (by omega)]; first | assumption | exact qset_self _ _ _ | (rw [qset_ne _ _ (by omega)]; first | assumption | exact qset_self _ _ _ | (rw [qset_ne _ _ (by omega)]; first | assumption | exact qset_self _ _ _))))))) rfl ?_
    refine v_inv B i_T_remakeBelow_63 kn_m_G_keyAt (c_G_keyAt B bP (vO (trbO2 pg q k lat li))) bP.1 rfl rfl (Nat.le_of_ble_eq_true rfl) ⟨by decide, by decide, by first | decide | (simp; omega), by first | decide | (simp; omega)⟩ rfl (fun r X' hq => ?_) (fun _ _ h => False.elim h)
    obtain ⟨rfl, rfl⟩ := hq
    refine v_invS B i_T_remakeBelow_66 kn_m_J_minI (c_J_minI (gkeyAt (pg q) (vO (trbO1 pg q k lat))) (gkeyAt (pg q) (vO (trbO2 pg q k lat li)))) rfl rfl (Nat.le_of_ble_eq_true rfl) ⟨by decide, by decide, by first | decide | (simp; omega), by first | decide | (simp; omega)⟩ rfl (fun r X' hq => ?_) (fun _ _ h => False.elim h)
    obtain ⟨rfl, rfl⟩ := hq
    rw [show imin (gkeyAt (pg q) (vO (trbO1 pg q k lat))) (gkeyAt (pg q) (vO (trbO2 pg q k lat li))) = trbK pg q k lat li by unfold trbK; rw [if_pos h5]]
    refine v_istore i_T_remakeBelow_69 (by decide) rfl ?_
    refine v_aload_n i_T_remakeBelow_71 rfl ?_
    refine v_aload_n i_T_remakeBelow_72 rfl ?_
    refine v_aload_n i_T_remakeBelow_73 rfl ?_
    refine v_get B i_T_remakeBelow_74 (by first | assumption | exact qset_self _ _ _ | (rw [qset_ne _ _ (by omega)]; first | assumption | exact qset_self _ _ _ | (rw [qset_ne _ _ (by omega)]; first | assumption | exact qset_self _ _ _ | (rw [qset_ne _ _ (by omega)]; first | assumption | exact qset_self _ _ _ | (rw [qset_ne _ _ (by omega)]; first | assumption | exact qset_self _ _ _ | (rw [qset_ne _ _ (by omega)]; first | assumption | exact qset_self _ _ _ | (rw [qset_ne _ _ (by omega)]; first | assumption | exact qset_self _ _ _))))))) rfl ?_
    refine v_inv B i_T_remakeBelow_77 kn_m_G_whatAt (c_G_whatAt B bP (vO (trbO2 pg q k lat li))) bP.1 rfl rfl (Nat.le_of_ble_eq_true rfl) ⟨by decide, by decide, by first | decide | (simp; omega), by first | decide | (simp; omega)⟩ rfl (fun r X' hq => ?_) (fun _ _ h => False.elim h)
    obtain ⟨rfl, rfl⟩ := hq
    refine v_inv B i_T_remakeBelow_80 kn_m_T_pageAt (c_T_pageAt B h2 (gwhatAt (pg q) (vO (trbO2 pg q k lat li)))) b0 rfl rfl (Nat.le_of_ble_eq_true rfl) ⟨by decide, by decide, by first | decide | (simp; omega), by first | decide | (simp; omega)⟩ rfl (fun r X' hq => ?_) (fun _ _ h => False.elim h)
    obtain ⟨rfl, rfl⟩ := hq
    rw [show tpn made (gwhatAt (pg q) (vO (trbO2 pg q k lat li))) = trbN pg made q k lat li from rfl]
    have hnb : trbN pg made q k lat li < made := tpn_lt m1 _
    have nP := bPG (trbN pg made q k lat li) (by omega)
    obtain ⟨-, ⟨-, -, -, ok4, -⟩, -⟩ := id nP
    have hw := h2.where_ (i := trbN pg made q k lat li) (by omega)
    refine v_astore i_T_remakeBelow_83 (by decide) rfl ?_
    refine v_aload i_T_remakeBelow_85 rfl ?_
    refine v_aload_n i_T_remakeBelow_87 rfl ?_
    refine v_get B i_T_remakeBelow_88 (by first | assumption | exact qset_self _ _ _ | (rw [qset_ne _ _ (by omega)]; first | assumption | exact qset_self _ _ _ | (rw [qset_ne _ _ (by omega)]; first | assumption | exact qset_self _ _ _ | (rw [qset_ne _ _ (by omega)]; first | assumption | exact qset_self _ _ _ | (rw [qset_ne _ _ (by omega)]; first | assumption | exact qset_self _ _ _ | (rw [qset_ne _ _ (by omega)]; first | assumption | exact qset_self _ _ _ | (rw [qset_ne _ _ (by omega)]; first | assumption | exact qset_self _ _ _))))))) rfl ?_
    refine v_ldc B i_T_remakeBelow_91 i_T_remakeBelow_91_w ?_
    refine v_ldc B i_T_remakeBelow_93 i_T_remakeBelow_93_w ?_
    refine v_aload_n i_T_remakeBelow_95 rfl ?_
    refine v_get B i_T_remakeBelow_96 (by first | assumption | exact qset_self _ _ _ | (rw [qset_ne _ _ (by omega)]; first | assumption | exact qset_self _ _ _ | (rw [qset_ne _ _ (by omega)]; first | assumption | exact qset_self _ _ _ | (rw [qset_ne _ _ (by omega)]; first | assumption | exact qset_self _ _ _ | (rw [qset_ne _ _ (by omega)]; first | assumption | exact qset_self _ _ _ | (rw [qset_ne _ _ (by omega)]; first | assumption | exact qset_self _ _ _ | (rw [qset_ne _ _ (by omega)]; first | assumption | exact qset_self _ _ _))))))) rfl ?_
    refine v_inv B i_T_remakeBelow_99 kn_m_G_copyLiving (c_G_copyLiving B nP lat (by omega) (-2147483648) 2147483647 bli (by omega) (by omega)) nP.1 rfl rfl (Nat.le_of_ble_eq_true rfl) ⟨by decide, by decide, by first | decide | (simp; omega), by first | decide | (simp; omega)⟩ rfl (fun r X' hq => ?_) (fun _ _ h => False.elim h)
    obtain ⟨rfl, hr3, hs3⟩ := hq
    have h3 := h2.list hs3 hr3
    have f3 := f2.trans (qFr.own (t := t) (cnt := cnt) (pa := pa) hs3 (by omega) (by omega)) (qGr.rf X cnt pa)
    have z3 := hs3.1.trans z2
    rw [show gcopy (pg (trbN pg made q k lat li)).2.2.2 lat (-2147483648) 2147483647 li (pg (trbN pg made q k lat li)).2.2.2.length = trbL pg made q k lat li by unfold trbL; rw [if_pos h5]] at h3
    have hlen : (trbL pg made q k lat li).length ≤ 20 := by
      unfold trbL
      rw [if_pos h5]
      have := gcopy_len (pg (trbN pg made q k lat li)).2.2.2 lat (-2147483648) 2147483647 li (pg (trbN pg made q k lat li)).2.2.2.length
      omega
    generalize X' = X3 at h3 f3 z3 ⊢
    obtain ⟨c0, -, -, -, -, -, cPG, -⟩ := id h3
    have cP := cPG (trbN pg made q k lat li) (by omega)
    refine v_aload i_T_remakeBelow_102 rfl ?_
    refine v_iload_n i_T_remakeBelow_104 rfl ?_
    refine v_put B i_T_remakeBelow_105 cP.1 (Nat.le_of_ble_eq_true rfl) rfl rfl ?_
    have hs4 : qSame X3 (qset X3 (pa (trbN pg made q k lat li)) (.inr (1, [Value.int (nI (trbN pg made q k lat li)), .ref (pa (trbN pg made q k lat li) + 1), .ref (pa (trbN pg made q k lat li) + 2), .ref (pa (trbN pg made q k lat li) + 3), .ref (pa (trbN pg made q k lat li) + 4), .int (nI (pg (trbN pg made q k lat li)).1), .int (nI (pg (trbN pg made q k lat li)).2.1), .int (vO (pg (trbN pg made q k lat li)).2.2.1), .int (nI (pg (trbN pg made q k lat li)).2.2.2.length)].set 7 (.int (nI v))))) (pa (trbN pg made q k lat li)) (pa (trbN pg made q k lat li) + 5) := (qSame.rf X3 _ _).set _ (by omega) (by omega)
    have h4 := h3.page (by omega) hs4 (cP.die hv)
    rw [show va_up pg (trbN pg made q k lat li) (gdie (pg (trbN pg made q k lat li)) v) = trbP pg made q k lat v li by unfold trbP; rw [if_pos h5]] at h4
    refine v_loc [(0, .ref t), (1, .ref (pa q)), (2, .int (nI lev)), (3, .int (nI v)), (4, .int k), (5, .int (trbK pg q k lat li))] rfl ?_
    exact go _ _ _ _ _ hlen z3 (f3.trans (qFr.page hs4 (by omega)) (qGr.rf X cnt pa)) h4
end TC
