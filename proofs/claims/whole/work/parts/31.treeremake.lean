/-! pages are remade -/
def thalf (n : Nat) : Nat := if 10 < n then (n + 1) / 2 else n
theorem thalf_le (n : Nat) : thalf n ≤ n := by unfold thalf; split <;> omega
/-- one page out of a list, or two: the pages, how many were made, what comes -/
def tmkP (pg : Nat → Pg) (made : Nat) (li : qRw) (lev v : Nat) : Nat → Pg := if thalf li.length < li.length then va_up (va_up pg made (lev, v, none, gtk li v 0 (thalf li.length))) (made + 1) (lev, v, none, gtk li v (thalf li.length) (li.length - thalf li.length)) else va_up pg made (lev, v, none, gtk li v 0 (thalf li.length))
def tmkN (made : Nat) (li : qRw) : Nat := if thalf li.length < li.length then made + 2 else made + 1
def tmkC (made : Nat) (li : qRw) (lev v : Nat) : qRw := if thalf li.length < li.length then rins (rins [] (gkeyAt (lev, v, none, gtk li v 0 (thalf li.length)) 0) (nI made).toInt64) (gkeyAt (lev, v, none, gtk li v (thalf li.length) (li.length - thalf li.length)) 0) (nI (made + 1)).toInt64 else rins [] (gkeyAt (lev, v, none, gtk li v 0 (thalf li.length)) 0) (nI made).toInt64
theorem tmkC_len (made : Nat) (li : qRw) (lev v : Nat) : (tmkC made li lev v).length = if thalf li.length < li.length then 2 else 1 := by
  unfold tmkC
  split
  · rw [rins_len, rins_len]; rfl
  · rw [rins_len]; rfl
/-- a page dies -/
def gdie (P : Pg) (v : Nat) : Pg := (P.1, P.2.1, some v, P.2.2.2)
theorem PgAt.die {X : qX} {a num : Nat} {P : Pg} (h : PgAt X a num P) {v : Nat} (hv : v < 2 ^ 30) : PgAt (qset X a (.inr (1, [Value.int (nI num), .ref (a + 1), .ref (a + 2), .ref (a + 3), .ref (a + 4), .int (nI P.1), .int (nI P.2.1), .int (vO P.2.2.1), .int (nI P.2.2.2.length)].set 7 (.int (nI v))))) a num (gdie P v) := by
  obtain ⟨h1, ⟨o1, o2, o3, o4, o5⟩, fk, ff, ft, fw, h4, h5, h6, h7, h8⟩ := h
  exact ⟨qset_self _ _ _, ⟨o1, o2, fun t ht => by cases ht; exact hv, o4, o5⟩, fk, ff, ft, fw, by rw [qset_ne _ _ (by omega)]; exact h4, by rw [qset_ne _ _ (by omega)]; exact h5, by rw [qset_ne _ _ (by omega)]; exact h6, by rw [qset_ne _ _ (by omega)]; exact h7, h8⟩
section TK
variable {X X' : qX} {t cnt : Nat} {pa : Nat → Nat} {pg : Nat → Pg} {made lat : Nat} {ro : Nat → Nat} {pn : Nat → Option Nat} {fe : Int64} {g1 g2 : Int32} {co li : qRw} {db : Nat}
variable {l : Launch} {s0 : State} {C : qC}
set_option maxHeartbeats 2000000 in
theorem c_T_makeFromList (B : qB l s0 C) (h : TrAt X t cnt pa pg made lat ro pn fe g1 g2 co li db) (hX : t + 24 ≤ X.2) (hm : made + 2 ≤ 256) (lev v : Nat) (hlv : lev < 1000) (hv : v < 2 ^ 30) (hli : li.length ≤ 20) :
    qMet l s0 C m_T_makeFromList rm_T_makeFromList [.ref t, .int (nI lev), .int (nI v)] X (fun r X' => r = none ∧ ∃ (cnt' : Nat) (pa' : Nat → Nat), TrAt X' t cnt' pa' (tmkP pg made li lev v) (tmkN made li) lat ro pn fe g1 g2 (tmkC made li lev v) li db ∧ qFr X X' t cnt pa ∧ qGr X cnt cnt' pa pa') (fun _ _ => False) := by
  obtain ⟨h0, -, -, -, hco, hl0, -⟩ := id h
  obtain ⟨l0, lc, -⟩ := id hl0
  have hth := thalf_le li.length
  have hth2 : thalf li.length ≤ 10 := by unfold thalf; split <;> omega
  have hth3 : li.length - thalf li.length ≤ 10 := by unfold thalf; split <;> omega
  refine q_of (by decide +kernel) (Nat.le_of_ble_eq_true rfl) ?_
  refine v_L (L' := [(0, .ref t), (1, .int (nI lev)), (2, .int (nI v))]) rfl ?_
  have go : qV l s0 C m_T_makeFromList rm_T_makeFromList (fun r X' => r = none ∧ ∃ (cnt' : Nat) (pa' : Nat → Nat), TrAt X' t cnt' pa' (tmkP pg made li lev v) (tmkN made li) lat ro pn fe g1 g2 (tmkC made li lev v) li db ∧ qFr X X' t cnt pa ∧ qGr X cnt cnt' pa pa') (fun _ _ => False) 0 0 X 33 [(0, .ref t), (1, .int (nI lev)), (2, .int (nI v))] [.int (nI (thalf li.length))] := by
    refine v_istore_n i_T_makeFromList_33 (by decide) rfl ?_
    refine v_aload_n i_T_makeFromList_34 rfl ?_
    refine v_get B i_T_makeFromList_35 (by first | assumption | exact qset_self _ _ _ | (rw [qset_ne _ _ (by omega)]; first | assumption | exact qset_self _ _ _ | (rw [qset_ne _ _ (by omega)]; first | assumption | exact qset_self _ _ _ | (rw [qset_ne _ _ (by omega)]; first | assumption | exact qset_self _ _ _ | (rw [qset_ne _ _ (by omega)]; first | assumption | exact qset_self _ _ _ | (rw [qset_ne _ _ (by omega)]; first | assumption | exact qset_self _ _ _ | (rw [qset_ne _ _ (by omega)]; first | assumption | exact qset_self _ _ _))))))) rfl ?_
    refine v_inv B i_T_makeFromList_38 kn_m_R_clear (c_R_clear B hco) hco.1 rfl rfl (Nat.le_of_ble_eq_true rfl) ⟨by decide, by decide, by first | decide | (simp; omega), by first | decide | (simp; omega)⟩ rfl (fun r X' hq => ?_) (fun _ _ h => False.elim h)
    obtain ⟨rfl, hr1, hs1⟩ := hq
    have h1 := h.coming hs1 hr1
    have f1 : qFr X X' t cnt pa := qFr.own hs1 (by omega) (by omega)
    have z1 := hs1.1
    generalize X' = X1 at h1 f1 z1 ⊢
    clear hr1 hs1
    obtain ⟨a0, -, -, -, aco, ali, -⟩ := id h1
    refine v_aload_n i_T_makeFromList_41 rfl ?_
    refine v_iload_n i_T_makeFromList_42 rfl ?_
    refine v_iload_n i_T_makeFromList_43 rfl ?_
    refine v_aload_n i_T_makeFromList_44 rfl ?_
    refine v_get B i_T_makeFromList_45 (by first | assumption | exact qset_self _ _ _ | (rw [qset_ne _ _ (by omega)]; first | assumption | exact qset_self _ _ _ | (rw [qset_ne _ _ (by omega)]; first | assumption | exact qset_self _ _ _ | (rw [qset_ne _ _ (by omega)]; first | assumption | exact qset_self _ _ _ | (rw [qset_ne _ _ (by omega)]; first | assumption | exact qset_self _ _ _ | (rw [qset_ne _ _ (by omega)]; first | assumption | exact qset_self _ _ _ | (rw [qset_ne _ _ (by omega)]; first | assumption | exact qset_self _ _ _))))))) rfl ?_
    refine v_iconst (v := 0) i_T_makeFromList_48 rfl ?_
    refine v_iload_n i_T_makeFromList_49 rfl ?_
    refine v_inv B i_T_makeFromList_50 kn_m_T_makePage (c_T_makePage B h1 (by omega) (by omega) lev v hlv hv (Or.inr ⟨rfl, rfl⟩) 0 (thalf li.length) (Nat.zero_le _) hth (by omega)) a0 rfl rfl (Nat.le_of_ble_eq_true rfl) ⟨by decide, by decide, by first | decide | (simp; omega), by first | decide | (simp; omega)⟩ rfl (fun r X' hq => ?_) (fun _ _ h => False.elim h)
    obtain ⟨cnt2, pa2, rfl, hc2, h2, f2, gr2⟩ := hq
    rw [Nat.sub_zero] at h2
    have fr2 := f1.trans f2 (qGr.rf X cnt pa)
    have gr2' : qGr X cnt cnt2 pa pa2 := by rw [show qGr X cnt cnt2 pa pa2 ↔ qGr X1 cnt cnt2 pa pa2 by unfold qGr; rw [z1]]; exact gr2
    have z2 := f2.1
    generalize X' = X2 at h2 fr2 z2 ⊢
    clear f2 gr2
    obtain ⟨b0, -, -, -, bco, bli, bPG, -⟩ := id h2
    have bP := bPG made hc2
    rw [va_up_self] at bP
    refine v_astore i_T_makeFromList_53 (by decide) rfl ?_
    refine v_aload_n i_T_makeFromList_55 rfl ?_
    refine v_get B i_T_makeFromList_56 (by first | assumption | exact qset_self _ _ _ | (rw [qset_ne _ _ (by omega)]; first | assumption | exact qset_self _ _ _ | (rw [qset_ne _ _ (by omega)]; first | assumption | exact qset_self _ _ _ | (rw [qset_ne _ _ (by omega)]; first | assumption | exact qset_self _ _ _ | (rw [qset_ne _ _ (by omega)]; first | assumption | exact qset_self _ _ _ | (rw [qset_ne _ _ (by omega)]; first | assumption | exact qset_self _ _ _ | (rw [qset_ne _ _ (by omega)]; first | assumption | exact qset_self _ _ _))))))) rfl ?_
    refine v_aload i_T_makeFromList_59 rfl ?_
    refine v_iconst (v := 0) i_T_makeFromList_61 rfl ?_
    refine v_inv B i_T_makeFromList_62 kn_m_G_keyAt (c_G_keyAt B bP 0) bP.1 rfl rfl (Nat.le_of_ble_eq_true rfl) ⟨by decide, by decide, by first | decide | (simp; omega), by first | decide | (simp; omega)⟩ rfl (fun r X' hq => ?_) (fun _ _ h => False.elim h)
    obtain ⟨rfl, rfl⟩ := hq
    refine v_aload i_T_makeFromList_65 rfl ?_
    refine v_get B i_T_makeFromList_67 bP.1 rfl ?_
    refine v_i2l i_T_makeFromList_70 ?_
    refine v_inv B i_T_makeFromList_71 kn_m_R_insert (c_R_insert B bco (gkeyAt (lev, v, none, gtk li v 0 (thalf li.length)) 0) (nI made).toInt64 (by show 0 < 2; omega)) bco.1 rfl rfl (Nat.le_of_ble_eq_true rfl) ⟨by decide, by decide, by first | decide | (simp; omega), by first | decide | (simp; omega)⟩ rfl (fun r X' hq => ?_) (fun _ _ h => False.elim h)
    obtain ⟨rfl, hr3, hs3⟩ := hq
    have h3 := h2.coming hs3 hr3
    have fr3 := fr2.trans (qFr.own (t := t) (cnt := cnt2) (pa := pa2) hs3 (by omega) (by omega)) gr2'
    have z3 := hs3.1
    generalize X' = X3 at h3 fr3 z3 ⊢
    clear hr3 hs3
    obtain ⟨c0, -, -, -, cco, cli, cPG, -⟩ := id h3
    obtain ⟨d0, -⟩ := id cli
    refine v_iload_n i_T_makeFromList_74 rfl ?_
    refine v_aload_n i_T_makeFromList_75 rfl ?_
    refine v_get B i_T_makeFromList_76 (by first | assumption | exact qset_self _ _ _ | (rw [qset_ne _ _ (by omega)]; first | assumption | exact qset_self _ _ _ | (rw [qset_ne _ _ (by omega)]; first | assumption | exact qset_self _ _ _ | (rw [qset_ne _ _ (by omega)]; first | assumption | exact qset_self _ _ _ | (rw [qset_ne _ _ (by omega)]; first | assumption | exact qset_self _ _ _ | (rw [qset_ne _ _ (by omega)]; first | assumption | exact qset_self _ _ _ | (rw [qset_ne _ _ (by omega)]; first | assumption | exact qset_self _ _ _))))))) rfl ?_
    refine v_get B i_T_makeFromList_79 (by first | assumption | exact qset_self _ _ _ | (rw [qset_ne _ _ (by omega)]; first | assumption | exact qset_self _ _ _ | (rw [qset_ne _ _ (by omega)]; first | assumption | exact qset_self _ _ _ | (rw [qset_ne _ _ (by omega)]; first | assumption | exact qset_self _ _ _ | (rw [qset_ne _ _ (by omega)]; first | assumption | exact qset_self _ _ _ | (rw [qset_ne _ _ (by omega)]; first | assumption | exact qset_self _ _ _ | (rw [qset_ne _ _ (by omega)]; first | assumption | exact qset_self _ _ _))))))) rfl ?_
    refine v_icmp_ge (tgt := 124) i_T_makeFromList_82 rfl (fun h82 => ?_) (fun h82 => ?_)
    · have hge := (nI_leI (by omega) (by omega)).mp h82
      refine v_vret i_T_makeFromList_124 rfl (by decide) (by decide) ⟨rfl, cnt2, pa2, ?_, fr3, gr2'⟩
      rw [tmkP, tmkN, tmkC, if_neg (by omega), if_neg (by omega), if_neg (by omega)]
      exact h3
    have hlt : thalf li.length < li.length := by
      have : ¬ li.length ≤ thalf li.length := fun q => h82 (nI_le q (by omega))
      omega
    refine v_aload_n i_T_makeFromList_85 rfl ?_
    refine v_iload_n i_T_makeFromList_86 rfl ?_
    refine v_iload_n i_T_makeFromList_87 rfl ?_
    refine v_aload_n i_T_makeFromList_88 rfl ?_
    refine v_get B i_T_makeFromList_89 (by first | assumption | exact qset_self _ _ _ | (rw [qset_ne _ _ (by omega)]; first | assumption | exact qset_self _ _ _ | (rw [qset_ne _ _ (by omega)]; first | assumption | exact qset_self _ _ _ | (rw [qset_ne _ _ (by omega)]; first | assumption | exact qset_self _ _ _ | (rw [qset_ne _ _ (by omega)]; first | assumption | exact qset_self _ _ _ | (rw [qset_ne _ _ (by omega)]; first | assumption | exact qset_self _ _ _ | (rw [qset_ne _ _ (by omega)]; first | assumption | exact qset_self _ _ _))))))) rfl ?_
    refine v_iload_n i_T_makeFromList_92 rfl ?_
    refine v_aload_n i_T_makeFromList_93 rfl ?_
    refine v_get B i_T_makeFromList_94 (by first | assumption | exact qset_self _ _ _ | (rw [qset_ne _ _ (by omega)]; first | assumption | exact qset_self _ _ _ | (rw [qset_ne _ _ (by omega)]; first | assumption | exact qset_self _ _ _ | (rw [qset_ne _ _ (by omega)]; first | assumption | exact qset_self _ _ _ | (rw [qset_ne _ _ (by omega)]; first | assumption | exact qset_self _ _ _ | (rw [qset_ne _ _ (by omega)]; first | assumption | exact qset_self _ _ _ | (rw [qset_ne _ _ (by omega)]; first | assumption | exact qset_self _ _ _))))))) rfl ?_
    refine v_get B i_T_makeFromList_97 (by first | assumption | exact qset_self _ _ _ | (rw [qset_ne _ _ (by omega)]; first | assumption | exact qset_self _ _ _ | (rw [qset_ne _ _ (by omega)]; first | assumption | exact qset_self _ _ _ | (rw [qset_ne _ _ (by omega)]; first | assumption | exact qset_self _ _ _ | (rw [qset_ne _ _ (by omega)]; first | assumption | exact qset_self _ _ _ | (rw [qset_ne _ _ (by omega)]; first | assumption | exact qset_self _ _ _ | (rw [qset_ne _ _ (by omega)]; first | assumption | exact qset_self _ _ _))))))) rfl ?_
    refine v_inv B i_T_makeFromList_100 kn_m_T_makePage (c_T_makePage B h3 (by omega) (by omega) lev v hlv hv (Or.inr ⟨rfl, rfl⟩) (thalf li.length) li.length hth (Nat.le_refl _) (by omega)) c0 rfl rfl (Nat.le_of_ble_eq_true rfl) ⟨by decide, by decide, by first | decide | (simp; omega), by first | decide | (simp; omega)⟩ rfl (fun r X' hq => ?_) (fun _ _ h => False.elim h)
    obtain ⟨cnt4, pa4, rfl, hc4, h4, f4, gr4⟩ := hq
    have fr4 := fr3.trans f4 gr2'
    have gr4' := gr2'.trans gr4 (by omega)
    generalize X' = X4 at h4 fr4 ⊢
    obtain ⟨e0, -, -, -, eco, eli, ePG, -⟩ := id h4
    have eP := ePG (made + 1) hc4
    rw [va_up_self] at eP
    refine v_astore i_T_makeFromList_103 (by decide) rfl ?_
    refine v_aload_n i_T_makeFromList_105 rfl ?_
    refine v_get B i_T_makeFromList_106 (by first | assumption | exact qset_self _ _ _ | (rw [qset_ne _ _ (by omega)]; first | assumption | exact qset_self _ _ _ | (rw [qset_ne _ _ (by omega)]; first | assumption | exact qset_self _ _ _ | (rw [qset_ne _ _ (by omega)]; first | assumption | exact qset_self _ _ _ | (rw [qset_ne _ _ (by omega)]; first | assumption | exact qset_self _ _ _ | (rw [qset_ne _ _ (by omega)]; first | assumption | exact qset_self _ _ _ | (rw [qset_ne _ _ (by omega)]; first | assumption | exact qset_self _ _ _))))))) rfl ?_
    refine v_aload i_T_makeFromList_109 rfl ?_
    refine v_iconst (v := 0) i_T_makeFromList_111 rfl ?_
    refine v_inv B i_T_makeFromList_112 kn_m_G_keyAt (c_G_keyAt B eP 0) eP.1 rfl rfl (Nat.le_of_ble_eq_true rfl) ⟨by decide, by decide, by first | decide | (simp; omega), by first | decide | (simp; omega)⟩ rfl (fun r X' hq => ?_) (fun _ _ h => False.elim h)
    obtain ⟨rfl, rfl⟩ := hq
    refine v_aload i_T_makeFromList_115 rfl ?_
    refine v_get B i_T_makeFromList_117 eP.1 rfl ?_
    refine v_i2l i_T_makeFromList_120 ?_
    refine v_inv B i_T_makeFromList_121 kn_m_R_insert (c_R_insert B eco (gkeyAt (lev, v, none, gtk li v (thalf li.length) (li.length - thalf li.length)) 0) (nI (made + 1)).toInt64 (by rw [rins_len]; show 0 + 1 < 2; omega)) eco.1 rfl rfl (Nat.le_of_ble_eq_true rfl) ⟨by decide, by decide, by first | decide | (simp; omega), by first | decide | (simp; omega)⟩ rfl (fun r X' hq => ?_) (fun _ _ h => False.elim h)
    obtain ⟨rfl, hr5, hs5⟩ := hq
    have h5 := h4.coming hs5 hr5
    refine v_vret i_T_makeFromList_124 rfl (by decide) (by decide) ⟨rfl, cnt4, pa4, ?_, fr4.trans (qFr.own (t := t) (cnt := cnt4) (pa := pa4) hs5 (by omega) (by omega)) gr4', gr4'⟩
    rw [tmkP, tmkN, tmkC, if_pos hlt, if_pos hlt, if_pos hlt]
    exact h5
  refine v_aload_n i_T_makeFromList_0 rfl ?_
  refine v_get B i_T_makeFromList_1 (by first | assumption | exact qset_self _ _ _ | (rw [qset_ne _ _ (by omega)]; first | assumption | exact qset_self _ _ _ | (rw [qset_ne _ _ (by omega)]; first | assumption | exact qset_self _ _ _ | (rw [qset_ne _ _ (by omega)]; first | assumption | exact qset_self _ _ _ | (rw [qset_ne _ _ (by omega)]; first | assumption | exact qset_self _ _ _ | (rw [qset_ne _ _ (by omega)]; first | assumption | exact qset_self _ _ _ | (rw [qset_ne _ _ (by omega)]; first | assumption | exact qset_self _ _ _))))))) rfl ?_
  refine v_get B i_T_makeFromList_4 (by first | assumption | exact qset_self _ _ _ | (rw [qset_ne _ _ (by omega)]; first | assumption | exact qset_self _ _ _ | (rw [qset_ne _ _ (by omega)]; first | assumption | exact qset_self _ _ _ | (rw [qset_ne _ _ (by omega)]; first | assumption | exact qset_self _ _ _ | (rw [qset_ne _ _ (by omega)]; first | assumption | exact qset_self _ _ _ | (rw [qset_ne _ _ (by omega)]; first | assumption | exact qset_self _ _ _ | (rw [qset_ne _ _ (by omega)]; first | assumption | exact qset_self _ _ _))))))) rfl ?_
  refine v_bipush (v := 10) i_T_makeFromList_7 rfl ?_
  refine v_icmp_le (tgt := 26) i_T_makeFromList_9 rfl (fun h9 => ?_) (fun h9 => ?_)
  · refine v_aload_n i_T_makeFromList_26 rfl ?_
    refine v_get B i_T_makeFromList_27 (by first | assumption | exact qset_self _ _ _ | (rw [qset_ne _ _ (by omega)]; first | assumption | exact qset_self _ _ _ | (rw [qset_ne _ _ (by omega)]; first | assumption | exact qset_self _ _ _ | (rw [qset_ne _ _ (by omega)]; first | assumption | exact qset_self _ _ _ | (rw [qset_ne _ _ (by omega)]; first | assumption | exact qset_self _ _ _ | (rw [qset_ne _ _ (by omega)]; first | assumption | exact qset_self _ _ _ | (rw [qset_ne _ _ (by omega)]; first | assumption | exact qset_self _ _ _))))))) rfl ?_
    refine v_get B i_T_makeFromList_30 (by first | assumption | exact qset_self _ _ _ | (rw [qset_ne _ _ (by omega)]; first | assumption | exact qset_self _ _ _ | (rw [qset_ne _ _ (by omega)]; first | assumption | exact qset_self _ _ _ | (rw [qset_ne _ _ (by omega)]; first | assumption | exact qset_self _ _ _ | (rw [qset_ne _ _ (by omega)]; first | assumption | exact qset_self _ _ _ | (rw [qset_ne _ _ (by omega)]; first | assumption | exact qset_self _ _ _ | (rw [qset_ne _ _ (by omega)]; first | assumption | exact qset_self _ _ _))))))) rfl ?_
    have : ¬ 10 < li.length := Nat.not_lt.mpr ((nI_leI (b := 10) (by omega) (by omega)).mp h9)
    rw [show thalf li.length = li.length by unfold thalf; rw [if_neg this]] at go
    exact go
  · refine v_aload_n i_T_makeFromList_12 rfl ?_
    refine v_get B i_T_makeFromList_13 (by first | assumption | exact qset_self _ _ _ | (rw [qset_ne _ _ (by omega)]; first | assumption | exact qset_self _ _ _ | (rw [qset_ne _ _ (by omega)]; first | assumption | exact qset_self _ _ _ | (rw [qset_ne _ _ (by omega)]; first | assumption | exact qset_self _ _ _ | (rw [qset_ne _ _ (by omega)]; first | assumption | exact qset_self _ _ _ | (rw [qset_ne _ _ (by omega)]; first | assumption | exact qset_self _ _ _ | (rw [qset_ne _ _ (by omega)]; first | assumption | exact qset_self _ _ _))))))) rfl ?_
    refine v_get B i_T_makeFromList_16 (by first | assumption | exact qset_self _ _ _ | (rw [qset_ne _ _ (by omega)]; first | assumption | exact qset_self _ _ _ | (rw [qset_ne _ _ (by omega)]; first | assumption | exact qset_self _ _ _ | (rw [qset_ne _ _ (by omega)]; first | assumption | exact qset_self _ _ _ | (rw [qset_ne _ _ (by omega)]; first | assumption | exact qset_self _ _ _ | (rw [qset_ne _ _ (by omega)]; first | assumption | exact qset_self _ _ _ | (rw [qset_ne _ _ (by omega)]; first | assumption | exact qset_self _ _ _))))))) rfl ?_
    refine v_iconst (v := 1) i_T_makeFromList_19 rfl ?_
    refine v_iadd i_T_makeFromList_20 ?_
    refine v_iconst (v := 2) i_T_makeFromList_21 rfl ?_
    refine v_idiv i_T_makeFromList_22 (by decide) ?_
    have h10 : 10 < li.length := by
      have : ¬ li.length ≤ 10 := fun q => h9 (nI_le (b := 10) q (by decide))
      omega
    rw [nI_1, show (2 : Int32) = nI 2 from rfl, pk_div (by omega) (by omega) (by omega)]
    refine v_goto (tgt := 33) i_T_makeFromList_23 rfl ?_
    rw [show thalf li.length = (li.length + 1) / 2 by unfold thalf; rw [if_pos h10]] at go
    exact go
theorem tmkC_0 (made : Nat) (li : qRw) (lev v : Nat) (h : ¬ thalf li.length < li.length) : rwhatAt (tmkC made li lev v) 0 = (nI made).toInt64 := by
  rw [tmkC, if_neg h]; rfl
/-- the root is remade -/
def trrP (pg : Nat → Pg) (made : Nat) (li : qRw) (lev v : Nat) : Nat → Pg := if thalf li.length < li.length then va_up (tmkP pg made li lev v) (made + 2) (lev + 1, v, none, gtk (tmkC made li lev v) v 0 2) else tmkP pg made li lev v
def trrN (made : Nat) (li : qRw) : Nat := if thalf li.length < li.length then made + 3 else made + 1
def trrR (made : Nat) (li : qRw) : Nat := if thalf li.length < li.length then made + 2 else made
theorem c_T_remakeRoot (B : qB l s0 C) (h : TrAt X t cnt pa pg made lat ro pn fe g1 g2 co li db) (hX : t + 24 ≤ X.2) (hm : made + 3 ≤ 256) (lev v : Nat) (hlv : lev < 999) (hv : v < 801) (hli : li.length ≤ 20) :
    qMet l s0 C m_T_remakeRoot rm_T_remakeRoot [.ref t, .int (nI lev), .int (nI v)] X (fun r X' => r = none ∧ ∃ (cnt' : Nat) (pa' : Nat → Nat), TrAt X' t cnt' pa' (trrP pg made li lev v) (trrN made li) lat (va_up ro v (trrR made li)) pn fe g1 g2 (tmkC made li lev v) li db ∧ qFr X X' t cnt pa ∧ qGr X cnt cnt' pa pa') (fun _ _ => False) := by
  obtain ⟨h0, -⟩ := id h
  refine q_of (by decide +kernel) (Nat.le_of_ble_eq_true rfl) ?_
  refine v_L (L' := [(0, .ref t), (1, .int (nI lev)), (2, .int (nI v))]) rfl ?_
  refine v_aload_n i_T_remakeRoot_0 rfl ?_
  refine v_iload_n i_T_remakeRoot_1 rfl ?_
  refine v_iload_n i_T_remakeRoot_2 rfl ?_
  refine v_inv B i_T_remakeRoot_3 kn_m_T_makeFromList (c_T_makeFromList B h hX (by omega) lev v (by omega) (by omega) hli) h0 rfl rfl (Nat.le_of_ble_eq_true rfl) ⟨by decide, by decide, by first | decide | (simp; omega), by first | decide | (simp; omega)⟩ rfl (fun r X' hq => ?_) (fun _ _ h => False.elim h)
  obtain ⟨rfl, cnt2, pa2, h2, f2, gr2⟩ := hq
  have z2 := f2.1
  generalize X' = X2 at h2 f2 z2 ⊢
  obtain ⟨a0, -, -, -, aco, ali, -⟩ := id h2
  obtain ⟨c0, -⟩ := id aco
  have hlen := tmkC_len made li lev v
  refine v_aload_n i_T_remakeRoot_6 rfl ?_
  refine v_get B i_T_remakeRoot_7 (by first | assumption | exact qset_self _ _ _ | (rw [qset_ne _ _ (by omega)]; first | assumption | exact qset_self _ _ _ | (rw [qset_ne _ _ (by omega)]; first | assumption | exact qset_self _ _ _ | (rw [qset_ne _ _ (by omega)]; first | assumption | exact qset_self _ _ _ | (rw [qset_ne _ _ (by omega)]; first | assumption | exact qset_self _ _ _ | (rw [qset_ne _ _ (by omega)]; first | assumption | exact qset_self _ _ _ | (rw [qset_ne _ _ (by omega)]; first | assumption | exact qset_self _ _ _))))))) rfl ?_
  refine v_get B i_T_remakeRoot_10 (by first | assumption | exact qset_self _ _ _ | (rw [qset_ne _ _ (by omega)]; first | assumption | exact qset_self _ _ _ | (rw [qset_ne _ _ (by omega)]; first | assumption | exact qset_self _ _ _ | (rw [qset_ne _ _ (by omega)]; first | assumption | exact qset_self _ _ _ | (rw [qset_ne _ _ (by omega)]; first | assumption | exact qset_self _ _ _ | (rw [qset_ne _ _ (by omega)]; first | assumption | exact qset_self _ _ _ | (rw [qset_ne _ _ (by omega)]; first | assumption | exact qset_self _ _ _))))))) rfl ?_
  refine v_iconst (v := 1) i_T_remakeRoot_13 rfl ?_
  refine v_icmp_ne (tgt := 32) i_T_remakeRoot_14 rfl (fun h14 => ?_) (fun h14 => ?_)
  · have hlt : thalf li.length < li.length := by
      rcases Nat.lt_or_ge (thalf li.length) li.length with q | q
      · exact q
      · rw [hlen, if_neg (by omega)] at h14
        exact absurd rfl h14
    rw [if_pos hlt] at hlen
    have hN : tmkN made li = made + 2 := by rw [tmkN, if_pos hlt]
    rw [hN] at h2 a0
    refine v_aload_n i_T_remakeRoot_32 rfl ?_
    refine v_iload_n i_T_remakeRoot_33 rfl ?_
    refine v_iconst (v := 1) i_T_remakeRoot_34 rfl ?_
    refine v_iadd i_T_remakeRoot_35 ?_
    refine v_iload_n i_T_remakeRoot_36 rfl ?_
    refine v_aload_n i_T_remakeRoot_37 rfl ?_
    refine v_get B i_T_remakeRoot_38 (by first | assumption | exact qset_self _ _ _ | (rw [qset_ne _ _ (by omega)]; first | assumption | exact qset_self _ _ _ | (rw [qset_ne _ _ (by omega)]; first | assumption | exact qset_self _ _ _ | (rw [qset_ne _ _ (by omega)]; first | assumption | exact qset_self _ _ _ | (rw [qset_ne _ _ (by omega)]; first | assumption | exact qset_self _ _ _ | (rw [qset_ne _ _ (by omega)]; first | assumption | exact qset_self _ _ _ | (rw [qset_ne _ _ (by omega)]; first | assumption | exact qset_self _ _ _))))))) rfl ?_
    refine v_iconst (v := 0) i_T_remakeRoot_41 rfl ?_
    refine v_aload_n i_T_remakeRoot_42 rfl ?_
    refine v_get B i_T_remakeRoot_43 (by first | assumption | exact qset_self _ _ _ | (rw [qset_ne _ _ (by omega)]; first | assumption | exact qset_self _ _ _ | (rw [qset_ne _ _ (by omega)]; first | assumption | exact qset_self _ _ _ | (rw [qset_ne _ _ (by omega)]; first | assumption | exact qset_self _ _ _ | (rw [qset_ne _ _ (by omega)]; first | assumption | exact qset_self _ _ _ | (rw [qset_ne _ _ (by omega)]; first | assumption | exact qset_self _ _ _ | (rw [qset_ne _ _ (by omega)]; first | assumption | exact qset_self _ _ _))))))) rfl ?_
    refine v_get B i_T_remakeRoot_46 (by first | assumption | exact qset_self _ _ _ | (rw [qset_ne _ _ (by omega)]; first | assumption | exact qset_self _ _ _ | (rw [qset_ne _ _ (by omega)]; first | assumption | exact qset_self _ _ _ | (rw [qset_ne _ _ (by omega)]; first | assumption | exact qset_self _ _ _ | (rw [qset_ne _ _ (by omega)]; first | assumption | exact qset_self _ _ _ | (rw [qset_ne _ _ (by omega)]; first | assumption | exact qset_self _ _ _ | (rw [qset_ne _ _ (by omega)]; first | assumption | exact qset_self _ _ _))))))) rfl ?_
    rw [nI_1, hlen]
    refine v_inv B i_T_remakeRoot_49 kn_m_T_makePage (c_T_makePage B h2 (by omega) (by omega) (lev + 1) v (by omega) (by omega) (Or.inl ⟨rfl, rfl⟩) 0 2 (by omega) (by omega) (by omega)) a0 rfl rfl (Nat.le_of_ble_eq_true rfl) ⟨by decide, by decide, by first | decide | (simp; omega), by first | decide | (simp; omega)⟩ rfl (fun r X' hq => ?_) (fun _ _ h => False.elim h)
    obtain ⟨cnt3, pa3, rfl, hc3, h3, f3, gr3⟩ := hq
    have f3' := f2.trans f3 gr2
    have gr3' := gr2.trans gr3 z2
    generalize X' = X3 at h3 f3' ⊢
    obtain ⟨b0, -, -, -, -, -, bPG, -⟩ := id h3
    have bP := bPG (made + 2) hc3
    refine v_astore_n i_T_remakeRoot_52 (by decide) rfl ?_
    refine v_aload_n i_T_remakeRoot_53 rfl ?_
    refine v_iload_n i_T_remakeRoot_54 rfl ?_
    refine v_aload_n i_T_remakeRoot_55 rfl ?_
    refine v_get B i_T_remakeRoot_56 bP.1 rfl ?_
    refine v_inv B i_T_remakeRoot_59 kn_m_T_setRoot (c_T_setRoot B h3 v (made + 2) hv (by omega)) b0 rfl rfl (Nat.le_of_ble_eq_true rfl) ⟨by decide, by decide, by first | decide | (simp; omega), by first | decide | (simp; omega)⟩ rfl (fun r X' hq => ?_) (fun _ _ h => False.elim h)
    obtain ⟨rfl, h4, hs4⟩ := hq
    refine v_vret i_T_remakeRoot_62 rfl (by decide) (by decide) ⟨rfl, cnt3, pa3, ?_, f3'.trans (qFr.own (t := t) (cnt := cnt3) (pa := pa3) hs4 (by omega) (by omega)) gr3', gr3'⟩
    rw [trrP, trrN, trrR, if_pos hlt, if_pos hlt, if_pos hlt]
    exact h4
  · have hlt : ¬ thalf li.length < li.length := by
      intro q
      rw [hlen, if_pos q] at h14
      exact absurd h14 (by decide)
    have hN : tmkN made li = made + 1 := by rw [tmkN, if_neg hlt]
    rw [hN] at h2 a0
    refine v_aload_n i_T_remakeRoot_17 rfl ?_
    refine v_iload_n i_T_remakeRoot_18 rfl ?_
    refine v_aload_n i_T_remakeRoot_19 rfl ?_
    refine v_get B i_T_remakeRoot_20 (by first | assumption | exact qset_self _ _ _ | (rw [qset_ne _ _ (by omega)]; first | assumption | exact qset_self _ _ _ | (rw [qset_ne _ _ (by omega)]; first | assumption | exact qset_self _ _ _ | (rw [qset_ne _ _ (by omega)]; first | assumption | exact qset_self _ _ _ | (rw [qset_ne _ _ (by omega)]; first | assumption | exact qset_self _ _ _ | (rw [qset_ne _ _ (by omega)]; first | assumption | exact qset_self _ _ _ | (rw [qset_ne _ _ (by omega)]; first | assumption | exact qset_self _ _ _))))))) rfl ?_
    refine v_iconst (v := 0) i_T_remakeRoot_23 rfl ?_
    refine v_inv B i_T_remakeRoot_24 kn_m_R_whatAt (c_R_whatAt B aco 0) (by first | assumption | exact qset_self _ _ _ | (rw [qset_ne _ _ (by omega)]; first | assumption | exact qset_self _ _ _ | (rw [qset_ne _ _ (by omega)]; first | assumption | exact qset_self _ _ _ | (rw [qset_ne _ _ (by omega)]; first | assumption | exact qset_self _ _ _ | (rw [qset_ne _ _ (by omega)]; first | assumption | exact qset_self _ _ _ | (rw [qset_ne _ _ (by omega)]; first | assumption | exact qset_self _ _ _ | (rw [qset_ne _ _ (by omega)]; first | assumption | exact qset_self _ _ _))))))) rfl rfl (Nat.le_of_ble_eq_true rfl) ⟨by decide, by decide, by first | decide | (simp; omega), by first | decide | (simp; omega)⟩ rfl (fun r X' hq => ?_) (fun _ _ h => False.elim h)
    obtain ⟨rfl, rfl⟩ := hq
    rw [tmkC_0 made li lev v hlt]
    refine v_l2i i_T_remakeRoot_27 ?_
    rw [i64_i32]
    refine v_inv B i_T_remakeRoot_28 kn_m_T_setRoot (c_T_setRoot B h2 v made hv (by omega)) a0 rfl rfl (Nat.le_of_ble_eq_true rfl) ⟨by decide, by decide, by first | decide | (simp; omega), by first | decide | (simp; omega)⟩ rfl (fun r X' hq => ?_) (fun _ _ h => False.elim h)
    obtain ⟨rfl, h4, hs4⟩ := hq
    refine v_vret i_T_remakeRoot_31 rfl (by decide) (by decide) ⟨rfl, cnt2, pa2, ?_, f2.trans (qFr.own (t := t) (cnt := cnt2) (pa := pa2) hs4 (by omega) (by omega)) gr2, gr2⟩
    rw [trrP, trrN, trrR, if_neg hlt, if_neg hlt, if_neg hlt]
    exact h4
end TK
