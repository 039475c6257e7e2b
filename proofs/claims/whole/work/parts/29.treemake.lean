/-! the tree goes back; pages are made; lists -/
/-- what isn't the tree's own has not changed -/
def qFr (X X' : qX) (t cnt : Nat) (pa : Nat → Nat) : Prop := X.2 ≤ X'.2 ∧ ∀ z, z < X.2 → (z < t ∨ t + 15 ≤ z) → (∀ i, i < cnt → z < pa i ∨ pa i + 5 ≤ z) → X'.1 z = X.1 z
theorem qFr.rf (X : qX) (t cnt : Nat) (pa : Nat → Nat) : qFr X X t cnt pa := ⟨Nat.le_refl _, fun _ _ _ _ => rfl⟩
theorem qFr.own {X X' : qX} {t cnt : Nat} {pa : Nat → Nat} {lo hi : Nat} (h : qSame X X' lo hi) (h1 : t ≤ lo) (h2 : hi ≤ t + 15) : qFr X X' t cnt pa := ⟨by rw [h.1]; exact Nat.le_refl _, fun z _ hz _ => h.2 z (by omega)⟩
theorem qFr.page {X X' : qX} {t cnt : Nat} {pa : Nat → Nat} {i : Nat} (h : qSame X X' (pa i) (pa i + 5)) (hi : i < cnt) : qFr X X' t cnt pa := ⟨by rw [h.1]; exact Nat.le_refl _, fun z _ _ hz => h.2 z (hz i hi)⟩
/-- pages that came lie behind what was there -/
def qGr (X : qX) (cnt cnt' : Nat) (pa pa' : Nat → Nat) : Prop := cnt ≤ cnt' ∧ (∀ i, i < cnt → pa' i = pa i) ∧ ∀ i, cnt ≤ i → i < cnt' → X.2 ≤ pa' i
theorem qGr.rf (X : qX) (cnt : Nat) (pa : Nat → Nat) : qGr X cnt cnt pa pa := ⟨Nat.le_refl _, fun _ _ => rfl, fun i h1 h2 => by omega⟩
theorem qFr.trans {X Y Z : qX} {t cnt cnt' : Nat} {pa pa' : Nat → Nat} (h1 : qFr X Y t cnt pa) (h2 : qFr Y Z t cnt' pa') (hg : qGr X cnt cnt' pa pa') : qFr X Z t cnt pa := by
  refine ⟨Nat.le_trans h1.1 h2.1, fun z hz hzt hzp => ?_⟩
  rw [h2.2 z (Nat.lt_of_lt_of_le hz h1.1) hzt (fun i hi => ?_)]
  · exact h1.2 z hz hzt hzp
  · rcases Nat.lt_or_ge i cnt with q | q
    · rw [hg.2.1 i q]; exact hzp i q
    · have := hg.2.2 i q hi; omega
theorem qGr.trans {X Y : qX} {cnt cnt' cnt'' : Nat} {pa pa' pa'' : Nat → Nat} (h1 : qGr X cnt cnt' pa pa') (h2 : qGr Y cnt' cnt'' pa' pa'') (hXY : X.2 ≤ Y.2) : qGr X cnt cnt'' pa pa'' := by
  refine ⟨Nat.le_trans h1.1 h2.1, fun i hi => ?_, fun i hi1 hi2 => ?_⟩
  · rw [h2.2.1 i (Nat.lt_of_lt_of_le hi h1.1)]; exact h1.2.1 i hi
  · rcases Nat.lt_or_ge i cnt' with q | q
    · rw [h2.2.1 i q]; exact h1.2.2 i hi1 q
    · have := h2.2.2 i q hi2; omega
def tmd (pg : Nat → Pg) (v : Nat) : Nat → Nat
  | 0 => 0
  | n + 1 => if 1 ≤ n ∧ v < (pg n).2.1 then tmd pg v n else n + 1
theorem tmd_le (pg : Nat → Pg) (v : Nat) : ∀ n, tmd pg v n ≤ n
  | 0 => Nat.le_refl 0
  | n + 1 => by
    unfold tmd
    split
    · have := tmd_le pg v n; omega
    · omega
theorem tmd_pos (pg : Nat → Pg) (v : Nat) : ∀ n, 1 ≤ n → 1 ≤ tmd pg v n
  | 0, h => by omega
  | n + 1, _ => by
    unfold tmd
    split
    · rename_i q; exact tmd_pos pg v n q.1
    · omega
def tbk (pg : Nat → Pg) (v n : Nat) : Nat → Pg := fun i => if i < n then gback (pg i) v else pg i
theorem tbk_succ (pg : Nat → Pg) (v n : Nat) : va_up (tbk pg v n) n (gback (pg n) v) = tbk pg v (n + 1) := by
  funext i
  unfold va_up tbk
  by_cases h : i = n
  · subst h; rw [if_pos rfl, if_pos (by omega)]
  · rw [if_neg h]
    by_cases h2 : i < n
    · rw [if_pos h2, if_pos (by omega)]
    · rw [if_neg h2, if_neg (by omega)]
section TM
variable {X X' : qX} {t cnt : Nat} {pa : Nat → Nat} {pg : Nat → Pg} {made lat : Nat} {ro : Nat → Nat} {pn : Nat → Option Nat} {fe : Int64} {g1 g2 : Int32} {co li : qRw} {db : Nat}
variable {l : Launch} {s0 : State} {C : qC}
theorem c_T_goBackTo_2 (B : qB l s0 C) (v m : Nat) (hv : v ≤ 800) : ∀ (j n : Nat) (X' : qX), n + j = m → TrAt X' t cnt pa (tbk pg v n) m lat ro pn fe g1 g2 co li db → qFr X X' t cnt pa →
      qV l s0 C m_T_goBackTo rm_T_goBackTo (fun r X'' => r = none ∧ TrAt X'' t cnt pa (tbk pg v m) m v ro pn fe g1 g2 co li (min db (v + 1)) ∧ qFr X X'' t cnt pa) (fun _ _ => False) 0 0 X' 41 [(0, .ref t), (1, .int (nI v)), (2, .int (nI n))] [] := by
  intro j
  induction j with
  | zero =>
    intro n X' hn h hs
    obtain ⟨h0, -, -, -, -, -, hPG, ⟨m1, m2, m3, m4, m5⟩, -⟩ := id h
    refine v_iload_n i_T_goBackTo_41 rfl ?_
    refine v_aload_n i_T_goBackTo_42 rfl ?_
    refine v_get B i_T_goBackTo_43 (by first | assumption | exact qset_self _ _ _ | (rw [qset_ne _ _ (by omega)]; first | assumption | exact qset_self _ _ _ | (rw [qset_ne _ _ (by omega)]; first | assumption | exact qset_self _ _ _ | (rw [qset_ne _ _ (by omega)]; first | assumption | exact qset_self _ _ _ | (rw [qset_ne _ _ (by omega)]; first | assumption | exact qset_self _ _ _ | (rw [qset_ne _ _ (by omega)]; first | assumption | exact qset_self _ _ _ | (rw [qset_ne _ _ (by omega)]; first | assumption | exact qset_self _ _ _))))))) rfl ?_
    refine v_icmp_ge (tgt := 65) i_T_goBackTo_46 rfl (fun h46 => ?_) (fun h46 => ?_)
    · refine v_aload_n i_T_goBackTo_65 rfl ?_
      refine v_iload_n i_T_goBackTo_66 rfl ?_
      refine v_put B i_T_goBackTo_67 (by first | assumption | exact qset_self _ _ _ | (rw [qset_ne _ _ (by omega)]; first | assumption | exact qset_self _ _ _ | (rw [qset_ne _ _ (by omega)]; first | assumption | exact qset_self _ _ _ | (rw [qset_ne _ _ (by omega)]; first | assumption | exact qset_self _ _ _ | (rw [qset_ne _ _ (by omega)]; first | assumption | exact qset_self _ _ _ | (rw [qset_ne _ _ (by omega)]; first | assumption | exact qset_self _ _ _ | (rw [qset_ne _ _ (by omega)]; first | assumption | exact qset_self _ _ _))))))) (Nat.le_of_ble_eq_true rfl) rfl rfl ?_
      have h2 := h.obj (fs := [Value.ref (t + 1), .ref (t + 6), .ref (t + 7), .int (nI m), .int (nI lat), .ref (t + 8), .long fe, .int g1, .int g2, .ref (t + 9), .ref (t + 12), .int (nI db)].set 4 (.int (nI v))) (lat' := v) rfl ⟨m1, m2⟩ hv m5
      have hs2 : qFr X (qset X' t (.inr (3, [Value.ref (t + 1), .ref (t + 6), .ref (t + 7), .int (nI m), .int (nI lat), .ref (t + 8), .long fe, .int g1, .int g2, .ref (t + 9), .ref (t + 12), .int (nI db)].set 4 (.int (nI v))))) t cnt pa := hs.trans (qFr.own ((qSame.rf X' t (t + 1)).set _ (by omega) (by omega)) (by omega) (by omega)) (qGr.rf X cnt pa)
      generalize qset X' t (.inr (3, [Value.ref (t + 1), .ref (t + 6), .ref (t + 7), .int (nI m), .int (nI lat), .ref (t + 8), .long fe, .int g1, .int g2, .ref (t + 9), .ref (t + 12), .int (nI db)].set 4 (.int (nI v)))) = X2 at h2 hs2 ⊢
      obtain ⟨k0, -⟩ := id h2
      refine v_aload_n i_T_goBackTo_70 rfl ?_
      refine v_aload_n i_T_goBackTo_71 rfl ?_
      refine v_get B i_T_goBackTo_72 (by first | assumption | exact qset_self _ _ _ | (rw [qset_ne _ _ (by omega)]; first | assumption | exact qset_self _ _ _ | (rw [qset_ne _ _ (by omega)]; first | assumption | exact qset_self _ _ _ | (rw [qset_ne _ _ (by omega)]; first | assumption | exact qset_self _ _ _ | (rw [qset_ne _ _ (by omega)]; first | assumption | exact qset_self _ _ _ | (rw [qset_ne _ _ (by omega)]; first | assumption | exact qset_self _ _ _ | (rw [qset_ne _ _ (by omega)]; first | assumption | exact qset_self _ _ _))))))) rfl ?_
      refine v_iload_n i_T_goBackTo_75 rfl ?_
      refine v_iconst (v := 1) i_T_goBackTo_76 rfl ?_
      refine v_iadd i_T_goBackTo_77 ?_
      rw [nI_1]
      refine v_invS B i_T_goBackTo_78 kn_m_J_minI (c_J_minI (nI db) (nI (v + 1))) rfl rfl (Nat.le_of_ble_eq_true rfl) ⟨by decide, by decide, by first | decide | (simp; omega), by first | decide | (simp; omega)⟩ rfl (fun r X' hq => ?_) (fun _ _ h => False.elim h)
      obtain ⟨rfl, rfl⟩ := hq
      have hmin : imin (nI db) (nI (v + 1)) = nI (min db (v + 1)) := by
        rw [imin]
        by_cases hq : v + 1 < db
        · rw [if_pos (nI_lt hq (by omega)), Nat.min_eq_right (by omega)]
        · rw [if_neg (nI_nlt (by omega) (by omega)), Nat.min_eq_left (by omega)]
      rw [hmin]
      refine v_put B i_T_goBackTo_81 (by first | assumption | exact qset_self _ _ _ | (rw [qset_ne _ _ (by omega)]; first | assumption | exact qset_self _ _ _ | (rw [qset_ne _ _ (by omega)]; first | assumption | exact qset_self _ _ _ | (rw [qset_ne _ _ (by omega)]; first | assumption | exact qset_self _ _ _ | (rw [qset_ne _ _ (by omega)]; first | assumption | exact qset_self _ _ _ | (rw [qset_ne _ _ (by omega)]; first | assumption | exact qset_self _ _ _ | (rw [qset_ne _ _ (by omega)]; first | assumption | exact qset_self _ _ _))))))) (Nat.le_of_ble_eq_true rfl) rfl rfl ?_
      refine v_vret i_T_goBackTo_84 rfl (by decide) (by decide) ⟨rfl, ?_, hs2.trans (qFr.own ((qSame.rf X2 t (t + 1)).set _ (by omega) (by omega)) (by omega) (by omega)) (qGr.rf X cnt pa)⟩
      have h3 := h2.obj (fs := [Value.ref (t + 1), .ref (t + 6), .ref (t + 7), .int (nI m), .int (nI v), .ref (t + 8), .long fe, .int g1, .int g2, .ref (t + 9), .ref (t + 12), .int (nI db)].set 11 (.int (nI (min db (v + 1))))) (db' := min db (v + 1)) rfl ⟨m1, m2⟩ hv (by omega)
      rw [show n = m by omega] at h3
      exact h3
    · exact absurd (nI_le (by omega) (by omega)) h46
  | succ j ih =>
    intro n X' hn h hs
    obtain ⟨h0, -, -, -, -, -, hPG, ⟨m1, m2, m3, m4, m5⟩, -⟩ := id h
    refine v_iload_n i_T_goBackTo_41 rfl ?_
    refine v_aload_n i_T_goBackTo_42 rfl ?_
    refine v_get B i_T_goBackTo_43 (by first | assumption | exact qset_self _ _ _ | (rw [qset_ne _ _ (by omega)]; first | assumption | exact qset_self _ _ _ | (rw [qset_ne _ _ (by omega)]; first | assumption | exact qset_self _ _ _ | (rw [qset_ne _ _ (by omega)]; first | assumption | exact qset_self _ _ _ | (rw [qset_ne _ _ (by omega)]; first | assumption | exact qset_self _ _ _ | (rw [qset_ne _ _ (by omega)]; first | assumption | exact qset_self _ _ _ | (rw [qset_ne _ _ (by omega)]; first | assumption | exact qset_self _ _ _))))))) rfl ?_
    refine v_icmp_ge (tgt := 65) i_T_goBackTo_46 rfl (fun h46 => ?_) (fun h46 => ?_)
    · exact absurd h46 (nI_ge (by omega) (by omega))
    refine v_aload_n i_T_goBackTo_49 rfl ?_
    refine v_iload_n i_T_goBackTo_50 rfl ?_
    refine v_i2l i_T_goBackTo_51 ?_
    refine v_inv B i_T_goBackTo_52 kn_m_T_pageAt (c_T_pageAt B h (nI n).toInt64) (by first | assumption | exact qset_self _ _ _ | (rw [qset_ne _ _ (by omega)]; first | assumption | exact qset_self _ _ _ | (rw [qset_ne _ _ (by omega)]; first | assumption | exact qset_self _ _ _ | (rw [qset_ne _ _ (by omega)]; first | assumption | exact qset_self _ _ _ | (rw [qset_ne _ _ (by omega)]; first | assumption | exact qset_self _ _ _ | (rw [qset_ne _ _ (by omega)]; first | assumption | exact qset_self _ _ _ | (rw [qset_ne _ _ (by omega)]; first | assumption | exact qset_self _ _ _))))))) rfl rfl (Nat.le_of_ble_eq_true rfl) ⟨by decide, by decide, by first | decide | (simp; omega), by first | decide | (simp; omega)⟩ rfl (fun r X' hq => ?_) (fun _ _ h => False.elim h)
    obtain ⟨rfl, rfl⟩ := hq
    rw [tpn_nI (by omega) (by omega)]
    have hP := hPG n (by omega)
    rw [show tbk pg v n n = pg n by unfold tbk; rw [if_neg (Nat.lt_irrefl n)]] at hP
    refine v_iload_n i_T_goBackTo_55 rfl ?_
    refine v_inv B i_T_goBackTo_56 kn_m_G_goBackTo (c_G_goBackTo B hP v (by omega)) hP.1 rfl rfl (Nat.le_of_ble_eq_true rfl) ⟨by decide, by decide, by first | decide | (simp; omega), by first | decide | (simp; omega)⟩ rfl (fun r X' hq => ?_) (fun _ _ h => False.elim h)
    obtain ⟨rfl, hP2, hs2⟩ := hq
    have h3 := h.page (by omega) hs2 hP2
    rw [tbk_succ] at h3
    refine v_iinc (v := nI (n + 1)) i_T_goBackTo_59 rfl (nI_1 n) (by decide) rfl ?_
    refine v_goto (tgt := 41) i_T_goBackTo_62 rfl ?_
    refine v_loc [(0, .ref t), (1, .int (nI v)), (2, .int (nI (n + 1)))] rfl ?_
    exact ih (n + 1) _ (by omega) h3 (hs.trans (qFr.page hs2 (by omega)) (qGr.rf X cnt pa))
theorem c_T_goBackTo_1 (B : qB l s0 C) (v m0 : Nat) (hv : v ≤ 800) : ∀ (m : Nat) (X' : qX), tmd pg v m0 = tmd pg v (m + 1) → TrAt X' t cnt pa pg (m + 1) lat ro pn fe g1 g2 co li db → qFr X X' t cnt pa →
      qV l s0 C m_T_goBackTo rm_T_goBackTo (fun r X'' => r = none ∧ TrAt X'' t cnt pa (tbk pg v (tmd pg v m0)) (tmd pg v m0) v ro pn fe g1 g2 co li (min db (v + 1)) ∧ qFr X X'' t cnt pa) (fun _ _ => False) 0 0 X' 0 [(0, .ref t), (1, .int (nI v))] [] := by
  have go : ∀ (m : Nat) (X' : qX), tmd pg v m0 = m → TrAt X' t cnt pa pg m lat ro pn fe g1 g2 co li db → qFr X X' t cnt pa →
      qV l s0 C m_T_goBackTo rm_T_goBackTo (fun r X'' => r = none ∧ TrAt X'' t cnt pa (tbk pg v (tmd pg v m0)) (tmd pg v m0) v ro pn fe g1 g2 co li (min db (v + 1)) ∧ qFr X X'' t cnt pa) (fun _ _ => False) 0 0 X' 39 [(0, .ref t), (1, .int (nI v))] [] := by
    intro m X' hm h hs
    rw [hm]
    refine v_iconst (v := 0) i_T_goBackTo_39 rfl ?_
    refine v_istore_n i_T_goBackTo_40 (by decide) rfl ?_
    refine v_loc [(0, .ref t), (1, .int (nI v)), (2, .int (nI 0))] rfl ?_
    refine c_T_goBackTo_2 B (lat := lat) v m hv m 0 X' (by omega) ?_ hs
    have : tbk pg v 0 = pg := by funext i; unfold tbk; rw [if_neg (Nat.not_lt_zero i)]
    rw [this]
    exact h
  intro m
  induction m with
  | zero =>
    intro X' hm h hs
    obtain ⟨h0, -⟩ := id h
    refine v_aload_n i_T_goBackTo_0 rfl ?_
    refine v_get B i_T_goBackTo_1 (by first | assumption | exact qset_self _ _ _ | (rw [qset_ne _ _ (by omega)]; first | assumption | exact qset_self _ _ _ | (rw [qset_ne _ _ (by omega)]; first | assumption | exact qset_self _ _ _ | (rw [qset_ne _ _ (by omega)]; first | assumption | exact qset_self _ _ _ | (rw [qset_ne _ _ (by omega)]; first | assumption | exact qset_self _ _ _ | (rw [qset_ne _ _ (by omega)]; first | assumption | exact qset_self _ _ _ | (rw [qset_ne _ _ (by omega)]; first | assumption | exact qset_self _ _ _))))))) rfl ?_
    refine v_iconst (v := 1) i_T_goBackTo_4 rfl ?_
    refine v_icmp_le (tgt := 39) i_T_goBackTo_5 rfl (fun h5 => ?_) (fun h5 => ?_)
    · refine go 1 X' ?_ h hs
      rw [hm]; rfl
    · exact absurd (by decide) h5
  | succ m ih =>
    intro X' hm h hs
    obtain ⟨h0, -, -, -, -, -, hPG, ⟨m1, m2, m3, m4, m5⟩, -⟩ := id h
    refine v_aload_n i_T_goBackTo_0 rfl ?_
    refine v_get B i_T_goBackTo_1 (by first | assumption | exact qset_self _ _ _ | (rw [qset_ne _ _ (by omega)]; first | assumption | exact qset_self _ _ _ | (rw [qset_ne _ _ (by omega)]; first | assumption | exact qset_self _ _ _ | (rw [qset_ne _ _ (by omega)]; first | assumption | exact qset_self _ _ _ | (rw [qset_ne _ _ (by omega)]; first | assumption | exact qset_self _ _ _ | (rw [qset_ne _ _ (by omega)]; first | assumption | exact qset_self _ _ _ | (rw [qset_ne _ _ (by omega)]; first | assumption | exact qset_self _ _ _))))))) rfl ?_
    refine v_iconst (v := 1) i_T_goBackTo_4 rfl ?_
    refine v_icmp_le (tgt := 39) i_T_goBackTo_5 rfl (fun h5 => ?_) (fun h5 => ?_)
    · exact absurd h5 (nI_ge (a := 1) (b := m + 1 + 1) (by omega) (by omega))
    refine v_aload_n i_T_goBackTo_8 rfl ?_
    refine v_aload_n i_T_goBackTo_9 rfl ?_
    refine v_get B i_T_goBackTo_10 (by first | assumption | exact qset_self _ _ _ | (rw [qset_ne _ _ (by omega)]; first | assumption | exact qset_self _ _ _ | (rw [qset_ne _ _ (by omega)]; first | assumption | exact qset_self _ _ _ | (rw [qset_ne _ _ (by omega)]; first | assumption | exact qset_self _ _ _ | (rw [qset_ne _ _ (by omega)]; first | assumption | exact qset_self _ _ _ | (rw [qset_ne _ _ (by omega)]; first | assumption | exact qset_self _ _ _ | (rw [qset_ne _ _ (by omega)]; first | assumption | exact qset_self _ _ _))))))) rfl ?_
    refine v_iconst (v := 1) i_T_goBackTo_13 rfl ?_
    refine v_isub i_T_goBackTo_14 ?_
    refine v_i2l i_T_goBackTo_15 ?_
    rw [nI_pred]
    refine v_inv B i_T_goBackTo_16 kn_m_T_pageAt (c_T_pageAt B h (nI (m + 1)).toInt64) (by first | assumption | exact qset_self _ _ _ | (rw [qset_ne _ _ (by omega)]; first | assumption | exact qset_self _ _ _ | (rw [qset_ne _ _ (by omega)]; first | assumption | exact qset_self _ _ _ | (rw [qset_ne _ _ (by omega)]; first | assumption | exact qset_self _ _ _ | (rw [qset_ne _ _ (by omega)]; first | assumption | exact qset_self _ _ _ | (rw [qset_ne _ _ (by omega)]; first | assumption | exact qset_self _ _ _ | (rw [qset_ne _ _ (by omega)]; first | assumption | exact qset_self _ _ _))))))) rfl rfl (Nat.le_of_ble_eq_true rfl) ⟨by decide, by decide, by first | decide | (simp; omega), by first | decide | (simp; omega)⟩ rfl (fun r X' hq => ?_) (fun _ _ h => False.elim h)
    obtain ⟨rfl, rfl⟩ := hq
    rw [tpn_nI (by omega) (by omega)]
    have hP := hPG (m + 1) (by omega)
    obtain ⟨p0, ⟨ok1, ok2, -⟩, -⟩ := id hP
    refine v_get B i_T_goBackTo_19 p0 rfl ?_
    refine v_iload_n i_T_goBackTo_22 rfl ?_
    refine v_icmp_le (tgt := 39) i_T_goBackTo_23 rfl (fun h23 => ?_) (fun h23 => ?_)
    · refine go (m + 1 + 1) X' ?_ h hs
      have : ¬ v < (pg (m + 1)).2.1 := Nat.not_lt.mpr ((nI_leI (by omega) (by omega)).mp h23)
      rw [hm, tmd, if_neg (fun q => this q.2)]
    · refine v_aload_n i_T_goBackTo_26 rfl ?_
      refine v_dup i_T_goBackTo_27 rfl ?_
      refine v_get B i_T_goBackTo_28 (by first | assumption | exact qset_self _ _ _ | (rw [qset_ne _ _ (by omega)]; first | assumption | exact qset_self _ _ _ | (rw [qset_ne _ _ (by omega)]; first | assumption | exact qset_self _ _ _ | (rw [qset_ne _ _ (by omega)]; first | assumption | exact qset_self _ _ _ | (rw [qset_ne _ _ (by omega)]; first | assumption | exact qset_self _ _ _ | (rw [qset_ne _ _ (by omega)]; first | assumption | exact qset_self _ _ _ | (rw [qset_ne _ _ (by omega)]; first | assumption | exact qset_self _ _ _))))))) rfl ?_
      refine v_iconst (v := 1) i_T_goBackTo_31 rfl ?_
      refine v_isub i_T_goBackTo_32 ?_
      rw [nI_pred]
      refine v_put B i_T_goBackTo_33 (by first | assumption | exact qset_self _ _ _ | (rw [qset_ne _ _ (by omega)]; first | assumption | exact qset_self _ _ _ | (rw [qset_ne _ _ (by omega)]; first | assumption | exact qset_self _ _ _ | (rw [qset_ne _ _ (by omega)]; first | assumption | exact qset_self _ _ _ | (rw [qset_ne _ _ (by omega)]; first | assumption | exact qset_self _ _ _ | (rw [qset_ne _ _ (by omega)]; first | assumption | exact qset_self _ _ _ | (rw [qset_ne _ _ (by omega)]; first | assumption | exact qset_self _ _ _))))))) (Nat.le_of_ble_eq_true rfl) rfl rfl ?_
      refine v_goto (tgt := 0) i_T_goBackTo_36 rfl ?_
      refine ih _ ?_ (h.obj rfl ⟨by omega, by omega⟩ m4 m5) (hs.trans (qFr.own ((qSame.rf X' t (t + 1)).set _ (by omega) (by omega)) (by omega) (by omega)) (qGr.rf X cnt pa))
      have : v < (pg (m + 1)).2.1 := Nat.lt_of_not_le (fun q => h23 (nI_le q (by omega)))
      rw [hm, tmd, if_pos ⟨by omega, this⟩]
theorem c_T_goBackTo (B : qB l s0 C) (h : TrAt X t cnt pa pg made lat ro pn fe g1 g2 co li db) (v : Nat) (hv : v ≤ 800) : qMet l s0 C m_T_goBackTo rm_T_goBackTo [.ref t, .int (nI v)] X (fun r X' => r = none ∧ TrAt X' t cnt pa (tbk pg v (tmd pg v made)) (tmd pg v made) v ro pn fe g1 g2 co li (min db (v + 1)) ∧ qFr X X' t cnt pa) (fun _ _ => False) := by
  obtain ⟨-, -, -, -, -, -, -, ⟨m1, m2, m3, m4, m5⟩, -⟩ := id h
  refine q_of (by decide +kernel) (Nat.le_of_ble_eq_true rfl) ?_
  refine v_L (L' := [(0, .ref t), (1, .int (nI v))]) rfl ?_
  obtain ⟨m, rfl⟩ : ∃ m, made = m + 1 := ⟨made - 1, by omega⟩
  exact c_T_goBackTo_1 B v (m + 1) hv m X rfl h (qFr.rf X t cnt pa)
/-- what stays of a page: entries alive that don't go -/
def tls (es : List Ent) (v : Nat) (g1 g2 : Int32) : Nat → qRw
  | 0 => []
  | n + 1 => if alv (en es n) v = true ∧ ¬ nI n = g1 ∧ ¬ nI n = g2 then rins (tls es v g1 g2 n) (en es n).1 (en es n).2.2.2 else tls es v g1 g2 n
theorem tls_len (es : List Ent) (v : Nat) (g1 g2 : Int32) : ∀ n, (tls es v g1 g2 n).length ≤ n
  | 0 => Nat.le_refl 0
  | n + 1 => by
    have := tls_len es v g1 g2 n
    unfold tls
    split
    · rw [rins_len]; omega
    · omega
/-- and what comes -/
def tlc (R co : qRw) : Nat → qRw
  | 0 => R
  | n + 1 => rins (tlc R co n) (rk co n) (rv co n)
theorem tlc_len (R co : qRw) : ∀ n, (tlc R co n).length = R.length + n
  | 0 => rfl
  | n + 1 => by
    have := tlc_len R co n
    unfold tlc
    rw [rins_len]; omega
def tlist (P : Pg) (v : Nat) (g1 g2 : Int32) (co : qRw) : qRw := tlc (tls P.2.2.2 v g1 g2 P.2.2.2.length) co co.length
theorem i64_i32 (x : Int32) : x.toInt64.toInt32 = x := by simp
theorem gwhatAt_nI {P : Pg} {j : Nat} (h : j < P.2.2.2.length) (hl : P.2.2.2.length ≤ 16) : gwhatAt P (nI j) = (en P.2.2.2 j).2.2.2 := by
  rw [gwhatAt, if_pos ⟨nI_pos' (by omega), nI_lt h (by omega)⟩, nI_clamp (by omega)]
theorem rkeyAt_nI {R : qRw} {j : Nat} (h : j < R.length) (hl : R.length < 2 ^ 31) : rkeyAt R (nI j) = (rk R j).toInt64 := by
  rw [rkeyAt, if_pos ⟨nI_pos' (by omega), nI_lt h (by omega)⟩, nI_clamp (by omega)]
theorem rwhatAt_nI {R : qRw} {j : Nat} (h : j < R.length) (hl : R.length < 2 ^ 31) : rwhatAt R (nI j) = rv R j := by
  rw [rwhatAt, if_pos ⟨nI_pos' (by omega), nI_lt h (by omega)⟩, nI_clamp (by omega)]
theorem c_T_listWhatStays_2 (B : qB l s0 C) (R : qRw) (hR : R.length ≤ 16) (p : Nat) : ∀ (j n : Nat) (X' : qX), n + j = co.length → TrAt X' t cnt pa pg made lat ro pn fe g1 g2 co (tlc R co n) db → qSame X X' (t + 12) (t + 15) →
      qV l s0 C m_T_listWhatStays rm_T_listWhatStays (fun r X'' => r = none ∧ TrAt X'' t cnt pa pg made lat ro pn fe g1 g2 co (tlc R co co.length) db ∧ qSame X X'' (t + 12) (t + 15)) (fun _ _ => False) 0 0 X' 70 [(0, .ref t), (1, .ref (pa p)), (2, .int (nI n))] [] := by
  intro j
  induction j with
  | zero =>
    intro n X' hn h hs
    obtain ⟨h0, -, -, -, hco, hli, -⟩ := id h
    obtain ⟨c0, cc, -⟩ := id hco
    refine v_iload_n i_T_listWhatStays_70 rfl ?_
    refine v_aload_n i_T_listWhatStays_71 rfl ?_
    refine v_get B i_T_listWhatStays_72 (by first | assumption | exact qset_self _ _ _ | (rw [qset_ne _ _ (by omega)]; first | assumption | exact qset_self _ _ _ | (rw [qset_ne _ _ (by omega)]; first | assumption | exact qset_self _ _ _ | (rw [qset_ne _ _ (by omega)]; first | assumption | exact qset_self _ _ _ | (rw [qset_ne _ _ (by omega)]; first | assumption | exact qset_self _ _ _ | (rw [qset_ne _ _ (by omega)]; first | assumption | exact qset_self _ _ _ | (rw [qset_ne _ _ (by omega)]; first | assumption | exact qset_self _ _ _))))))) rfl ?_
    refine v_get B i_T_listWhatStays_75 (by first | assumption | exact qset_self _ _ _ | (rw [qset_ne _ _ (by omega)]; first | assumption | exact qset_self _ _ _ | (rw [qset_ne _ _ (by omega)]; first | assumption | exact qset_self _ _ _ | (rw [qset_ne _ _ (by omega)]; first | assumption | exact qset_self _ _ _ | (rw [qset_ne _ _ (by omega)]; first | assumption | exact qset_self _ _ _ | (rw [qset_ne _ _ (by omega)]; first | assumption | exact qset_self _ _ _ | (rw [qset_ne _ _ (by omega)]; first | assumption | exact qset_self _ _ _))))))) rfl ?_
    refine v_icmp_ge (tgt := 111) i_T_listWhatStays_78 rfl (fun h78 => ?_) (fun h78 => ?_)
    · refine v_vret i_T_listWhatStays_111 rfl (by decide) (by decide) ⟨rfl, ?_, hs⟩
      rw [show co.length = n by omega]
      exact h
    · exact absurd (nI_le (by omega) (by omega)) h78
  | succ j ih =>
    intro n X' hn h hs
    obtain ⟨h0, -, -, -, hco, hli, -⟩ := id h
    obtain ⟨c0, cc, -⟩ := id hco
    refine v_iload_n i_T_listWhatStays_70 rfl ?_
    refine v_aload_n i_T_listWhatStays_71 rfl ?_
    refine v_get B i_T_listWhatStays_72 (by first | assumption | exact qset_self _ _ _ | (rw [qset_ne _ _ (by omega)]; first | assumption | exact qset_self _ _ _ | (rw [qset_ne _ _ (by omega)]; first | assumption | exact qset_self _ _ _ | (rw [qset_ne _ _ (by omega)]; first | assumption | exact qset_self _ _ _ | (rw [qset_ne _ _ (by omega)]; first | assumption | exact qset_self _ _ _ | (rw [qset_ne _ _ (by omega)]; first | assumption | exact qset_self _ _ _ | (rw [qset_ne _ _ (by omega)]; first | assumption | exact qset_self _ _ _))))))) rfl ?_
    refine v_get B i_T_listWhatStays_75 (by first | assumption | exact qset_self _ _ _ | (rw [qset_ne _ _ (by omega)]; first | assumption | exact qset_self _ _ _ | (rw [qset_ne _ _ (by omega)]; first | assumption | exact qset_self _ _ _ | (rw [qset_ne _ _ (by omega)]; first | assumption | exact qset_self _ _ _ | (rw [qset_ne _ _ (by omega)]; first | assumption | exact qset_self _ _ _ | (rw [qset_ne _ _ (by omega)]; first | assumption | exact qset_self _ _ _ | (rw [qset_ne _ _ (by omega)]; first | assumption | exact qset_self _ _ _))))))) rfl ?_
    refine v_icmp_ge (tgt := 111) i_T_listWhatStays_78 rfl (fun h78 => ?_) (fun h78 => ?_)
    · exact absurd h78 (nI_ge (by omega) (by omega))
    refine v_aload_n i_T_listWhatStays_81 rfl ?_
    refine v_get B i_T_listWhatStays_82 (by first | assumption | exact qset_self _ _ _ | (rw [qset_ne _ _ (by omega)]; first | assumption | exact qset_self _ _ _ | (rw [qset_ne _ _ (by omega)]; first | assumption | exact qset_self _ _ _ | (rw [qset_ne _ _ (by omega)]; first | assumption | exact qset_self _ _ _ | (rw [qset_ne _ _ (by omega)]; first | assumption | exact qset_self _ _ _ | (rw [qset_ne _ _ (by omega)]; first | assumption | exact qset_self _ _ _ | (rw [qset_ne _ _ (by omega)]; first | assumption | exact qset_self _ _ _))))))) rfl ?_
    refine v_aload_n i_T_listWhatStays_85 rfl ?_
    refine v_get B i_T_listWhatStays_86 (by first | assumption | exact qset_self _ _ _ | (rw [qset_ne _ _ (by omega)]; first | assumption | exact qset_self _ _ _ | (rw [qset_ne _ _ (by omega)]; first | assumption | exact qset_self _ _ _ | (rw [qset_ne _ _ (by omega)]; first | assumption | exact qset_self _ _ _ | (rw [qset_ne _ _ (by omega)]; first | assumption | exact qset_self _ _ _ | (rw [qset_ne _ _ (by omega)]; first | assumption | exact qset_self _ _ _ | (rw [qset_ne _ _ (by omega)]; first | assumption | exact qset_self _ _ _))))))) rfl ?_
    refine v_iload_n i_T_listWhatStays_89 rfl ?_
    refine v_inv B i_T_listWhatStays_90 kn_m_R_keyAt (c_R_keyAt B hco (nI n)) (by first | assumption | exact qset_self _ _ _ | (rw [qset_ne _ _ (by omega)]; first | assumption | exact qset_self _ _ _ | (rw [qset_ne _ _ (by omega)]; first | assumption | exact qset_self _ _ _ | (rw [qset_ne _ _ (by omega)]; first | assumption | exact qset_self _ _ _ | (rw [qset_ne _ _ (by omega)]; first | assumption | exact qset_self _ _ _ | (rw [qset_ne _ _ (by omega)]; first | assumption | exact qset_self _ _ _ | (rw [qset_ne _ _ (by omega)]; first | assumption | exact qset_self _ _ _))))))) rfl rfl (Nat.le_of_ble_eq_true rfl) ⟨by decide, by decide, by first | decide | (simp; omega), by first | decide | (simp; omega)⟩ rfl (fun r X' hq => ?_) (fun _ _ h => False.elim h)
    obtain ⟨rfl, rfl⟩ := hq
    rw [rkeyAt_nI (by omega) (by omega)]
    refine v_l2i i_T_listWhatStays_93 ?_
    refine v_aload_n i_T_listWhatStays_94 rfl ?_
    refine v_get B i_T_listWhatStays_95 (by first | assumption | exact qset_self _ _ _ | (rw [qset_ne _ _ (by omega)]; first | assumption | exact qset_self _ _ _ | (rw [qset_ne _ _ (by omega)]; first | assumption | exact qset_self _ _ _ | (rw [qset_ne _ _ (by omega)]; first | assumption | exact qset_self _ _ _ | (rw [qset_ne _ _ (by omega)]; first | assumption | exact qset_self _ _ _ | (rw [qset_ne _ _ (by omega)]; first | assumption | exact qset_self _ _ _ | (rw [qset_ne _ _ (by omega)]; first | assumption | exact qset_self _ _ _))))))) rfl ?_
    refine v_iload_n i_T_listWhatStays_98 rfl ?_
    refine v_inv B i_T_listWhatStays_99 kn_m_R_whatAt (c_R_whatAt B hco (nI n)) (by first | assumption | exact qset_self _ _ _ | (rw [qset_ne _ _ (by omega)]; first | assumption | exact qset_self _ _ _ | (rw [qset_ne _ _ (by omega)]; first | assumption | exact qset_self _ _ _ | (rw [qset_ne _ _ (by omega)]; first | assumption | exact qset_self _ _ _ | (rw [qset_ne _ _ (by omega)]; first | assumption | exact qset_self _ _ _ | (rw [qset_ne _ _ (by omega)]; first | assumption | exact qset_self _ _ _ | (rw [qset_ne _ _ (by omega)]; first | assumption | exact qset_self _ _ _))))))) rfl rfl (Nat.le_of_ble_eq_true rfl) ⟨by decide, by decide, by first | decide | (simp; omega), by first | decide | (simp; omega)⟩ rfl (fun r X' hq => ?_) (fun _ _ h => False.elim h)
    obtain ⟨rfl, rfl⟩ := hq
    rw [rwhatAt_nI (by omega) (by omega), i64_i32]
    have hlen := tlc_len R co n
    refine v_inv B i_T_listWhatStays_102 kn_m_R_insert (c_R_insert B hli (rk co n) (rv co n) (by omega)) hli.1 rfl rfl (Nat.le_of_ble_eq_true rfl) ⟨by decide, by decide, by first | decide | (simp; omega), by first | decide | (simp; omega)⟩ rfl (fun r X' hq => ?_) (fun _ _ h => False.elim h)
    obtain ⟨rfl, hr2, hs2⟩ := hq
    refine v_iinc (v := nI (n + 1)) i_T_listWhatStays_105 rfl (nI_1 n) (by decide) rfl ?_
    refine v_goto (tgt := 70) i_T_listWhatStays_108 rfl ?_
    refine v_loc [(0, .ref t), (1, .ref (pa p)), (2, .int (nI (n + 1)))] rfl ?_
    exact ih (n + 1) _ (by omega) (h.list hs2 hr2) (hs.trans hs2)
theorem c_T_listWhatStays_1 (B : qB l s0 C) (p : Nat) (hp : p < cnt) : ∀ (j n : Nat) (X' : qX), n + j = (pg p).2.2.2.length → TrAt X' t cnt pa pg made lat ro pn fe g1 g2 co (tls (pg p).2.2.2 lat g1 g2 n) db → qSame X X' (t + 12) (t + 15) →
      qV l s0 C m_T_listWhatStays rm_T_listWhatStays (fun r X'' => r = none ∧ TrAt X'' t cnt pa pg made lat ro pn fe g1 g2 co (tlist (pg p) lat g1 g2 co) db ∧ qSame X X'' (t + 12) (t + 15)) (fun _ _ => False) 0 0 X' 9 [(0, .ref t), (1, .ref (pa p)), (2, .int (nI n))] [] := by
  intro j
  induction j with
  | zero =>
    intro n X' hn h hs
    obtain ⟨h0, -, -, -, hco, hli, hPG, -⟩ := id h
    obtain ⟨p0, ⟨ok1, ok2, ok3, ok4, ok5⟩, -⟩ := id (hPG p hp)
    refine v_iload_n i_T_listWhatStays_9 rfl ?_
    refine v_aload_n i_T_listWhatStays_10 rfl ?_
    refine v_get B i_T_listWhatStays_11 (by first | assumption | exact qset_self _ _ _ | (rw [qset_ne _ _ (by omega)]; first | assumption | exact qset_self _ _ _ | (rw [qset_ne _ _ (by omega)]; first | assumption | exact qset_self _ _ _ | (rw [qset_ne _ _ (by omega)]; first | assumption | exact qset_self _ _ _ | (rw [qset_ne _ _ (by omega)]; first | assumption | exact qset_self _ _ _ | (rw [qset_ne _ _ (by omega)]; first | assumption | exact qset_self _ _ _ | (rw [qset_ne _ _ (by omega)]; first | assumption | exact qset_self _ _ _))))))) rfl ?_
    refine v_icmp_ge (tgt := 68) i_T_listWhatStays_14 rfl (fun h14 => ?_) (fun h14 => ?_)
    · refine v_iconst (v := 0) i_T_listWhatStays_68 rfl ?_
      refine v_istore_n i_T_listWhatStays_69 (by decide) rfl ?_
      refine v_loc [(0, .ref t), (1, .ref (pa p)), (2, .int (nI 0))] rfl ?_
      rw [show n = (pg p).2.2.2.length by omega] at h
      have := tls_len (pg p).2.2.2 lat g1 g2 (pg p).2.2.2.length
      exact c_T_listWhatStays_2 B _ (by omega) p co.length 0 X' (by omega) h hs
    · exact absurd (nI_le (by omega) (by omega)) h14
  | succ j ih =>
    intro n X' hn h hs
    obtain ⟨h0, -, -, -, hco, hli, hPG, ⟨m1, m2, m3, m4, m5⟩, -⟩ := id h
    have hP := hPG p hp
    obtain ⟨p0, ⟨ok1, ok2, ok3, ok4, ok5⟩, -⟩ := id hP
    have tail : ∀ X2 : qX, TrAt X2 t cnt pa pg made lat ro pn fe g1 g2 co (tls (pg p).2.2.2 lat g1 g2 (n + 1)) db → qSame X X2 (t + 12) (t + 15) → qV l s0 C m_T_listWhatStays rm_T_listWhatStays (fun r X'' => r = none ∧ TrAt X'' t cnt pa pg made lat ro pn fe g1 g2 co (tlist (pg p) lat g1 g2 co) db ∧ qSame X X'' (t + 12) (t + 15)) (fun _ _ => False) 0 0 X2 62 [(0, .ref t), (1, .ref (pa p)), (2, .int (nI n))] [] := by
      intro X2 h2 hs2
      refine v_iinc (v := nI (n + 1)) i_T_listWhatStays_62 rfl (nI_1 n) (by decide) rfl ?_
      refine v_goto (tgt := 9) i_T_listWhatStays_65 rfl ?_
      refine v_loc [(0, .ref t), (1, .ref (pa p)), (2, .int (nI (n + 1)))] rfl ?_
      exact ih (n + 1) X2 (by omega) h2 hs2
    refine v_iload_n i_T_listWhatStays_9 rfl ?_
    refine v_aload_n i_T_listWhatStays_10 rfl ?_
    refine v_get B i_T_listWhatStays_11 (by first | assumption | exact qset_self _ _ _ | (rw [qset_ne _ _ (by omega)]; first | assumption | exact qset_self _ _ _ | (rw [qset_ne _ _ (by omega)]; first | assumption | exact qset_self _ _ _ | (rw [qset_ne _ _ (by omega)]; first | assumption | exact qset_self _ _ _ | (rw [qset_ne _ _ (by omega)]; first | assumption | exact qset_self _ _ _ | (rw [qset_ne _ _ (by omega)]; first | assumption | exact qset_self _ _ _ | (rw [qset_ne _ _ (by omega)]; first | assumption | exact qset_self _ _ _))))))) rfl ?_
    refine v_icmp_ge (tgt := 68) i_T_listWhatStays_14 rfl (fun h14 => ?_) (fun h14 => ?_)
    · exact absurd h14 (nI_ge (by omega) (by omega))
    refine v_aload_n i_T_listWhatStays_17 rfl ?_
    refine v_iload_n i_T_listWhatStays_18 rfl ?_
    refine v_aload_n i_T_listWhatStays_19 rfl ?_
    refine v_get B i_T_listWhatStays_20 (by first | assumption | exact qset_self _ _ _ | (rw [qset_ne _ _ (by omega)]; first | assumption | exact qset_self _ _ _ | (rw [qset_ne _ _ (by omega)]; first | assumption | exact qset_self _ _ _ | (rw [qset_ne _ _ (by omega)]; first | assumption | exact qset_self _ _ _ | (rw [qset_ne _ _ (by omega)]; first | assumption | exact qset_self _ _ _ | (rw [qset_ne _ _ (by omega)]; first | assumption | exact qset_self _ _ _ | (rw [qset_ne _ _ (by omega)]; first | assumption | exact qset_self _ _ _))))))) rfl ?_
    refine v_inv B i_T_listWhatStays_23 kn_m_G_livesAt (c_G_lives B hP (j := n) (by omega) lat (by omega)) p0 rfl rfl (Nat.le_of_ble_eq_true rfl) ⟨by decide, by decide, by first | decide | (simp; omega), by first | decide | (simp; omega)⟩ rfl (fun r X' hq => ?_) (fun _ _ h => False.elim h)
    obtain ⟨rfl, rfl⟩ := hq
    refine v_if_eq (tgt := 62) i_T_listWhatStays_26 rfl (fun h26 => ?_) (fun h26 => ?_)
    · refine tail _ ?_ hs
      rw [tls, if_neg (fun q => by rw [bI_0.mp h26] at q; exact absurd q.1 (by decide))]
      exact h
    have hal := bI_ne h26
    refine v_iload_n i_T_listWhatStays_29 rfl ?_
    refine v_aload_n i_T_listWhatStays_30 rfl ?_
    refine v_get B i_T_listWhatStays_31 (by first | assumption | exact qset_self _ _ _ | (rw [qset_ne _ _ (by omega)]; first | assumption | exact qset_self _ _ _ | (rw [qset_ne _ _ (by omega)]; first | assumption | exact qset_self _ _ _ | (rw [qset_ne _ _ (by omega)]; first | assumption | exact qset_self _ _ _ | (rw [qset_ne _ _ (by omega)]; first | assumption | exact qset_self _ _ _ | (rw [qset_ne _ _ (by omega)]; first | assumption | exact qset_self _ _ _ | (rw [qset_ne _ _ (by omega)]; first | assumption | exact qset_self _ _ _))))))) rfl ?_
    refine v_icmp_eq (tgt := 62) i_T_listWhatStays_34 rfl (fun h34 => ?_) (fun h34 => ?_)
    · refine tail _ ?_ hs
      rw [tls, if_neg (fun q => q.2.1 h34)]
      exact h
    refine v_iload_n i_T_listWhatStays_37 rfl ?_
    refine v_aload_n i_T_listWhatStays_38 rfl ?_
    refine v_get B i_T_listWhatStays_39 (by first | assumption | exact qset_self _ _ _ | (rw [qset_ne _ _ (by omega)]; first | assumption | exact qset_self _ _ _ | (rw [qset_ne _ _ (by omega)]; first | assumption | exact qset_self _ _ _ | (rw [qset_ne _ _ (by omega)]; first | assumption | exact qset_self _ _ _ | (rw [qset_ne _ _ (by omega)]; first | assumption | exact qset_self _ _ _ | (rw [qset_ne _ _ (by omega)]; first | assumption | exact qset_self _ _ _ | (rw [qset_ne _ _ (by omega)]; first | assumption | exact qset_self _ _ _))))))) rfl ?_
    refine v_icmp_eq (tgt := 62) i_T_listWhatStays_42 rfl (fun h42 => ?_) (fun h42 => ?_)
    · refine tail _ ?_ hs
      rw [tls, if_neg (fun q => q.2.2 h42)]
      exact h
    refine v_aload_n i_T_listWhatStays_45 rfl ?_
    refine v_get B i_T_listWhatStays_46 (by first | assumption | exact qset_self _ _ _ | (rw [qset_ne _ _ (by omega)]; first | assumption | exact qset_self _ _ _ | (rw [qset_ne _ _ (by omega)]; first | assumption | exact qset_self _ _ _ | (rw [qset_ne _ _ (by omega)]; first | assumption | exact qset_self _ _ _ | (rw [qset_ne _ _ (by omega)]; first | assumption | exact qset_self _ _ _ | (rw [qset_ne _ _ (by omega)]; first | assumption | exact qset_self _ _ _ | (rw [qset_ne _ _ (by omega)]; first | assumption | exact qset_self _ _ _))))))) rfl ?_
    refine v_aload_n i_T_listWhatStays_49 rfl ?_
    refine v_iload_n i_T_listWhatStays_50 rfl ?_
    refine v_inv B i_T_listWhatStays_51 kn_m_G_keyAt (c_G_keyAt B hP (nI n)) p0 rfl rfl (Nat.le_of_ble_eq_true rfl) ⟨by decide, by decide, by first | decide | (simp; omega), by first | decide | (simp; omega)⟩ rfl (fun r X' hq => ?_) (fun _ _ h => False.elim h)
    obtain ⟨rfl, rfl⟩ := hq
    rw [gkeyAt_nI (by omega) ok4]
    refine v_aload_n i_T_listWhatStays_54 rfl ?_
    refine v_iload_n i_T_listWhatStays_55 rfl ?_
    refine v_inv B i_T_listWhatStays_56 kn_m_G_whatAt (c_G_whatAt B hP (nI n)) p0 rfl rfl (Nat.le_of_ble_eq_true rfl) ⟨by decide, by decide, by first | decide | (simp; omega), by first | decide | (simp; omega)⟩ rfl (fun r X' hq => ?_) (fun _ _ h => False.elim h)
    obtain ⟨rfl, rfl⟩ := hq
    rw [gwhatAt_nI (by omega) ok4]
    have hlen := tls_len (pg p).2.2.2 lat g1 g2 n
    refine v_inv B i_T_listWhatStays_59 kn_m_R_insert (c_R_insert B hli (en (pg p).2.2.2 n).1 (en (pg p).2.2.2 n).2.2.2 (by omega)) hli.1 rfl rfl (Nat.le_of_ble_eq_true rfl) ⟨by decide, by decide, by first | decide | (simp; omega), by first | decide | (simp; omega)⟩ rfl (fun r X' hq => ?_) (fun _ _ h => False.elim h)
    obtain ⟨rfl, hr2, hs2⟩ := hq
    refine tail _ ?_ (hs.trans hs2)
    rw [tls, if_pos ⟨hal, h34, h42⟩]
    exact h.list hs2 hr2
theorem c_T_listWhatStays (B : qB l s0 C) (h : TrAt X t cnt pa pg made lat ro pn fe g1 g2 co li db) (p : Nat) (hp : p < cnt) : qMet l s0 C m_T_listWhatStays rm_T_listWhatStays [.ref t, .ref (pa p)] X (fun r X' => r = none ∧ TrAt X' t cnt pa pg made lat ro pn fe g1 g2 co (tlist (pg p) lat g1 g2 co) db ∧ qSame X X' (t + 12) (t + 15)) (fun _ _ => False) := by
  obtain ⟨h0, -, -, -, hco, hli, hPG, -⟩ := id h
  refine q_of (by decide +kernel) (Nat.le_of_ble_eq_true rfl) ?_
  refine v_L (L' := [(0, .ref t), (1, .ref (pa p))]) rfl ?_
  refine v_aload_n i_T_listWhatStays_0 rfl ?_
  refine v_get B i_T_listWhatStays_1 (by first | assumption | exact qset_self _ _ _ | (rw [qset_ne _ _ (by omega)]; first | assumption | exact qset_self _ _ _ | (rw [qset_ne _ _ (by omega)]; first | assumption | exact qset_self _ _ _ | (rw [qset_ne _ _ (by omega)]; first | assumption | exact qset_self _ _ _ | (rw [qset_ne _ _ (by omega)]; first | assumption | exact qset_self _ _ _ | (rw [qset_ne _ _ (by omega)]; first | assumption | exact qset_self _ _ _ | (rw [qset_ne _ _ (by omega)]; first | assumption | exact qset_self _ _ _))))))) rfl ?_
  refine v_inv B i_T_listWhatStays_4 kn_m_R_clear (c_R_clear B hli) hli.1 rfl rfl (Nat.le_of_ble_eq_true rfl) ⟨by decide, by decide, by first | decide | (simp; omega), by first | decide | (simp; omega)⟩ rfl (fun r X' hq => ?_) (fun _ _ h => False.elim h)
  obtain ⟨rfl, hr2, hs2⟩ := hq
  refine v_iconst (v := 0) i_T_listWhatStays_7 rfl ?_
  refine v_istore_n i_T_listWhatStays_8 (by decide) rfl ?_
  refine v_loc [(0, .ref t), (1, .ref (pa p)), (2, .int (nI 0))] rfl ?_
  exact c_T_listWhatStays_1 B p hp _ 0 _ (Nat.zero_add _) (h.list hs2 hr2) hs2
theorem c_T_letGoAndCome (B : qB l s0 C) {o1 o2 : Option Nat} (h : TrAt X t cnt pa pg made lat ro pn fe (vO o1) (vO o2) co li db) (p : Nat) (hp : p < cnt) (ho1 : oLt o1 (pg p).2.2.2.length) (ho2 : oLt o2 (pg p).2.2.2.length) (v : Nat) (hv : v < 2 ^ 30) (hroom : (pg p).2.2.2.length + co.length ≤ 16) :
    qMet l s0 C m_T_letGoAndCome rm_T_letGoAndCome [.ref t, .ref (pa p), .int (nI v)] X (fun r X' => r = none ∧ TrAt X' t cnt pa (va_up pg p ((pg p).1, (pg p).2.1, (pg p).2.2.1, gend (gend (pg p).2.2.2 o1 v) o2 v ++ gtk co v 0 co.length)) made lat ro pn fe (vO o1) (vO o2) co li db ∧ qSame X X' (pa p) (pa p + 5)) (fun _ _ => False) := by
  obtain ⟨h0, -, -, -, hco, hli, hPG, -⟩ := id h
  have hw := h.where_ hp
  have hP := hPG p hp
  refine q_of (by decide +kernel) (Nat.le_of_ble_eq_true rfl) ?_
  refine v_L (L' := [(0, .ref t), (1, .ref (pa p)), (2, .int (nI v))]) rfl ?_
  refine v_aload_n i_T_letGoAndCome_0 rfl ?_
  refine v_aload_n i_T_letGoAndCome_1 rfl ?_
  refine v_get B i_T_letGoAndCome_2 (by first | assumption | exact qset_self _ _ _ | (rw [qset_ne _ _ (by omega)]; first | assumption | exact qset_self _ _ _ | (rw [qset_ne _ _ (by omega)]; first | assumption | exact qset_self _ _ _ | (rw [qset_ne _ _ (by omega)]; first | assumption | exact qset_self _ _ _ | (rw [qset_ne _ _ (by omega)]; first | assumption | exact qset_self _ _ _ | (rw [qset_ne _ _ (by omega)]; first | assumption | exact qset_self _ _ _ | (rw [qset_ne _ _ (by omega)]; first | assumption | exact qset_self _ _ _))))))) rfl ?_
  refine v_iload_n i_T_letGoAndCome_5 rfl ?_
  refine v_inv B i_T_letGoAndCome_6 kn_m_G_end (c_G_end B hP o1 ho1 v hv) hP.1 rfl rfl (Nat.le_of_ble_eq_true rfl) ⟨by decide, by decide, by first | decide | (simp; omega), by first | decide | (simp; omega)⟩ rfl (fun r X' hq => ?_) (fun _ _ h => False.elim h)
  obtain ⟨rfl, hP2, hs2⟩ := hq
  have h2 := h.page hp hs2 hP2
  obtain ⟨k0, -, -, -, kco, -, kPG, -⟩ := id h2
  refine v_aload_n i_T_letGoAndCome_9 rfl ?_
  refine v_aload_n i_T_letGoAndCome_10 rfl ?_
  refine v_get B i_T_letGoAndCome_11 (by first | assumption | exact qset_self _ _ _ | (rw [qset_ne _ _ (by omega)]; first | assumption | exact qset_self _ _ _ | (rw [qset_ne _ _ (by omega)]; first | assumption | exact qset_self _ _ _ | (rw [qset_ne _ _ (by omega)]; first | assumption | exact qset_self _ _ _ | (rw [qset_ne _ _ (by omega)]; first | assumption | exact qset_self _ _ _ | (rw [qset_ne _ _ (by omega)]; first | assumption | exact qset_self _ _ _ | (rw [qset_ne _ _ (by omega)]; first | assumption | exact qset_self _ _ _))))))) rfl ?_
  refine v_iload_n i_T_letGoAndCome_14 rfl ?_
  refine v_inv B i_T_letGoAndCome_15 kn_m_G_end (c_G_end B hP2 o2 (by intro z hz; have := ho2 z hz; rw [gend_len]; exact this) v hv) hP2.1 rfl rfl (Nat.le_of_ble_eq_true rfl) ⟨by decide, by decide, by first | decide | (simp; omega), by first | decide | (simp; omega)⟩ rfl (fun r X' hq => ?_) (fun _ _ h => False.elim h)
  obtain ⟨rfl, hP3, hs3⟩ := hq
  have h3 := h2.page hp hs3 hP3
  obtain ⟨n0, -, -, -, nco, -, nPG, -⟩ := id h3
  obtain ⟨c0, cc, -⟩ := id nco
  refine v_aload_n i_T_letGoAndCome_18 rfl ?_
  refine v_aload_n i_T_letGoAndCome_19 rfl ?_
  refine v_get B i_T_letGoAndCome_20 (by first | assumption | exact qset_self _ _ _ | (rw [qset_ne _ _ (by omega)]; first | assumption | exact qset_self _ _ _ | (rw [qset_ne _ _ (by omega)]; first | assumption | exact qset_self _ _ _ | (rw [qset_ne _ _ (by omega)]; first | assumption | exact qset_self _ _ _ | (rw [qset_ne _ _ (by omega)]; first | assumption | exact qset_self _ _ _ | (rw [qset_ne _ _ (by omega)]; first | assumption | exact qset_self _ _ _ | (rw [qset_ne _ _ (by omega)]; first | assumption | exact qset_self _ _ _))))))) rfl ?_
  refine v_iconst (v := 0) i_T_letGoAndCome_23 rfl ?_
  refine v_aload_n i_T_letGoAndCome_24 rfl ?_
  refine v_get B i_T_letGoAndCome_25 (by first | assumption | exact qset_self _ _ _ | (rw [qset_ne _ _ (by omega)]; first | assumption | exact qset_self _ _ _ | (rw [qset_ne _ _ (by omega)]; first | assumption | exact qset_self _ _ _ | (rw [qset_ne _ _ (by omega)]; first | assumption | exact qset_self _ _ _ | (rw [qset_ne _ _ (by omega)]; first | assumption | exact qset_self _ _ _ | (rw [qset_ne _ _ (by omega)]; first | assumption | exact qset_self _ _ _ | (rw [qset_ne _ _ (by omega)]; first | assumption | exact qset_self _ _ _))))))) rfl ?_
  refine v_get B i_T_letGoAndCome_28 (by first | assumption | exact qset_self _ _ _ | (rw [qset_ne _ _ (by omega)]; first | assumption | exact qset_self _ _ _ | (rw [qset_ne _ _ (by omega)]; first | assumption | exact qset_self _ _ _ | (rw [qset_ne _ _ (by omega)]; first | assumption | exact qset_self _ _ _ | (rw [qset_ne _ _ (by omega)]; first | assumption | exact qset_self _ _ _ | (rw [qset_ne _ _ (by omega)]; first | assumption | exact qset_self _ _ _ | (rw [qset_ne _ _ (by omega)]; first | assumption | exact qset_self _ _ _))))))) rfl ?_
  refine v_iload_n i_T_letGoAndCome_31 rfl ?_
  have hl3 : (gend (gend (pg p).2.2.2 o1 v) o2 v).length = (pg p).2.2.2.length := by rw [gend_len, gend_len]
  refine v_inv B i_T_letGoAndCome_32 kn_m_G_take (c_G_take B hP3 nco v hv 0 co.length (Nat.zero_le _) (Nat.le_refl _) (by show (gend (gend (pg p).2.2.2 o1 v) o2 v).length + (co.length - 0) ≤ 16; omega) (by omega)) hP3.1 rfl rfl (Nat.le_of_ble_eq_true rfl) ⟨by decide, by decide, by first | decide | (simp; omega), by first | decide | (simp; omega)⟩ rfl (fun r X' hq => ?_) (fun _ _ h => False.elim h)
  obtain ⟨rfl, hP4, hs4⟩ := hq
  have h4 := h3.page hp hs4 hP4
  refine v_vret i_T_letGoAndCome_35 rfl (by decide) (by decide) ⟨rfl, ?_, (hs2.trans hs3).trans hs4⟩
  have e1 : ∀ (A D E : Pg), va_up (va_up (va_up pg p A) p D) p E = va_up pg p E := fun A D E => by
    funext i
    unfold va_up
    by_cases h : i = p <;> simp [h]
  rw [e1] at h4
  exact h4
end TM
