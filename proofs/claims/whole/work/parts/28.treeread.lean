/-! the tree is asked: what changed, whether it is dense, walks down, keys gathered; and going back -/
def tchg (pg : Nat → Pg) (v : Nat) : Nat → Nat
  | 0 => 0
  | n + 1 => tchg pg v n + (if gchg (pg n) v = true then 1 else 0)
def tdns (pg : Nat → Pg) (r v : Nat) : Nat → Bool
  | 0 => true
  | n + 1 => tdns pg r v n && (decide (n = r) || (!gserves (pg n) v || decide (3 ≤ gliving (pg n).2.2.2 v (pg n).2.2.2.length)))
theorem tdns_mono {pg : Nat → Pg} {r v n : Nat} (h : tdns pg r v n = false) : ∀ m, tdns pg r v (n + m) = false
  | 0 => h
  | m + 1 => by
    have := tdns_mono h m
    show (tdns pg r v (n + m) && _) = false
    rw [this]; rfl
/-- how far it is dense: fuel, from there -/
def tdb (pg : Nat → Pg) (ro : Nat → Nat) (made lat : Nat) : Nat → Nat → Nat
  | 0, b => b
  | j + 1, b => if b ≤ lat ∧ tdns pg (ro b) b made = true then tdb pg ro made lat j (b + 1) else b
theorem gliving_le (es : List Ent) (v : Nat) : ∀ n, gliving es v n ≤ n
  | 0 => Nat.le_refl 0
  | n + 1 => by
    have := gliving_le es v n
    unfold gliving
    split <;> omega
section TQ
variable {X X' : qX} {t cnt : Nat} {pa : Nat → Nat} {pg : Nat → Pg} {made lat : Nat} {ro : Nat → Nat} {pn : Nat → Option Nat} {fe : Int64} {g1 g2 : Int32} {co li : qRw} {db : Nat}
variable {l : Launch} {s0 : State} {C : qC}
theorem c_T_changedSince_loop (B : qB l s0 C) (h : TrAt X t cnt pa pg made lat ro pn fe g1 g2 co li db) (v : Nat) (hv : v < 2 ^ 30) : ∀ (j i : Nat), i + j = made →
      qV l s0 C m_T_changedSince rm_T_changedSince (fun r X' => X = X' ∧ r = some (.int (nI (tchg pg v made)))) (fun _ _ => False) 0 0 X 4 [(0, .ref t), (1, .int (nI v)), (2, .int (nI (tchg pg v i))), (3, .int (nI i))] [] := by
  obtain ⟨h0, -, -, -, -, -, hPG, ⟨m1, m2, m3, m4, m5⟩, hro, -⟩ := id h
  intro j
  induction j with
  | zero =>
    intro i hi
    refine v_iload_n i_T_changedSince_4 rfl ?_
    refine v_aload_n i_T_changedSince_5 rfl ?_
    refine v_get B i_T_changedSince_6 (by first | assumption | exact qset_self _ _ _ | (rw [qset_ne _ _ (by omega)]; first | assumption | exact qset_self _ _ _ | (rw [qset_ne _ _ (by omega)]; first | assumption | exact qset_self _ _ _ | (rw [qset_ne _ _ (by omega)]; first | assumption | exact qset_self _ _ _ | (rw [qset_ne _ _ (by omega)]; first | assumption | exact qset_self _ _ _ | (rw [qset_ne _ _ (by omega)]; first | assumption | exact qset_self _ _ _ | (rw [qset_ne _ _ (by omega)]; first | assumption | exact qset_self _ _ _))))))) rfl ?_
    refine v_icmp_ge (tgt := 39) i_T_changedSince_9 rfl (fun h9 => ?_) (fun h9 => ?_)
    · refine v_iload_n i_T_changedSince_39 rfl ?_
      refine v_iret i_T_changedSince_40 rfl (by decide) (by decide) ⟨rfl, ?_⟩
      rw [show i = made by omega]
    · exact absurd (nI_le (by omega) (by omega)) h9
  | succ j ih =>
    intro i hi
    refine v_iload_n i_T_changedSince_4 rfl ?_
    refine v_aload_n i_T_changedSince_5 rfl ?_
    refine v_get B i_T_changedSince_6 (by first | assumption | exact qset_self _ _ _ | (rw [qset_ne _ _ (by omega)]; first | assumption | exact qset_self _ _ _ | (rw [qset_ne _ _ (by omega)]; first | assumption | exact qset_self _ _ _ | (rw [qset_ne _ _ (by omega)]; first | assumption | exact qset_self _ _ _ | (rw [qset_ne _ _ (by omega)]; first | assumption | exact qset_self _ _ _ | (rw [qset_ne _ _ (by omega)]; first | assumption | exact qset_self _ _ _ | (rw [qset_ne _ _ (by omega)]; first | assumption | exact qset_self _ _ _))))))) rfl ?_
    refine v_icmp_ge (tgt := 39) i_T_changedSince_9 rfl (fun h9 => ?_) (fun h9 => ?_)
    · exact absurd h9 (nI_ge (by omega) (by omega))
    refine v_iload_n i_T_changedSince_12 rfl ?_
    refine v_aload_n i_T_changedSince_13 rfl ?_
    refine v_iload_n i_T_changedSince_14 rfl ?_
    refine v_i2l i_T_changedSince_15 ?_
    refine v_inv B i_T_changedSince_16 kn_m_T_pageAt (c_T_pageAt B h (nI i).toInt64) (by first | assumption | exact qset_self _ _ _ | (rw [qset_ne _ _ (by omega)]; first | assumption | exact qset_self _ _ _ | (rw [qset_ne _ _ (by omega)]; first | assumption | exact qset_self _ _ _ | (rw [qset_ne _ _ (by omega)]; first | assumption | exact qset_self _ _ _ | (rw [qset_ne _ _ (by omega)]; first | assumption | exact qset_self _ _ _ | (rw [qset_ne _ _ (by omega)]; first | assumption | exact qset_self _ _ _ | (rw [qset_ne _ _ (by omega)]; first | assumption | exact qset_self _ _ _))))))) rfl rfl (Nat.le_of_ble_eq_true rfl) ⟨by decide, by decide, by first | decide | (simp; omega), by first | decide | (simp; omega)⟩ rfl (fun r X' hq => ?_) (fun _ _ h => False.elim h)
    obtain ⟨rfl, rfl⟩ := hq
    rw [tpn_nI (by omega) (by omega)]
    refine v_iload_n i_T_changedSince_19 rfl ?_
    refine v_inv B i_T_changedSince_20 kn_m_G_isChangedSince (c_G_isChangedSince B (hPG i (by omega)) v hv) (hPG i (by omega)).1 rfl rfl (Nat.le_of_ble_eq_true rfl) ⟨by decide, by decide, by first | decide | (simp; omega), by first | decide | (simp; omega)⟩ rfl (fun r X' hq => ?_) (fun _ _ h => False.elim h)
    obtain ⟨rfl, rfl⟩ := hq
    have h9 := ih (i + 1) (by omega)
    refine v_if_eq (tgt := 30) i_T_changedSince_23 rfl (fun h23 => ?_) (fun h23 => ?_)
    · refine v_iconst (v := 0) i_T_changedSince_30 rfl ?_
      refine v_iadd i_T_changedSince_31 ?_
      refine v_istore_n i_T_changedSince_32 (by decide) rfl ?_
      refine v_iinc (v := nI (i + 1)) i_T_changedSince_33 rfl (nI_1 i) (by decide) rfl ?_
      refine v_goto (tgt := 4) i_T_changedSince_36 rfl ?_
      refine v_loc [(0, .ref t), (1, .int (nI v)), (2, .int (nI (tchg pg v (i + 1)))), (3, .int (nI (i + 1)))] ?_ h9
      rw [tchg, if_neg (by rw [bI_0.mp h23]; decide)]
      rw [show nI (tchg pg v i + 0) = nI (tchg pg v i) + 0 from (nI_add _ 0).symm]
      rfl
    · refine v_iconst (v := 1) i_T_changedSince_26 rfl ?_
      refine v_goto (tgt := 31) i_T_changedSince_27 rfl ?_
      refine v_iadd i_T_changedSince_31 ?_
      refine v_istore_n i_T_changedSince_32 (by decide) rfl ?_
      refine v_iinc (v := nI (i + 1)) i_T_changedSince_33 rfl (nI_1 i) (by decide) rfl ?_
      refine v_goto (tgt := 4) i_T_changedSince_36 rfl ?_
      refine v_loc [(0, .ref t), (1, .int (nI v)), (2, .int (nI (tchg pg v (i + 1)))), (3, .int (nI (i + 1)))] ?_ h9
      rw [tchg, if_pos (bI_ne h23)]
      rw [show nI (tchg pg v i + 1) = nI (tchg pg v i) + 1 from (nI_1 _).symm]
      rfl
theorem c_T_changedSince (B : qB l s0 C) (h : TrAt X t cnt pa pg made lat ro pn fe g1 g2 co li db) (v : Nat) (hv : v < 2 ^ 30) : qMet l s0 C m_T_changedSince rm_T_changedSince [.ref t, .int (nI v)] X (fun r X' => X = X' ∧ r = some (.int (nI (tchg pg v made)))) (fun _ _ => False) := by
  refine q_of (by decide +kernel) (Nat.le_of_ble_eq_true rfl) ?_
  refine v_L (L' := [(0, .ref t), (1, .int (nI v))]) rfl ?_
  refine v_iconst (v := 0) i_T_changedSince_0 rfl ?_
  refine v_istore_n i_T_changedSince_1 (by decide) rfl ?_
  refine v_iconst (v := 0) i_T_changedSince_2 rfl ?_
  refine v_istore_n i_T_changedSince_3 (by decide) rfl ?_
  refine v_loc [(0, .ref t), (1, .int (nI v)), (2, .int (nI 0)), (3, .int (nI 0))] rfl ?_
  exact c_T_changedSince_loop B h v hv _ 0 (Nat.zero_add _)
theorem c_T_isDenseAt_loop (B : qB l s0 C) (h : TrAt X t cnt pa pg made lat ro pn fe g1 g2 co li db) (v : Nat) (hv : v < 801) : ∀ (j i : Nat), i + j = made → tdns pg (ro v) v i = true →
      qV l s0 C m_T_isDenseAt rm_T_isDenseAt (fun r X' => X = X' ∧ r = some (.int (bI (tdns pg (ro v) v made)))) (fun _ _ => False) 0 0 X 2 [(0, .ref t), (1, .int (nI v)), (2, .int (nI i))] [] := by
  obtain ⟨h0, -, -, -, -, -, hPG, ⟨m1, m2, m3, m4, m5⟩, hro, -⟩ := id h
  intro j
  induction j with
  | zero =>
    intro i hi hd
    refine v_iload_n i_T_isDenseAt_2 rfl ?_
    refine v_aload_n i_T_isDenseAt_3 rfl ?_
    refine v_get B i_T_isDenseAt_4 (by first | assumption | exact qset_self _ _ _ | (rw [qset_ne _ _ (by omega)]; first | assumption | exact qset_self _ _ _ | (rw [qset_ne _ _ (by omega)]; first | assumption | exact qset_self _ _ _ | (rw [qset_ne _ _ (by omega)]; first | assumption | exact qset_self _ _ _ | (rw [qset_ne _ _ (by omega)]; first | assumption | exact qset_self _ _ _ | (rw [qset_ne _ _ (by omega)]; first | assumption | exact qset_self _ _ _ | (rw [qset_ne _ _ (by omega)]; first | assumption | exact qset_self _ _ _))))))) rfl ?_
    refine v_icmp_ge (tgt := 51) i_T_isDenseAt_7 rfl (fun h7 => ?_) (fun h7 => ?_)
    · refine v_iconst (v := 1) i_T_isDenseAt_51 rfl ?_
      refine v_zret i_T_isDenseAt_52 rfl (Or.inr rfl) (by decide) (by decide) ⟨rfl, ?_⟩
      rw [show made = i by omega, hd]; rfl
    · exact absurd (nI_le (by omega) (by omega)) h7
  | succ j ih =>
    intro i hi hd
    have tail : tdns pg (ro v) v (i + 1) = true → qV l s0 C m_T_isDenseAt rm_T_isDenseAt (fun r X' => X = X' ∧ r = some (.int (bI (tdns pg (ro v) v made)))) (fun _ _ => False) 0 0 X 45 [(0, .ref t), (1, .int (nI v)), (2, .int (nI i)), (3, .ref (pa i))] [] := by
      intro hd2
      refine v_iinc (v := nI (i + 1)) i_T_isDenseAt_45 rfl (nI_1 i) (by decide) rfl ?_
      refine v_goto (tgt := 2) i_T_isDenseAt_48 rfl ?_
      refine v_loc [(0, .ref t), (1, .int (nI v)), (2, .int (nI (i + 1)))] rfl ?_
      exact ih (i + 1) (by omega) hd2
    refine v_iload_n i_T_isDenseAt_2 rfl ?_
    refine v_aload_n i_T_isDenseAt_3 rfl ?_
    refine v_get B i_T_isDenseAt_4 (by first | assumption | exact qset_self _ _ _ | (rw [qset_ne _ _ (by omega)]; first | assumption | exact qset_self _ _ _ | (rw [qset_ne _ _ (by omega)]; first | assumption | exact qset_self _ _ _ | (rw [qset_ne _ _ (by omega)]; first | assumption | exact qset_self _ _ _ | (rw [qset_ne _ _ (by omega)]; first | assumption | exact qset_self _ _ _ | (rw [qset_ne _ _ (by omega)]; first | assumption | exact qset_self _ _ _ | (rw [qset_ne _ _ (by omega)]; first | assumption | exact qset_self _ _ _))))))) rfl ?_
    refine v_icmp_ge (tgt := 51) i_T_isDenseAt_7 rfl (fun h7 => ?_) (fun h7 => ?_)
    · exact absurd h7 (nI_ge (by omega) (by omega))
    refine v_aload_n i_T_isDenseAt_10 rfl ?_
    refine v_iload_n i_T_isDenseAt_11 rfl ?_
    refine v_i2l i_T_isDenseAt_12 ?_
    refine v_inv B i_T_isDenseAt_13 kn_m_T_pageAt (c_T_pageAt B h (nI i).toInt64) (by first | assumption | exact qset_self _ _ _ | (rw [qset_ne _ _ (by omega)]; first | assumption | exact qset_self _ _ _ | (rw [qset_ne _ _ (by omega)]; first | assumption | exact qset_self _ _ _ | (rw [qset_ne _ _ (by omega)]; first | assumption | exact qset_self _ _ _ | (rw [qset_ne _ _ (by omega)]; first | assumption | exact qset_self _ _ _ | (rw [qset_ne _ _ (by omega)]; first | assumption | exact qset_self _ _ _ | (rw [qset_ne _ _ (by omega)]; first | assumption | exact qset_self _ _ _))))))) rfl rfl (Nat.le_of_ble_eq_true rfl) ⟨by decide, by decide, by first | decide | (simp; omega), by first | decide | (simp; omega)⟩ rfl (fun r X' hq => ?_) (fun _ _ h => False.elim h)
    obtain ⟨rfl, rfl⟩ := hq
    rw [tpn_nI (by omega) (by omega)]
    have hP := hPG i (by omega)
    obtain ⟨p0, ⟨ok1, ok2, ok3, ok4, ok5⟩, -⟩ := id hP
    refine v_astore_n i_T_isDenseAt_16 (by decide) rfl ?_
    refine v_iload_n i_T_isDenseAt_17 rfl ?_
    refine v_aload_n i_T_isDenseAt_18 rfl ?_
    refine v_iload_n i_T_isDenseAt_19 rfl ?_
    refine v_inv B i_T_isDenseAt_20 kn_m_T_rootOf (c_T_rootOf B h v hv) (by first | assumption | exact qset_self _ _ _ | (rw [qset_ne _ _ (by omega)]; first | assumption | exact qset_self _ _ _ | (rw [qset_ne _ _ (by omega)]; first | assumption | exact qset_self _ _ _ | (rw [qset_ne _ _ (by omega)]; first | assumption | exact qset_self _ _ _ | (rw [qset_ne _ _ (by omega)]; first | assumption | exact qset_self _ _ _ | (rw [qset_ne _ _ (by omega)]; first | assumption | exact qset_self _ _ _ | (rw [qset_ne _ _ (by omega)]; first | assumption | exact qset_self _ _ _))))))) rfl rfl (Nat.le_of_ble_eq_true rfl) ⟨by decide, by decide, by first | decide | (simp; omega), by first | decide | (simp; omega)⟩ rfl (fun r X' hq => ?_) (fun _ _ h => False.elim h)
    obtain ⟨rfl, rfl⟩ := hq
    refine v_loc [(0, .ref t), (1, .int (nI v)), (2, .int (nI i)), (3, .ref (pa i))] rfl ?_
    have hrv := hro v hv
    refine v_icmp_eq (tgt := 45) i_T_isDenseAt_23 rfl (fun h23 => ?_) (fun h23 => ?_)
    · have := (nI_eq (by omega) (by omega)).mp h23
      refine tail ?_
      rw [tdns, hd, decide_eq_true this]; rfl
    have hne : ¬ i = ro v := fun q => h23 (by rw [q])
    refine v_aload_n i_T_isDenseAt_26 rfl ?_
    refine v_iload_n i_T_isDenseAt_27 rfl ?_
    refine v_inv B i_T_isDenseAt_28 kn_m_G_serves (c_G_serves B hP v (by omega)) (by first | assumption | exact qset_self _ _ _ | (rw [qset_ne _ _ (by omega)]; first | assumption | exact qset_self _ _ _ | (rw [qset_ne _ _ (by omega)]; first | assumption | exact qset_self _ _ _ | (rw [qset_ne _ _ (by omega)]; first | assumption | exact qset_self _ _ _ | (rw [qset_ne _ _ (by omega)]; first | assumption | exact qset_self _ _ _ | (rw [qset_ne _ _ (by omega)]; first | assumption | exact qset_self _ _ _ | (rw [qset_ne _ _ (by omega)]; first | assumption | exact qset_self _ _ _))))))) rfl rfl (Nat.le_of_ble_eq_true rfl) ⟨by decide, by decide, by first | decide | (simp; omega), by first | decide | (simp; omega)⟩ rfl (fun r X' hq => ?_) (fun _ _ h => False.elim h)
    obtain ⟨rfl, rfl⟩ := hq
    refine v_if_eq (tgt := 45) i_T_isDenseAt_31 rfl (fun h31 => ?_) (fun h31 => ?_)
    · refine tail ?_
      rw [tdns, hd, bI_0.mp h31]; simp
    have hse := bI_ne h31
    refine v_aload_n i_T_isDenseAt_34 rfl ?_
    refine v_iload_n i_T_isDenseAt_35 rfl ?_
    refine v_inv B i_T_isDenseAt_36 kn_m_G_living (c_G_living B hP v (by omega)) (by first | assumption | exact qset_self _ _ _ | (rw [qset_ne _ _ (by omega)]; first | assumption | exact qset_self _ _ _ | (rw [qset_ne _ _ (by omega)]; first | assumption | exact qset_self _ _ _ | (rw [qset_ne _ _ (by omega)]; first | assumption | exact qset_self _ _ _ | (rw [qset_ne _ _ (by omega)]; first | assumption | exact qset_self _ _ _ | (rw [qset_ne _ _ (by omega)]; first | assumption | exact qset_self _ _ _ | (rw [qset_ne _ _ (by omega)]; first | assumption | exact qset_self _ _ _))))))) rfl rfl (Nat.le_of_ble_eq_true rfl) ⟨by decide, by decide, by first | decide | (simp; omega), by first | decide | (simp; omega)⟩ rfl (fun r X' hq => ?_) (fun _ _ h => False.elim h)
    obtain ⟨rfl, rfl⟩ := hq
    have hgl := gliving_le (pg i).2.2.2 v (pg i).2.2.2.length
    refine v_iconst (v := 3) i_T_isDenseAt_39 rfl ?_
    refine v_icmp_ge (tgt := 45) i_T_isDenseAt_40 rfl (fun h40 => ?_) (fun h40 => ?_)
    · have := (nI_leI (a := 3) (by omega) (by omega)).mp h40
      refine tail ?_
      rw [tdns, hd, hse, decide_eq_true this]; simp
    · refine v_iconst (v := 0) i_T_isDenseAt_43 rfl ?_
      refine v_zret i_T_isDenseAt_44 rfl (Or.inl rfl) (by decide) (by decide) ⟨rfl, ?_⟩
      have h3 : ¬ 3 ≤ gliving (pg i).2.2.2 v (pg i).2.2.2.length := fun q => h40 (nI_le (a := 3) q (by omega))
      have h4 : tdns pg (ro v) v (i + 1) = false := by
        rw [tdns, hd, hse, decide_eq_false h3, decide_eq_false hne]; rfl
      have := tdns_mono h4 j
      rw [show i + 1 + j = made by omega] at this
      rw [this]; rfl
theorem c_T_isDenseAt (B : qB l s0 C) (h : TrAt X t cnt pa pg made lat ro pn fe g1 g2 co li db) (v : Nat) (hv : v < 801) : qMet l s0 C m_T_isDenseAt rm_T_isDenseAt [.ref t, .int (nI v)] X (fun r X' => X = X' ∧ r = some (.int (bI (tdns pg (ro v) v made)))) (fun _ _ => False) := by
  refine q_of (by decide +kernel) (Nat.le_of_ble_eq_true rfl) ?_
  refine v_L (L' := [(0, .ref t), (1, .int (nI v))]) rfl ?_
  refine v_iconst (v := 0) i_T_isDenseAt_0 rfl ?_
  refine v_istore_n i_T_isDenseAt_1 (by decide) rfl ?_
  refine v_loc [(0, .ref t), (1, .int (nI v)), (2, .int (nI 0))] rfl ?_
  exact c_T_isDenseAt_loop B h v hv _ 0 (Nat.zero_add _) rfl
theorem c_T_isDense_loop (B : qB l s0 C) : ∀ (j b : Nat) (X' : qX), lat + 1 ≤ b + j → b ≤ lat + 1 → TrAt X' t cnt pa pg made lat ro pn fe g1 g2 co li b → qSame X X' t (t + 1) →
      qV l s0 C m_T_isDense rm_T_isDense (fun r X'' => r = some (.int (bI (decide (lat < tdb pg ro made lat j b)))) ∧ TrAt X'' t cnt pa pg made lat ro pn fe g1 g2 co li (tdb pg ro made lat j b) ∧ qSame X X'' t (t + 1)) (fun _ _ => False) 0 0 X' 0 [(0, .ref t)] [] := by
  intro j
  have fin : ∀ (b : Nat) (X' : qX), TrAt X' t cnt pa pg made lat ro pn fe g1 g2 co li b → qSame X X' t (t + 1) →
      qV l s0 C m_T_isDense rm_T_isDense (fun r X'' => r = some (.int (bI (decide (lat < b)))) ∧ TrAt X'' t cnt pa pg made lat ro pn fe g1 g2 co li b ∧ qSame X X'' t (t + 1)) (fun _ _ => False) 0 0 X' 35 [(0, .ref t)] [] := by
    intro b X' h hs
    obtain ⟨h0, -, -, -, -, -, hPG, ⟨m1, m2, m3, m4, m5⟩, -⟩ := id h
    refine v_aload_n i_T_isDense_35 rfl ?_
    refine v_get B i_T_isDense_36 (by first | assumption | exact qset_self _ _ _ | (rw [qset_ne _ _ (by omega)]; first | assumption | exact qset_self _ _ _ | (rw [qset_ne _ _ (by omega)]; first | assumption | exact qset_self _ _ _ | (rw [qset_ne _ _ (by omega)]; first | assumption | exact qset_self _ _ _ | (rw [qset_ne _ _ (by omega)]; first | assumption | exact qset_self _ _ _ | (rw [qset_ne _ _ (by omega)]; first | assumption | exact qset_self _ _ _ | (rw [qset_ne _ _ (by omega)]; first | assumption | exact qset_self _ _ _))))))) rfl ?_
    refine v_aload_n i_T_isDense_39 rfl ?_
    refine v_get B i_T_isDense_40 (by first | assumption | exact qset_self _ _ _ | (rw [qset_ne _ _ (by omega)]; first | assumption | exact qset_self _ _ _ | (rw [qset_ne _ _ (by omega)]; first | assumption | exact qset_self _ _ _ | (rw [qset_ne _ _ (by omega)]; first | assumption | exact qset_self _ _ _ | (rw [qset_ne _ _ (by omega)]; first | assumption | exact qset_self _ _ _ | (rw [qset_ne _ _ (by omega)]; first | assumption | exact qset_self _ _ _ | (rw [qset_ne _ _ (by omega)]; first | assumption | exact qset_self _ _ _))))))) rfl ?_
    refine v_icmp_le (tgt := 50) i_T_isDense_43 rfl (fun h43 => ?_) (fun h43 => ?_)
    · refine v_iconst (v := 0) i_T_isDense_50 rfl ?_
      refine v_zret i_T_isDense_51 rfl (Or.inl rfl) (by decide) (by decide) ⟨?_, h, hs⟩
      have := (nI_leI (by omega) (by omega)).mp h43
      rw [decide_eq_false (by omega)]; rfl
    · refine v_iconst (v := 1) i_T_isDense_46 rfl ?_
      refine v_goto (tgt := 51) i_T_isDense_47 rfl ?_
      refine v_zret i_T_isDense_51 rfl (Or.inr rfl) (by decide) (by decide) ⟨?_, h, hs⟩
      have : ¬ b ≤ lat := fun q => h43 (nI_le q (by omega))
      rw [decide_eq_true (by omega)]; rfl
  induction j with
  | zero =>
    intro b X' hj hb h hs
    obtain ⟨h0, -, -, -, -, -, hPG, ⟨m1, m2, m3, m4, m5⟩, -⟩ := id h
    refine v_aload_n i_T_isDense_0 rfl ?_
    refine v_get B i_T_isDense_1 (by first | assumption | exact qset_self _ _ _ | (rw [qset_ne _ _ (by omega)]; first | assumption | exact qset_self _ _ _ | (rw [qset_ne _ _ (by omega)]; first | assumption | exact qset_self _ _ _ | (rw [qset_ne _ _ (by omega)]; first | assumption | exact qset_self _ _ _ | (rw [qset_ne _ _ (by omega)]; first | assumption | exact qset_self _ _ _ | (rw [qset_ne _ _ (by omega)]; first | assumption | exact qset_self _ _ _ | (rw [qset_ne _ _ (by omega)]; first | assumption | exact qset_self _ _ _))))))) rfl ?_
    refine v_aload_n i_T_isDense_4 rfl ?_
    refine v_get B i_T_isDense_5 (by first | assumption | exact qset_self _ _ _ | (rw [qset_ne _ _ (by omega)]; first | assumption | exact qset_self _ _ _ | (rw [qset_ne _ _ (by omega)]; first | assumption | exact qset_self _ _ _ | (rw [qset_ne _ _ (by omega)]; first | assumption | exact qset_self _ _ _ | (rw [qset_ne _ _ (by omega)]; first | assumption | exact qset_self _ _ _ | (rw [qset_ne _ _ (by omega)]; first | assumption | exact qset_self _ _ _ | (rw [qset_ne _ _ (by omega)]; first | assumption | exact qset_self _ _ _))))))) rfl ?_
    refine v_icmp_gt (tgt := 35) i_T_isDense_8 rfl (fun h8 => ?_) (fun h8 => ?_)
    · exact fin b X' h hs
    · exact absurd (nI_lt (by omega) (by omega)) h8
  | succ j ih =>
    intro b X' hj hb h hs
    obtain ⟨h0, -, -, -, -, -, hPG, ⟨m1, m2, m3, m4, m5⟩, -⟩ := id h
    refine v_aload_n i_T_isDense_0 rfl ?_
    refine v_get B i_T_isDense_1 (by first | assumption | exact qset_self _ _ _ | (rw [qset_ne _ _ (by omega)]; first | assumption | exact qset_self _ _ _ | (rw [qset_ne _ _ (by omega)]; first | assumption | exact qset_self _ _ _ | (rw [qset_ne _ _ (by omega)]; first | assumption | exact qset_self _ _ _ | (rw [qset_ne _ _ (by omega)]; first | assumption | exact qset_self _ _ _ | (rw [qset_ne _ _ (by omega)]; first | assumption | exact qset_self _ _ _ | (rw [qset_ne _ _ (by omega)]; first | assumption | exact qset_self _ _ _))))))) rfl ?_
    refine v_aload_n i_T_isDense_4 rfl ?_
    refine v_get B i_T_isDense_5 (by first | assumption | exact qset_self _ _ _ | (rw [qset_ne _ _ (by omega)]; first | assumption | exact qset_self _ _ _ | (rw [qset_ne _ _ (by omega)]; first | assumption | exact qset_self _ _ _ | (rw [qset_ne _ _ (by omega)]; first | assumption | exact qset_self _ _ _ | (rw [qset_ne _ _ (by omega)]; first | assumption | exact qset_self _ _ _ | (rw [qset_ne _ _ (by omega)]; first | assumption | exact qset_self _ _ _ | (rw [qset_ne _ _ (by omega)]; first | assumption | exact qset_self _ _ _))))))) rfl ?_
    refine v_icmp_gt (tgt := 35) i_T_isDense_8 rfl (fun h8 => ?_) (fun h8 => ?_)
    · have := (nI_ltI (by omega) (by omega)).mp h8
      rw [tdb, if_neg (by omega)]
      exact fin b X' h hs
    have hbl : b ≤ lat := by
      have : ¬ lat < b := fun q => h8 (nI_lt q (by omega))
      omega
    refine v_aload_n i_T_isDense_11 rfl ?_
    refine v_aload_n i_T_isDense_12 rfl ?_
    refine v_get B i_T_isDense_13 (by first | assumption | exact qset_self _ _ _ | (rw [qset_ne _ _ (by omega)]; first | assumption | exact qset_self _ _ _ | (rw [qset_ne _ _ (by omega)]; first | assumption | exact qset_self _ _ _ | (rw [qset_ne _ _ (by omega)]; first | assumption | exact qset_self _ _ _ | (rw [qset_ne _ _ (by omega)]; first | assumption | exact qset_self _ _ _ | (rw [qset_ne _ _ (by omega)]; first | assumption | exact qset_self _ _ _ | (rw [qset_ne _ _ (by omega)]; first | assumption | exact qset_self _ _ _))))))) rfl ?_
    refine v_inv B i_T_isDense_16 kn_m_T_isDenseAt (c_T_isDenseAt B h b (by omega)) (by first | assumption | exact qset_self _ _ _ | (rw [qset_ne _ _ (by omega)]; first | assumption | exact qset_self _ _ _ | (rw [qset_ne _ _ (by omega)]; first | assumption | exact qset_self _ _ _ | (rw [qset_ne _ _ (by omega)]; first | assumption | exact qset_self _ _ _ | (rw [qset_ne _ _ (by omega)]; first | assumption | exact qset_self _ _ _ | (rw [qset_ne _ _ (by omega)]; first | assumption | exact qset_self _ _ _ | (rw [qset_ne _ _ (by omega)]; first | assumption | exact qset_self _ _ _))))))) rfl rfl (Nat.le_of_ble_eq_true rfl) ⟨by decide, by decide, by first | decide | (simp; omega), by first | decide | (simp; omega)⟩ rfl (fun r X' hq => ?_) (fun _ _ h => False.elim h)
    obtain ⟨rfl, rfl⟩ := hq
    refine v_if_eq (tgt := 35) i_T_isDense_19 rfl (fun h19 => ?_) (fun h19 => ?_)
    · rw [tdb, if_neg (fun q => by rw [bI_0.mp h19] at q; exact absurd q.2 (by decide))]
      exact fin b X' h hs
    · rw [tdb, if_pos ⟨hbl, bI_ne h19⟩]
      refine v_aload_n i_T_isDense_22 rfl ?_
      refine v_dup i_T_isDense_23 rfl ?_
      refine v_get B i_T_isDense_24 (by first | assumption | exact qset_self _ _ _ | (rw [qset_ne _ _ (by omega)]; first | assumption | exact qset_self _ _ _ | (rw [qset_ne _ _ (by omega)]; first | assumption | exact qset_self _ _ _ | (rw [qset_ne _ _ (by omega)]; first | assumption | exact qset_self _ _ _ | (rw [qset_ne _ _ (by omega)]; first | assumption | exact qset_self _ _ _ | (rw [qset_ne _ _ (by omega)]; first | assumption | exact qset_self _ _ _ | (rw [qset_ne _ _ (by omega)]; first | assumption | exact qset_self _ _ _))))))) rfl ?_
      refine v_iconst (v := 1) i_T_isDense_27 rfl ?_
      refine v_iadd i_T_isDense_28 ?_
      refine v_put B i_T_isDense_29 (by first | assumption | exact qset_self _ _ _ | (rw [qset_ne _ _ (by omega)]; first | assumption | exact qset_self _ _ _ | (rw [qset_ne _ _ (by omega)]; first | assumption | exact qset_self _ _ _ | (rw [qset_ne _ _ (by omega)]; first | assumption | exact qset_self _ _ _ | (rw [qset_ne _ _ (by omega)]; first | assumption | exact qset_self _ _ _ | (rw [qset_ne _ _ (by omega)]; first | assumption | exact qset_self _ _ _ | (rw [qset_ne _ _ (by omega)]; first | assumption | exact qset_self _ _ _))))))) (Nat.le_of_ble_eq_true rfl) rfl rfl ?_
      refine v_goto (tgt := 0) i_T_isDense_32 rfl ?_
      refine ih (b + 1) _ (by omega) (by omega) (h.obj ?_ ⟨m1, m2⟩ m4 (by omega)) (hs.set _ (by omega) (by omega))
      rw [nI_succ]; rfl
theorem c_T_isDense (B : qB l s0 C) (h : TrAt X t cnt pa pg made lat ro pn fe g1 g2 co li db) (hdb : db ≤ lat + 1) : qMet l s0 C m_T_isDense rm_T_isDense [.ref t] X (fun r X' => r = some (.int (bI (decide (lat < tdb pg ro made lat (lat + 1) db)))) ∧ TrAt X' t cnt pa pg made lat ro pn fe g1 g2 co li (tdb pg ro made lat (lat + 1) db) ∧ qSame X X' t (t + 1)) (fun _ _ => False) := by
  refine q_of (by decide +kernel) (Nat.le_of_ble_eq_true rfl) ?_
  refine v_L (L' := [(0, .ref t)]) rfl ?_
  exact c_T_isDense_loop B (lat + 1) db X (by omega) hdb h (qSame.rf X _ _)
/-- a walk down: steps left, the page, the fence, the path -/
def tdesc (pg : Nat → Pg) (made : Nat) (v : Nat) (k : Int32) : Nat → Nat → Int64 → (Nat → Option Nat) → Nat × Int64 × (Nat → Option Nat)
  | 0, p, f, q => (p, f, if (pg p).1 < 16 then va_up q (pg p).1 (some p) else q)
  | j + 1, p, f, q => if (pg p).1 = 0 then (p, f, if (pg p).1 < 16 then va_up q (pg p).1 (some p) else q) else
      tdesc pg made v k j (tpn made (gwhatAt (pg p) (vO (gstand (pg p) k v))))
        (match gnext (pg p) (vO (gstand (pg p) k v)) v with
          | none => f
          | some i => (gkeyAt (pg p) (nI i)).toInt64)
        (if (pg p).1 < 16 then va_up q (pg p).1 (some p) else q)
theorem TrAt.keep (h : TrAt X t cnt pa pg made lat ro pn fe g1 g2 co li db) : t < X.2 := by
  obtain ⟨-, -, -, -, -, -, -, -, -, -, -, -, -, h⟩ := h
  omega
theorem c_T_descend_loop (B : qB l s0 C) (v : Nat) (hv : v < 801) (k : Int32) : ∀ (j n p : Nat) (X' : qX) (f : Int64) (q : Nat → Option Nat), n + j = 16 → p < made → TrAt X' t cnt pa pg made lat ro q f g1 g2 co li db → qSame X X' t (t + 9) →
      qV l s0 C m_T_descend rm_T_descend (fun r X'' => r = some (.ref (pa (tdesc pg made v k j p f q).1)) ∧ (tdesc pg made v k j p f q).1 < made ∧ TrAt X'' t cnt pa pg made lat ro (tdesc pg made v k j p f q).2.2 (tdesc pg made v k j p f q).2.1 g1 g2 co li db ∧ qSame X X'' t (t + 9)) (fun _ _ => False) 0 0 X' 21 [(0, .ref t), (1, .int (nI v)), (2, .int k), (3, .ref (pa p)), (4, .int (nI n))] [] := by
  have fin : ∀ (n p : Nat) (X' : qX) (f : Int64) (q : Nat → Option Nat), p < made → TrAt X' t cnt pa pg made lat ro q f g1 g2 co li db → qSame X X' t (t + 9) →
      qV l s0 C m_T_descend rm_T_descend (fun r X'' => r = some (.ref (pa p)) ∧ p < made ∧ TrAt X'' t cnt pa pg made lat ro (if (pg p).1 < 16 then va_up q (pg p).1 (some p) else q) f g1 g2 co li db ∧ qSame X X'' t (t + 9)) (fun _ _ => False) 0 0 X' 98 [(0, .ref t), (1, .int (nI v)), (2, .int k), (3, .ref (pa p)), (4, .int (nI n))] [] := by
    intro n p X' f q hp h hs
    obtain ⟨h0, -, -, -, -, -, hPG, ⟨m1, m2, m3, m4, m5⟩, -⟩ := id h
    refine v_aload_n i_T_descend_98 rfl ?_
    refine v_aload_n i_T_descend_99 rfl ?_
    refine v_inv B i_T_descend_100 kn_m_T_remember (c_T_remember B h p (by omega)) (by first | assumption | exact qset_self _ _ _ | (rw [qset_ne _ _ (by omega)]; first | assumption | exact qset_self _ _ _ | (rw [qset_ne _ _ (by omega)]; first | assumption | exact qset_self _ _ _ | (rw [qset_ne _ _ (by omega)]; first | assumption | exact qset_self _ _ _ | (rw [qset_ne _ _ (by omega)]; first | assumption | exact qset_self _ _ _ | (rw [qset_ne _ _ (by omega)]; first | assumption | exact qset_self _ _ _ | (rw [qset_ne _ _ (by omega)]; first | assumption | exact qset_self _ _ _))))))) rfl rfl (Nat.le_of_ble_eq_true rfl) ⟨by decide, by decide, by first | decide | (simp; omega), by first | decide | (simp; omega)⟩ rfl (fun r X' hq => ?_) (fun _ _ h => False.elim h)
    obtain ⟨rfl, h2, hs2⟩ := hq
    refine v_aload_n i_T_descend_103 rfl ?_
    exact v_aret i_T_descend_104 rfl (by decide) (by decide) ⟨rfl, hp, h2, hs.trans (hs2.wide (by omega) (by omega))⟩
  intro j
  induction j with
  | zero =>
    intro n p X' f q hn hp h hs
    refine v_iload i_T_descend_21 rfl ?_
    refine v_bipush (v := 16) i_T_descend_23 rfl ?_
    refine v_icmp_ge (tgt := 98) i_T_descend_25 rfl (fun h25 => ?_) (fun h25 => ?_)
    · exact fin n p X' f q hp h hs
    · exact absurd (nI_le (a := 16) (b := n) (by omega) (by omega)) h25
  | succ j ih =>
    intro n p X' f q hn hp h hs
    obtain ⟨h0, -, -, -, -, -, hPG, ⟨m1, m2, m3, m4, m5⟩, -⟩ := id h
    have hP := hPG p (by omega)
    obtain ⟨p0, ⟨ok1, ok2, ok3, ok4, ok5⟩, -⟩ := id hP
    refine v_iload i_T_descend_21 rfl ?_
    refine v_bipush (v := 16) i_T_descend_23 rfl ?_
    refine v_icmp_ge (tgt := 98) i_T_descend_25 rfl (fun h25 => ?_) (fun h25 => ?_)
    · exact absurd h25 (nI_ge (a := n) (b := 16) (by omega) (by omega))
    refine v_aload_n i_T_descend_28 rfl ?_
    refine v_get B i_T_descend_29 (by first | assumption | exact qset_self _ _ _ | (rw [qset_ne _ _ (by omega)]; first | assumption | exact qset_self _ _ _ | (rw [qset_ne _ _ (by omega)]; first | assumption | exact qset_self _ _ _ | (rw [qset_ne _ _ (by omega)]; first | assumption | exact qset_self _ _ _ | (rw [qset_ne _ _ (by omega)]; first | assumption | exact qset_self _ _ _ | (rw [qset_ne _ _ (by omega)]; first | assumption | exact qset_self _ _ _ | (rw [qset_ne _ _ (by omega)]; first | assumption | exact qset_self _ _ _))))))) rfl ?_
    refine v_if_le (tgt := 98) i_T_descend_32 rfl (fun h32 => ?_) (fun h32 => ?_)
    · have h0 : (pg p).1 = 0 := by
        rcases Nat.eq_zero_or_pos (pg p).1 with q | q
        · exact q
        · exact absurd h32 (nI_nle q (by omega))
      rw [tdesc, if_pos h0]
      exact fin n p X' f q hp h hs
    have hl0 : ¬ (pg p).1 = 0 := fun q => h32 (by rw [q]; decide)
    rw [tdesc, if_neg hl0]
    refine v_aload_n i_T_descend_35 rfl ?_
    refine v_aload_n i_T_descend_36 rfl ?_
    refine v_inv B i_T_descend_37 kn_m_T_remember (c_T_remember B h p (by omega)) (by first | assumption | exact qset_self _ _ _ | (rw [qset_ne _ _ (by omega)]; first | assumption | exact qset_self _ _ _ | (rw [qset_ne _ _ (by omega)]; first | assumption | exact qset_self _ _ _ | (rw [qset_ne _ _ (by omega)]; first | assumption | exact qset_self _ _ _ | (rw [qset_ne _ _ (by omega)]; first | assumption | exact qset_self _ _ _ | (rw [qset_ne _ _ (by omega)]; first | assumption | exact qset_self _ _ _ | (rw [qset_ne _ _ (by omega)]; first | assumption | exact qset_self _ _ _))))))) rfl rfl (Nat.le_of_ble_eq_true rfl) ⟨by decide, by decide, by first | decide | (simp; omega), by first | decide | (simp; omega)⟩ rfl (fun r X' hq => ?_) (fun _ _ h => False.elim h)
    obtain ⟨rfl, h2, hs2⟩ := hq
    generalize (if (pg p).1 < 16 then va_up q (pg p).1 (some p) else q) = q2 at h2 ⊢
    have hs3 := hs.trans (hs2.wide (show t ≤ t + 8 by omega) (show t + 9 ≤ t + 9 by omega))
    clear hs hs2 h hP p0 h0 hPG
    obtain ⟨h0, -, -, -, -, -, hPG, -⟩ := id h2
    have hP := hPG p (by omega)
    obtain ⟨p0, -⟩ := id hP
    refine v_aload_n i_T_descend_40 rfl ?_
    refine v_iload_n i_T_descend_41 rfl ?_
    refine v_iload_n i_T_descend_42 rfl ?_
    refine v_inv B i_T_descend_43 kn_m_G_standingFor (c_G_standingFor B hP k v (by omega)) hP.1 rfl rfl (Nat.le_of_ble_eq_true rfl) ⟨by decide, by decide, by first | decide | (simp; omega), by first | decide | (simp; omega)⟩ rfl (fun r X' hq => ?_) (fun _ _ h => False.elim h)
    obtain ⟨rfl, rfl⟩ := hq
    generalize hgs : vO (gstand (pg p) k v) = sx
    refine v_istore i_T_descend_46 (by decide) rfl ?_
    refine v_aload_n i_T_descend_48 rfl ?_
    refine v_iload i_T_descend_49 rfl ?_
    refine v_iload_n i_T_descend_51 rfl ?_
    refine v_inv B i_T_descend_52 kn_m_G_behind (c_G_behind B hP sx v (by omega)) hP.1 rfl rfl (Nat.le_of_ble_eq_true rfl) ⟨by decide, by decide, by first | decide | (simp; omega), by first | decide | (simp; omega)⟩ rfl (fun r X' hq => ?_) (fun _ _ h => False.elim h)
    obtain ⟨rfl, rfl⟩ := hq
    refine v_istore i_T_descend_55 (by decide) rfl ?_
    refine v_aload_n i_T_descend_57 rfl ?_
    refine v_iload i_T_descend_58 rfl ?_
    refine v_iconst (v := (-1)) i_T_descend_60 rfl ?_
    have tail : ∀ f2 : Int64, qV l s0 C m_T_descend rm_T_descend (fun r X'' => r = some (.ref (pa (tdesc pg made v k j (tpn made (gwhatAt (pg p) sx)) f2 q2).1)) ∧ (tdesc pg made v k j (tpn made (gwhatAt (pg p) sx)) f2 q2).1 < made ∧ TrAt X'' t cnt pa pg made lat ro (tdesc pg made v k j (tpn made (gwhatAt (pg p) sx)) f2 q2).2.2 (tdesc pg made v k j (tpn made (gwhatAt (pg p) sx)) f2 q2).2.1 g1 g2 co li db ∧ qSame X X'' t (t + 9)) (fun _ _ => False) 0 0 X' 78 [(0, .ref t), (1, .int (nI v)), (2, .int k), (3, .ref (pa p)), (4, .int (nI n)), (5, .int sx), (6, .int (vO (gnext (pg p) sx v)))] [.long f2, .ref t] := by
      intro f2
      refine v_put B i_T_descend_78 (by first | assumption | exact qset_self _ _ _ | (rw [qset_ne _ _ (by omega)]; first | assumption | exact qset_self _ _ _ | (rw [qset_ne _ _ (by omega)]; first | assumption | exact qset_self _ _ _ | (rw [qset_ne _ _ (by omega)]; first | assumption | exact qset_self _ _ _ | (rw [qset_ne _ _ (by omega)]; first | assumption | exact qset_self _ _ _ | (rw [qset_ne _ _ (by omega)]; first | assumption | exact qset_self _ _ _ | (rw [qset_ne _ _ (by omega)]; first | assumption | exact qset_self _ _ _))))))) (Nat.le_of_ble_eq_true rfl) rfl rfl ?_
      have h3 : TrAt (qset X' t (.inr (3, [Value.ref (t + 1), .ref (t + 6), .ref (t + 7), .int (nI made), .int (nI lat), .ref (t + 8), .long f, .int g1, .int g2, .ref (t + 9), .ref (t + 12), .int (nI db)].set 6 (.long f2)))) t cnt pa pg made lat ro q2 f2 g1 g2 co li db := h2.obj rfl ⟨m1, m2⟩ m4 m5
      have hs4 := hs3.set (.inr (3, [Value.ref (t + 1), .ref (t + 6), .ref (t + 7), .int (nI made), .int (nI lat), .ref (t + 8), .long f, .int g1, .int g2, .ref (t + 9), .ref (t + 12), .int (nI db)].set 6 (.long f2))) (show t ≤ t by omega) (by omega)
      generalize qset X' t (.inr (3, [Value.ref (t + 1), .ref (t + 6), .ref (t + 7), .int (nI made), .int (nI lat), .ref (t + 8), .long f, .int g1, .int g2, .ref (t + 9), .ref (t + 12), .int (nI db)].set 6 (.long f2))) = X3 at h3 hs4 ⊢
      obtain ⟨k0, -, -, -, -, -, kPG, -⟩ := id h3
      have kP := kPG p (by omega)
      refine v_aload_n i_T_descend_81 rfl ?_
      refine v_aload_n i_T_descend_82 rfl ?_
      refine v_iload i_T_descend_83 rfl ?_
      refine v_inv B i_T_descend_85 kn_m_G_whatAt (c_G_whatAt B kP sx) kP.1 rfl rfl (Nat.le_of_ble_eq_true rfl) ⟨by decide, by decide, by first | decide | (simp; omega), by first | decide | (simp; omega)⟩ rfl (fun r X' hq => ?_) (fun _ _ h => False.elim h)
      obtain ⟨rfl, rfl⟩ := hq
      refine v_inv B i_T_descend_88 kn_m_T_pageAt (c_T_pageAt B h3 (gwhatAt (pg p) sx)) k0 rfl rfl (Nat.le_of_ble_eq_true rfl) ⟨by decide, by decide, by first | decide | (simp; omega), by first | decide | (simp; omega)⟩ rfl (fun r X' hq => ?_) (fun _ _ h => False.elim h)
      obtain ⟨rfl, rfl⟩ := hq
      refine v_astore_n i_T_descend_91 (by decide) rfl ?_
      refine v_iinc (v := nI (n + 1)) i_T_descend_92 rfl (nI_1 n) (by decide) rfl ?_
      refine v_goto (tgt := 21) i_T_descend_95 rfl ?_
      refine v_loc [(0, .ref t), (1, .int (nI v)), (2, .int k), (3, .ref (pa (tpn made (gwhatAt (pg p) sx)))), (4, .int (nI (n + 1)))] rfl ?_
      exact ih (n + 1) _ _ f2 q2 (by omega) (tpn_lt m1 _) h3 hs4
    cases hgn : gnext (pg p) sx v with
    | none =>
      rw [hgn] at tail
      refine v_icmp_eq (tgt := 74) i_T_descend_61 rfl (fun h61 => ?_) (fun h61 => ?_)
      · refine v_aload_n i_T_descend_74 rfl ?_
        refine v_get B i_T_descend_75 h0 rfl ?_
        refine v_loc [(0, .ref t), (1, .int (nI v)), (2, .int k), (3, .ref (pa p)), (4, .int (nI n)), (5, .int sx), (6, .int (vO none))] rfl ?_
        exact tail f
      · exact absurd rfl h61
    | some i =>
      rw [hgn] at tail
      have hil := gabo_lt _ _ _ _ _ hgn
      refine v_icmp_eq (tgt := 74) i_T_descend_61 rfl (fun h61 => ?_) (fun h61 => ?_)
      · have := (vO_none (o := some i) (fun t ht => by cases ht; omega)).mp h61
        cases this
      · refine v_aload_n i_T_descend_64 rfl ?_
        refine v_iload i_T_descend_65 rfl ?_
        refine v_inv B i_T_descend_67 kn_m_G_keyAt (c_G_keyAt B hP (nI i)) hP.1 rfl rfl (Nat.le_of_ble_eq_true rfl) ⟨by decide, by decide, by first | decide | (simp; omega), by first | decide | (simp; omega)⟩ rfl (fun r X' hq => ?_) (fun _ _ h => False.elim h)
        obtain ⟨rfl, rfl⟩ := hq
        refine v_i2l i_T_descend_70 ?_
        refine v_goto (tgt := 78) i_T_descend_71 rfl ?_
        refine v_loc [(0, .ref t), (1, .int (nI v)), (2, .int k), (3, .ref (pa p)), (4, .int (nI n)), (5, .int sx), (6, .int (vO (some i)))] rfl ?_
        exact tail (gkeyAt (pg p) (nI i)).toInt64
/-- the whole walk: from the root of a version -/
def tdes (pg : Nat → Pg) (made : Nat) (ro : Nat → Nat) (pn : Nat → Option Nat) (v : Nat) (k : Int32) : Nat × Int64 × (Nat → Option Nat) := tdesc pg made v k 16 (tpn made (nI (ro v)).toInt64) 9223372036854775807 pn
theorem c_T_descend (B : qB l s0 C) (h : TrAt X t cnt pa pg made lat ro pn fe g1 g2 co li db) (v : Nat) (hv : v < 801) (k : Int32) : qMet l s0 C m_T_descend rm_T_descend [.ref t, .int (nI v), .int k] X (fun r X' => r = some (.ref (pa (tdes pg made ro pn v k).1)) ∧ (tdes pg made ro pn v k).1 < made ∧ TrAt X' t cnt pa pg made lat ro (tdes pg made ro pn v k).2.2 (tdes pg made ro pn v k).2.1 g1 g2 co li db ∧ qSame X X' t (t + 9)) (fun _ _ => False) := by
  obtain ⟨h0, -, -, -, -, -, hPG, ⟨m1, m2, m3, m4, m5⟩, -⟩ := id h
  refine q_of (by decide +kernel) (Nat.le_of_ble_eq_true rfl) ?_
  refine v_L (L' := [(0, .ref t), (1, .int (nI v)), (2, .int k)]) rfl ?_
  refine v_aload_n i_T_descend_0 rfl ?_
  refine v_aload_n i_T_descend_1 rfl ?_
  refine v_iload_n i_T_descend_2 rfl ?_
  refine v_inv B i_T_descend_3 kn_m_T_rootOf (c_T_rootOf B h v hv) (by first | assumption | exact qset_self _ _ _ | (rw [qset_ne _ _ (by omega)]; first | assumption | exact qset_self _ _ _ | (rw [qset_ne _ _ (by omega)]; first | assumption | exact qset_self _ _ _ | (rw [qset_ne _ _ (by omega)]; first | assumption | exact qset_self _ _ _ | (rw [qset_ne _ _ (by omega)]; first | assumption | exact qset_self _ _ _ | (rw [qset_ne _ _ (by omega)]; first | assumption | exact qset_self _ _ _ | (rw [qset_ne _ _ (by omega)]; first | assumption | exact qset_self _ _ _))))))) rfl rfl (Nat.le_of_ble_eq_true rfl) ⟨by decide, by decide, by first | decide | (simp; omega), by first | decide | (simp; omega)⟩ rfl (fun r X' hq => ?_) (fun _ _ h => False.elim h)
  obtain ⟨rfl, rfl⟩ := hq
  refine v_i2l i_T_descend_6 ?_
  refine v_inv B i_T_descend_7 kn_m_T_pageAt (c_T_pageAt B h (nI (ro v)).toInt64) (by first | assumption | exact qset_self _ _ _ | (rw [qset_ne _ _ (by omega)]; first | assumption | exact qset_self _ _ _ | (rw [qset_ne _ _ (by omega)]; first | assumption | exact qset_self _ _ _ | (rw [qset_ne _ _ (by omega)]; first | assumption | exact qset_self _ _ _ | (rw [qset_ne _ _ (by omega)]; first | assumption | exact qset_self _ _ _ | (rw [qset_ne _ _ (by omega)]; first | assumption | exact qset_self _ _ _ | (rw [qset_ne _ _ (by omega)]; first | assumption | exact qset_self _ _ _))))))) rfl rfl (Nat.le_of_ble_eq_true rfl) ⟨by decide, by decide, by first | decide | (simp; omega), by first | decide | (simp; omega)⟩ rfl (fun r X' hq => ?_) (fun _ _ h => False.elim h)
  obtain ⟨rfl, rfl⟩ := hq
  refine v_astore_n i_T_descend_10 (by decide) rfl ?_
  refine v_aload_n i_T_descend_11 rfl ?_
  refine v_ldc2 B i_T_descend_12 i_T_descend_12_w ?_
  refine v_put B i_T_descend_15 (by first | assumption | exact qset_self _ _ _ | (rw [qset_ne _ _ (by omega)]; first | assumption | exact qset_self _ _ _ | (rw [qset_ne _ _ (by omega)]; first | assumption | exact qset_self _ _ _ | (rw [qset_ne _ _ (by omega)]; first | assumption | exact qset_self _ _ _ | (rw [qset_ne _ _ (by omega)]; first | assumption | exact qset_self _ _ _ | (rw [qset_ne _ _ (by omega)]; first | assumption | exact qset_self _ _ _ | (rw [qset_ne _ _ (by omega)]; first | assumption | exact qset_self _ _ _))))))) (Nat.le_of_ble_eq_true rfl) rfl rfl ?_
  refine v_iconst (v := 0) i_T_descend_18 rfl ?_
  refine v_istore i_T_descend_19 (by decide) rfl ?_
  refine v_loc [(0, .ref t), (1, .int (nI v)), (2, .int k), (3, .ref (pa (tpn made (nI (ro v)).toInt64))), (4, .int (nI 0))] rfl ?_
  exact c_T_descend_loop B v hv k 16 0 _ _ _ pn (by omega) (tpn_lt m1 _) (h.obj rfl ⟨m1, m2⟩ m4 m5) ((qSame.rf X _ _).set _ (by omega) (by omega))
/-- keys gathered leaf by leaf: leaves left, from where, the row so far, the path -/
def tgat (pg : Nat → Pg) (made : Nat) (ro : Nat → Nat) (v : Nat) (lo hi : Int32) (en : Int32) : Nat → Int64 → qRw → (Nat → Option Nat) → Int64 → qRw × (Nat → Option Nat) × Int64
  | 0, _, R, q, f => (R, q, f)
  | j + 1, x, R, q, f => if hi.toInt64 < x ∨ en ≤ nI R.length then (R, q, f) else
      tgat pg made ro v lo hi en j (tdes pg made ro q v x.toInt32).2.1
        (gcopy (pg (tdes pg made ro q v x.toInt32).1).2.2.2 v lo hi R (pg (tdes pg made ro q v x.toInt32).1).2.2.2.length)
        (tdes pg made ro q v x.toInt32).2.2 (tdes pg made ro q v x.toInt32).2.1
/-- every row that is gathered fits: what stands in the way of a longer one -/
def tfit (pg : Nat → Pg) (made : Nat) (ro : Nat → Nat) (v : Nat) (lo hi : Int32) (en : Int32) (cap : Nat) : Nat → Int64 → qRw → (Nat → Option Nat) → Prop
  | 0, _, _, _ => True
  | j + 1, x, R, q => (hi.toInt64 < x ∨ en ≤ nI R.length) ∨ (R.length + (pg (tdes pg made ro q v x.toInt32).1).2.2.2.length ≤ cap ∧
      tfit pg made ro v lo hi en cap j (tdes pg made ro q v x.toInt32).2.1
        (gcopy (pg (tdes pg made ro q v x.toInt32).1).2.2.2 v lo hi R (pg (tdes pg made ro q v x.toInt32).1).2.2.2.length) (tdes pg made ro q v x.toInt32).2.2)
theorem c_T_gatherSome_loop (B : qB l s0 C) (v : Nat) (hv : v < 801) (lo hi en : Int32) {b cap : Nat} (hb : t + 15 ≤ b) (hb2 : b + 3 ≤ t + 24) : ∀ (j n : Nat) (x : Int64) (R : qRw) (X' : qX) (f : Int64) (q : Nat → Option Nat), n + j = 256 → tfit pg made ro v lo hi en cap j x R q → TrAt X' t cnt pa pg made lat ro q f g1 g2 co li db → RowAt X' b cap R → 
      (∀ z, (z < t ∨ (t + 9 ≤ z ∧ z < b) ∨ b + 3 ≤ z) → X'.1 z = X.1 z) → X'.2 = X.2 →
      qV l s0 C m_T_gatherSome rm_T_gatherSome (fun r X'' => r = none ∧ TrAt X'' t cnt pa pg made lat ro (tgat pg made ro v lo hi en j x R q f).2.1 (tgat pg made ro v lo hi en j x R q f).2.2 g1 g2 co li db ∧ RowAt X'' b cap (tgat pg made ro v lo hi en j x R q f).1 ∧ (∀ z, (z < t ∨ (t + 9 ≤ z ∧ z < b) ∨ b + 3 ≤ z) → X''.1 z = X.1 z) ∧ X''.2 = X.2) (fun _ _ => False) 0 0 X' 12 [(0, .ref t), (1, .int (nI v)), (2, .int lo), (3, .int hi), (4, .int en), (5, .ref b), (6, .long x), (8, .int (nI n))] [] := by
  intro j
  induction j with
  | zero =>
    intro n x R X' f q hn hfit h hr hz hz2
    refine v_iload i_T_gatherSome_12 rfl ?_
    refine v_sipush (v := 256) i_T_gatherSome_14 rfl ?_
    refine v_icmp_ge (tgt := 70) i_T_gatherSome_17 rfl (fun h17 => ?_) (fun h17 => ?_)
    · exact v_vret i_T_gatherSome_70 rfl (by decide) (by decide) ⟨rfl, h, hr, hz, hz2⟩
    · exact absurd (nI_le (a := 256) (b := n) (by omega) (by omega)) h17
  | succ j ih =>
    intro n x R X' f q hn hfit h hr hz hz2
    obtain ⟨h0, -, -, -, -, -, hPG, ⟨m1, m2, m3, m4, m5⟩, -⟩ := id h
    obtain ⟨r0, rc, rcap, -⟩ := id hr
    refine v_iload i_T_gatherSome_12 rfl ?_
    refine v_sipush (v := 256) i_T_gatherSome_14 rfl ?_
    refine v_icmp_ge (tgt := 70) i_T_gatherSome_17 rfl (fun h17 => ?_) (fun h17 => ?_)
    · exact absurd h17 (nI_ge (a := n) (b := 256) (by omega) (by omega))
    refine v_lload i_T_gatherSome_20 rfl ?_
    refine v_iload_n i_T_gatherSome_22 rfl ?_
    refine v_i2l i_T_gatherSome_23 ?_
    refine v_lcmp i_T_gatherSome_24 ?_
    refine v_if_gt (tgt := 70) i_T_gatherSome_25 rfl (fun h25 => ?_) (fun h25 => ?_)
    · rw [tgat, if_pos (Or.inl (lcmp_gt.mp h25))]
      exact v_vret i_T_gatherSome_70 rfl (by decide) (by decide) ⟨rfl, h, hr, hz, hz2⟩
    refine v_aload i_T_gatherSome_28 rfl ?_
    refine v_get B i_T_gatherSome_30 (by first | assumption | exact qset_self _ _ _ | (rw [qset_ne _ _ (by omega)]; first | assumption | exact qset_self _ _ _ | (rw [qset_ne _ _ (by omega)]; first | assumption | exact qset_self _ _ _ | (rw [qset_ne _ _ (by omega)]; first | assumption | exact qset_self _ _ _ | (rw [qset_ne _ _ (by omega)]; first | assumption | exact qset_self _ _ _ | (rw [qset_ne _ _ (by omega)]; first | assumption | exact qset_self _ _ _ | (rw [qset_ne _ _ (by omega)]; first | assumption | exact qset_self _ _ _))))))) rfl ?_
    refine v_iload i_T_gatherSome_33 rfl ?_
    refine v_icmp_ge (tgt := 70) i_T_gatherSome_35 rfl (fun h35 => ?_) (fun h35 => ?_)
    · rw [tgat, if_pos (Or.inr h35)]
      exact v_vret i_T_gatherSome_70 rfl (by decide) (by decide) ⟨rfl, h, hr, hz, hz2⟩
    have hnot : ¬ (hi.toInt64 < x ∨ en ≤ nI R.length) := fun q => q.elim (fun a => h25 (lcmp_gt.mpr a)) h35
    rw [tgat, if_neg hnot]
    obtain ⟨hf1, hf2⟩ := hfit.resolve_left hnot
    refine v_aload_n i_T_gatherSome_38 rfl ?_
    refine v_iload_n i_T_gatherSome_39 rfl ?_
    refine v_lload i_T_gatherSome_40 rfl ?_
    refine v_l2i i_T_gatherSome_42 ?_
    refine v_inv B i_T_gatherSome_43 kn_m_T_descend (c_T_descend B h v hv x.toInt32) (by first | assumption | exact qset_self _ _ _ | (rw [qset_ne _ _ (by omega)]; first | assumption | exact qset_self _ _ _ | (rw [qset_ne _ _ (by omega)]; first | assumption | exact qset_self _ _ _ | (rw [qset_ne _ _ (by omega)]; first | assumption | exact qset_self _ _ _ | (rw [qset_ne _ _ (by omega)]; first | assumption | exact qset_self _ _ _ | (rw [qset_ne _ _ (by omega)]; first | assumption | exact qset_self _ _ _ | (rw [qset_ne _ _ (by omega)]; first | assumption | exact qset_self _ _ _))))))) rfl rfl (Nat.le_of_ble_eq_true rfl) ⟨by decide, by decide, by first | decide | (simp; omega), by first | decide | (simp; omega)⟩ rfl (fun r X' hq => ?_) (fun _ _ h => False.elim h)
    obtain ⟨rfl, hp, h2, hs2⟩ := hq
    generalize tdes pg made ro q v x.toInt32 = z9 at hp h2 hf1 hf2 ⊢
    obtain ⟨p, f2, q2⟩ := z9
    dsimp only at hp h2 hf1 hf2 ⊢
    have hr2 := hr.same hs2 (by omega)
    have hz3 : ∀ z, (z < t ∨ (t + 9 ≤ z ∧ z < b) ∨ b + 3 ≤ z) → X'.1 z = X.1 z := fun z hz' => (hs2.2 z (by omega)).trans (hz z hz')
    have hz4 := hs2.1.trans hz2
    clear hPG h0 r0
    obtain ⟨h0, -, -, -, -, -, hPG, -⟩ := id h2
    have hP := hPG p (by omega)
    have hw := h2.where_ (i := p) (by omega)
    refine v_astore i_T_gatherSome_46 (by decide) rfl ?_
    refine v_aload i_T_gatherSome_48 rfl ?_
    refine v_iload_n i_T_gatherSome_50 rfl ?_
    refine v_iload_n i_T_gatherSome_51 rfl ?_
    refine v_iload_n i_T_gatherSome_52 rfl ?_
    refine v_aload i_T_gatherSome_53 rfl ?_
    refine v_inv B i_T_gatherSome_55 kn_m_G_copyLiving (c_G_copyLiving B hP v (by omega) lo hi hr2 hf1 (by omega)) hP.1 rfl rfl (Nat.le_of_ble_eq_true rfl) ⟨by decide, by decide, by first | decide | (simp; omega), by first | decide | (simp; omega)⟩ rfl (fun r X' hq => ?_) (fun _ _ h => False.elim h)
    obtain ⟨rfl, hr3, hs3⟩ := hq
    have h3 := h2.other hs3 (by omega) (by omega)
    obtain ⟨k0, -⟩ := id h3
    refine v_aload_n i_T_gatherSome_58 rfl ?_
    refine v_get B i_T_gatherSome_59 (by first | assumption | exact qset_self _ _ _ | (rw [qset_ne _ _ (by omega)]; first | assumption | exact qset_self _ _ _ | (rw [qset_ne _ _ (by omega)]; first | assumption | exact qset_self _ _ _ | (rw [qset_ne _ _ (by omega)]; first | assumption | exact qset_self _ _ _ | (rw [qset_ne _ _ (by omega)]; first | assumption | exact qset_self _ _ _ | (rw [qset_ne _ _ (by omega)]; first | assumption | exact qset_self _ _ _ | (rw [qset_ne _ _ (by omega)]; first | assumption | exact qset_self _ _ _))))))) rfl ?_
    refine v_lstore i_T_gatherSome_62 (by decide) rfl ?_
    refine v_iinc (v := nI (n + 1)) i_T_gatherSome_64 rfl (nI_1 n) (by decide) rfl ?_
    refine v_goto (tgt := 12) i_T_gatherSome_67 rfl ?_
    refine v_loc [(0, .ref t), (1, .int (nI v)), (2, .int lo), (3, .int hi), (4, .int en), (5, .ref b), (6, .long f2), (8, .int (nI (n + 1)))] rfl ?_
    exact ih (n + 1) f2 _ _ f2 q2 (by omega) hf2 h3 hr3 (fun z hz' => (hs3.2 z (by omega)).trans (hz3 z hz')) (hs3.1.trans hz4)
theorem c_T_gatherSome (B : qB l s0 C) (h : TrAt X t cnt pa pg made lat ro pn fe g1 g2 co li db) (v : Nat) (hv : v < 801) (lo hi en : Int32) {b cap : Nat} {R : qRw} (hr : RowAt X b cap R) (hb : t + 15 ≤ b) (hb2 : b + 3 ≤ t + 24) (hfit : tfit pg made ro v lo hi en cap 256 lo.toInt64 [] pn) :
    qMet l s0 C m_T_gatherSome rm_T_gatherSome [.ref t, .int (nI v), .int lo, .int hi, .int en, .ref b] X (fun r X' => r = none ∧ TrAt X' t cnt pa pg made lat ro (tgat pg made ro v lo hi en 256 lo.toInt64 [] pn fe).2.1 (tgat pg made ro v lo hi en 256 lo.toInt64 [] pn fe).2.2 g1 g2 co li db ∧ RowAt X' b cap (tgat pg made ro v lo hi en 256 lo.toInt64 [] pn fe).1 ∧ (∀ z, (z < t ∨ (t + 9 ≤ z ∧ z < b) ∨ b + 3 ≤ z) → X'.1 z = X.1 z) ∧ X'.2 = X.2) (fun _ _ => False) := by
  refine q_of (by decide +kernel) (Nat.le_of_ble_eq_true rfl) ?_
  refine v_L (L' := [(0, .ref t), (1, .int (nI v)), (2, .int lo), (3, .int hi), (4, .int en), (5, .ref b)]) rfl ?_
  refine v_aload i_T_gatherSome_0 rfl ?_
  refine v_inv B i_T_gatherSome_2 kn_m_R_clear (c_R_clear B hr) hr.1 rfl rfl (Nat.le_of_ble_eq_true rfl) ⟨by decide, by decide, by first | decide | (simp; omega), by first | decide | (simp; omega)⟩ rfl (fun r X' hq => ?_) (fun _ _ h => False.elim h)
  obtain ⟨rfl, hr2, hs2⟩ := hq
  refine v_iload_n i_T_gatherSome_5 rfl ?_
  refine v_i2l i_T_gatherSome_6 ?_
  refine v_lstore i_T_gatherSome_7 (by decide) rfl ?_
  refine v_iconst (v := 0) i_T_gatherSome_9 rfl ?_
  refine v_istore i_T_gatherSome_10 (by decide) rfl ?_
  refine v_loc [(0, .ref t), (1, .int (nI v)), (2, .int lo), (3, .int hi), (4, .int en), (5, .ref b), (6, .long lo.toInt64), (8, .int (nI 0))] rfl ?_
  exact c_T_gatherSome_loop B v hv lo hi en hb hb2 256 0 _ [] _ fe pn (by omega) hfit (h.other hs2 (by omega) (by omega)) hr2 (fun z hz => hs2.2 z (by omega)) hs2.1
theorem c_T_gather (B : qB l s0 C) (h : TrAt X t cnt pa pg made lat ro pn fe g1 g2 co li db) (v : Nat) (hv : v < 801) (lo hi : Int32) {b cap : Nat} {R : qRw} (hr : RowAt X b cap R) (hb : t + 15 ≤ b) (hb2 : b + 3 ≤ t + 24) (hfit : tfit pg made ro v lo hi 2147483647 cap 256 lo.toInt64 [] pn) :
    qMet l s0 C m_T_gather rm_T_gather [.ref t, .int (nI v), .int lo, .int hi, .ref b] X (fun r X' => r = none ∧ TrAt X' t cnt pa pg made lat ro (tgat pg made ro v lo hi 2147483647 256 lo.toInt64 [] pn fe).2.1 (tgat pg made ro v lo hi 2147483647 256 lo.toInt64 [] pn fe).2.2 g1 g2 co li db ∧ RowAt X' b cap (tgat pg made ro v lo hi 2147483647 256 lo.toInt64 [] pn fe).1 ∧ (∀ z, (z < t ∨ (t + 9 ≤ z ∧ z < b) ∨ b + 3 ≤ z) → X'.1 z = X.1 z) ∧ X'.2 = X.2) (fun _ _ => False) := by
  obtain ⟨h0, -⟩ := id h
  refine q_of (by decide +kernel) (Nat.le_of_ble_eq_true rfl) ?_
  refine v_L (L' := [(0, .ref t), (1, .int (nI v)), (2, .int lo), (3, .int hi), (4, .ref b)]) rfl ?_
  refine v_aload_n i_T_gather_0 rfl ?_
  refine v_iload_n i_T_gather_1 rfl ?_
  refine v_iload_n i_T_gather_2 rfl ?_
  refine v_iload_n i_T_gather_3 rfl ?_
  refine v_ldc B i_T_gather_4 i_T_gather_4_w ?_
  refine v_aload i_T_gather_6 rfl ?_
  refine v_inv B i_T_gather_8 kn_m_T_gatherSome (c_T_gatherSome B h v hv lo hi 2147483647 hr hb hb2 hfit) (by first | assumption | exact qset_self _ _ _ | (rw [qset_ne _ _ (by omega)]; first | assumption | exact qset_self _ _ _ | (rw [qset_ne _ _ (by omega)]; first | assumption | exact qset_self _ _ _ | (rw [qset_ne _ _ (by omega)]; first | assumption | exact qset_self _ _ _ | (rw [qset_ne _ _ (by omega)]; first | assumption | exact qset_self _ _ _ | (rw [qset_ne _ _ (by omega)]; first | assumption | exact qset_self _ _ _ | (rw [qset_ne _ _ (by omega)]; first | assumption | exact qset_self _ _ _))))))) rfl rfl (Nat.le_of_ble_eq_true rfl) ⟨by decide, by decide, by first | decide | (simp; omega), by first | decide | (simp; omega)⟩ rfl (fun r X' hq => ?_) (fun _ _ h => False.elim h)
  obtain ⟨rfl, h2⟩ := hq
  exact v_vret i_T_gather_11 rfl (by decide) (by decide) ⟨rfl, h2⟩
end TQ
