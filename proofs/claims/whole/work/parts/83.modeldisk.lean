/-! the reference: the disk's numbers, cut, down, spoil, dense -/
section MZ
variable {X X' : qX} {m : Nat} {s : Nat → Int32} {I : Nat → Nat → Int32} {J : Nat → Nat → Int64}
variable {pg : Nat → Pg} {made lat rb : Nat} {dt : Nat → Bool} {ro : Nat → Nat}
variable {l : Launch} {s0 : State} {C : qC}
theorem c_M_disk (B : qB l s0 C) (h : MAt X m s I J) {D : Dk} (hT : MT s I J pg made lat (fun q => gchg (pg q) D.2.2.1) ro rb) (e20 : s 20 = nI D.1.length) (e21 : s 21 = nI (if D.2.2.2.2 = true then 0 else lat - dlat D)) (e13 : s 13 = nI D.2.2.1) (e27 : s 27 = nI D.2.1) (e25 : s 25 = bI D.2.2.2.2) (w : Int32) : qMet l s0 C m_M_disk rm_M_disk [.ref m, .int w] X (fun r X' => ∃ z, r = some (.int z) ∧ (∀ y, cdisk pg made lat D w = some y → z = y) ∧ mRO X X' m s I J (mcode (!(rg w 4)) false false false)) (fun _ _ => False) := by
  obtain ⟨h0, -⟩ := id h
  refine q_of (by decide +kernel) (Nat.le_of_ble_eq_true rfl) ?_
  refine v_L (L' := [(0, .ref m), (1, .int w)]) rfl ?_
  have main : ∀ f : Bool, f = (!(rg w 4)) → qV l s0 C m_M_disk rm_M_disk (fun r X' => ∃ z, r = some (.int z) ∧ (∀ y, cdisk pg made lat D w = some y → z = y) ∧ mRO X X' m s I J (mcode (!(rg w 4)) false false false)) (fun _ _ => False) 0 0 X 15 [(0, .ref m), (1, .int w)] [.int (bI f), .ref m] := by
    intro f hfe
    refine v_iconst (v := 0) i_M_disk_15 rfl ?_
    refine v_iconst (v := 0) i_M_disk_16 rfl ?_
    refine v_iconst (v := 0) i_M_disk_17 rfl ?_
    refine v_inv B i_M_disk_18 kn_m_M_fails (c_M_fails B h f false false false) h0 rfl rfl (Nat.le_of_ble_eq_true rfl) ⟨by decide, by decide, by first | decide | (simp; omega), by first | decide | (simp; omega)⟩ rfl (fun r X' hq => ?_) (fun _ _ h => False.elim h)
    obtain ⟨rfl, h1, f1⟩ := hq
    have ho := mRO.of h1 f1
    rw [hfe] at ho
    obtain ⟨k0, -⟩ := id h1
    by_cases hf : (f || false || false || false) = true
    · rw [hf]
      refine v_if_eq (tgt := 26) i_M_disk_21 rfl (fun q21 => absurd q21 (by decide)) (fun _ => ?_)
      refine v_iconst (v := 0) i_M_disk_24 rfl ?_
      refine v_iret i_M_disk_25 rfl (by decide) (by decide) ⟨0, rfl, fun y hy => ?_, ho⟩
      have hr : rg w 4 = true := by
        cases hq : rg w 4
        · rw [cdisk_rg.mpr hq] at hy; cases hy
        · rfl
      rw [hfe, hr] at hf; exact absurd hf (by decide)
    · rw [Bool.not_eq_true] at hf
      rw [hf]
      simp only [Bool.or_false] at hf
      have hr : rg w 4 = true := by
        rw [hfe] at hf
        simpa using hf
      have fin : ∀ y : Int32, cdisk pg made lat D w = some y → ∃ z, some (Value.int y) = some (.int z) ∧ (∀ y', cdisk pg made lat D w = some y' → z = y') ∧ mRO X X' m s I J (mcode (!(rg w 4)) false false false) := by
        intro y hy
        exact ⟨y, rfl, fun y' hy' => Option.some.inj (hy.symm.trans hy'), ho⟩
      refine v_if_eq (tgt := 26) i_M_disk_21 rfl (fun _ => ?_) (fun q21 => absurd rfl q21)
      refine v_iload_n i_M_disk_26 rfl ?_
      refine v_if_ne (tgt := 37) i_M_disk_27 rfl (fun q27 => ?_) (fun q27 => ?_)
      · refine v_iload_n i_M_disk_37 rfl ?_
        refine v_iconst (v := 1) i_M_disk_38 rfl ?_
        refine v_icmp_ne (tgt := 49) i_M_disk_39 rfl (fun q39 => ?_) (fun q39 => ?_)
        · refine v_iload_n i_M_disk_49 rfl ?_
          refine v_iconst (v := 2) i_M_disk_50 rfl ?_
          refine v_icmp_ne (tgt := 61) i_M_disk_51 rfl (fun q51 => ?_) (fun q51 => ?_)
          · refine v_iload_n i_M_disk_61 rfl ?_
            refine v_iconst (v := 3) i_M_disk_62 rfl ?_
            refine v_icmp_ne (tgt := 73) i_M_disk_63 rfl (fun q63 => ?_) (fun q63 => ?_)
            · have h4 : w = 4 := by
                have q := of_decide_eq_true hr
                have a := Int32.le_iff_toInt_le.mp q.1
                have b := Int32.le_iff_toInt_le.mp q.2
                have e0 : (0 : Int32).toInt = 0 := rfl
                have e4 : (4 : Int32).toInt = 4 := rfl
                rw [e0] at a
                rw [e4] at b
                have n0 : w.toInt ≠ 0 := fun z => q27 (Int32.toInt_inj.mp z)
                have n1 : w.toInt ≠ 1 := fun z => q39 (Int32.toInt_inj.mp z)
                have n2 : w.toInt ≠ 2 := fun z => q51 (Int32.toInt_inj.mp z)
                have n3 : w.toInt ≠ 3 := fun z => q63 (Int32.toInt_inj.mp z)
                exact Int32.toInt_inj.mp (by rw [e4]; omega)
              subst h4
              have hc : cdisk pg made lat D 4 = some (if D.2.2.2.2 = true then 0 else nI (tchg pg D.2.2.1 made)) := rfl
              refine v_aload_n i_M_disk_73 rfl ?_
              refine v_get B i_M_disk_74 (by first | assumption | exact qset_self _ _ _ | (rw [qset_ne _ _ (by omega)]; first | assumption | exact qset_self _ _ _ | (rw [qset_ne _ _ (by omega)]; first | assumption | exact qset_self _ _ _ | (rw [qset_ne _ _ (by omega)]; first | assumption | exact qset_self _ _ _ | (rw [qset_ne _ _ (by omega)]; first | assumption | exact qset_self _ _ _ | (rw [qset_ne _ _ (by omega)]; first | assumption | exact qset_self _ _ _ | (rw [qset_ne _ _ (by omega)]; first | assumption | exact qset_self _ _ _))))))) rfl ?_
              rw [pk_un (by decide), e25]
              refine v_if_eq (tgt := 84) i_M_disk_77 rfl (fun q77 => ?_) (fun q77 => ?_)
              · have hb := bI_0.mp q77
                rw [hb, if_neg (by decide)] at hc
                refine v_aload_n i_M_disk_84 rfl ?_
                refine v_inv B i_M_disk_85 kn_m_M_dirtyPages (c_M_dirtyPages B h1 (hT.keep (A := []) (mK.rf _ _ _) ((sK.rf [0] s).set (by decide)) (by decide) (by decide))) k0 rfl rfl (Nat.le_of_ble_eq_true rfl) ⟨by decide, by decide, by first | decide | (simp; omega), by first | decide | (simp; omega)⟩ rfl (fun r X' hq => ?_) (fun _ _ h => False.elim h)
                obtain ⟨rfl, rfl⟩ := hq
                exact v_iret i_M_disk_88 rfl (by decide) (by decide) (fin _ hc)
              · have hb := bI_ne q77
                rw [hb, if_pos rfl] at hc
                refine v_iconst (v := 0) i_M_disk_80 rfl ?_
                refine v_goto (tgt := 88) i_M_disk_81 rfl ?_
                exact v_iret i_M_disk_88 rfl (by decide) (by decide) (fin _ hc)
            · subst q63
              refine v_aload_n i_M_disk_66 rfl ?_
              refine v_get B i_M_disk_67 (by first | assumption | exact qset_self _ _ _ | (rw [qset_ne _ _ (by omega)]; first | assumption | exact qset_self _ _ _ | (rw [qset_ne _ _ (by omega)]; first | assumption | exact qset_self _ _ _ | (rw [qset_ne _ _ (by omega)]; first | assumption | exact qset_self _ _ _ | (rw [qset_ne _ _ (by omega)]; first | assumption | exact qset_self _ _ _ | (rw [qset_ne _ _ (by omega)]; first | assumption | exact qset_self _ _ _ | (rw [qset_ne _ _ (by omega)]; first | assumption | exact qset_self _ _ _))))))) rfl ?_
              refine v_goto (tgt := 88) i_M_disk_70 rfl ?_
              rw [pk_un (by decide), e27]
              exact v_iret i_M_disk_88 rfl (by decide) (by decide) (fin _ rfl)
          · subst q51
            refine v_aload_n i_M_disk_54 rfl ?_
            refine v_get B i_M_disk_55 (by first | assumption | exact qset_self _ _ _ | (rw [qset_ne _ _ (by omega)]; first | assumption | exact qset_self _ _ _ | (rw [qset_ne _ _ (by omega)]; first | assumption | exact qset_self _ _ _ | (rw [qset_ne _ _ (by omega)]; first | assumption | exact qset_self _ _ _ | (rw [qset_ne _ _ (by omega)]; first | assumption | exact qset_self _ _ _ | (rw [qset_ne _ _ (by omega)]; first | assumption | exact qset_self _ _ _ | (rw [qset_ne _ _ (by omega)]; first | assumption | exact qset_self _ _ _))))))) rfl ?_
            refine v_goto (tgt := 88) i_M_disk_58 rfl ?_
            rw [pk_un (by decide), e13]
            exact v_iret i_M_disk_88 rfl (by decide) (by decide) (fin _ rfl)
        · subst q39
          refine v_aload_n i_M_disk_42 rfl ?_
          refine v_get B i_M_disk_43 (by first | assumption | exact qset_self _ _ _ | (rw [qset_ne _ _ (by omega)]; first | assumption | exact qset_self _ _ _ | (rw [qset_ne _ _ (by omega)]; first | assumption | exact qset_self _ _ _ | (rw [qset_ne _ _ (by omega)]; first | assumption | exact qset_self _ _ _ | (rw [qset_ne _ _ (by omega)]; first | assumption | exact qset_self _ _ _ | (rw [qset_ne _ _ (by omega)]; first | assumption | exact qset_self _ _ _ | (rw [qset_ne _ _ (by omega)]; first | assumption | exact qset_self _ _ _))))))) rfl ?_
          refine v_goto (tgt := 88) i_M_disk_46 rfl ?_
          rw [pk_un (by decide), e21]
          refine v_iret i_M_disk_88 rfl (by decide) (by decide) (fin _ ?_)
          show some (if D.2.2.2.2 = true then 0 else nI (lat - dlat D)) = _
          cases D.2.2.2.2 <;> rfl
      · subst q27
        refine v_aload_n i_M_disk_30 rfl ?_
        refine v_get B i_M_disk_31 (by first | assumption | exact qset_self _ _ _ | (rw [qset_ne _ _ (by omega)]; first | assumption | exact qset_self _ _ _ | (rw [qset_ne _ _ (by omega)]; first | assumption | exact qset_self _ _ _ | (rw [qset_ne _ _ (by omega)]; first | assumption | exact qset_self _ _ _ | (rw [qset_ne _ _ (by omega)]; first | assumption | exact qset_self _ _ _ | (rw [qset_ne _ _ (by omega)]; first | assumption | exact qset_self _ _ _ | (rw [qset_ne _ _ (by omega)]; first | assumption | exact qset_self _ _ _))))))) rfl ?_
        refine v_goto (tgt := 88) i_M_disk_34 rfl ?_
        rw [pk_un (by decide), e20]
        exact v_iret i_M_disk_88 rfl (by decide) (by decide) (fin _ rfl)
  refine v_aload_n i_M_disk_0 rfl ?_
  refine v_iload_n i_M_disk_1 rfl ?_
  refine v_if_lt (tgt := 10) i_M_disk_2 rfl (fun q2 => ?_) (fun q2 => ?_)
  · refine v_iconst (v := 1) i_M_disk_10 rfl ?_
    refine v_goto (tgt := 15) i_M_disk_11 rfl ?_
    exact main true (by
      rw [show rg w 4 = false from decide_eq_false (fun z => by have := Int32.le_iff_toInt_le.mp z.1; have := Int32.lt_iff_toInt_lt.mp q2; omega)]; rfl)
  · refine v_iload_n i_M_disk_5 rfl ?_
    refine v_iconst (v := 4) i_M_disk_6 rfl ?_
    refine v_icmp_le (tgt := 14) i_M_disk_7 rfl (fun q7 => ?_) (fun q7 => ?_)
    · refine v_iconst (v := 0) i_M_disk_14 rfl ?_
      exact main false (by
        rw [show rg w 4 = true from decide_eq_true ⟨Int32.le_iff_toInt_le.mpr (by have : ¬ w.toInt < (0 : Int32).toInt := fun z => q2 (Int32.lt_iff_toInt_lt.mpr z); omega), q7⟩]; rfl)
    · refine v_iconst (v := 1) i_M_disk_10 rfl ?_
      refine v_goto (tgt := 15) i_M_disk_11 rfl ?_
      exact main true (by
        rw [show rg w 4 = false from decide_eq_false (fun z => q7 z.2)]; rfl)
theorem c_M_cut (B : qB l s0 C) (h : MAt X m s I J) {b : Bool} (hb : s 25 = bI b) (n : Int32) : qMet l s0 C m_M_cut rm_M_cut [.ref m, .int n] X (fun r X' => r = none ∧ MAt X' m (if (b || decide (n < -1)) = true then upd s 0 (mcode b (decide (n < -1)) false false) else upd (upd s 0 0) 26 n) I J ∧ qSame X X' m (m + 30)) (fun _ _ => False) := by
  obtain ⟨h0, -⟩ := id h
  refine q_of (by decide +kernel) (Nat.le_of_ble_eq_true rfl) ?_
  refine v_L (L' := [(0, .ref m), (1, .int n)]) rfl ?_
  have main : ∀ f : Bool, f = decide (n < -1) → qV l s0 C m_M_cut rm_M_cut (fun r X' => r = none ∧ MAt X' m (if (b || decide (n < -1)) = true then upd s 0 (mcode b (decide (n < -1)) false false) else upd (upd s 0 0) 26 n) I J ∧ qSame X X' m (m + 30)) (fun _ _ => False) 0 0 X 15 [(0, .ref m), (1, .int n)] [.int (bI f), .int (bI b), .ref m] := by
    intro f hfe
    refine v_iconst (v := 0) i_M_cut_15 rfl ?_
    refine v_iconst (v := 0) i_M_cut_16 rfl ?_
    refine v_inv B i_M_cut_17 kn_m_M_fails (c_M_fails B h b f false false) h0 rfl rfl (Nat.le_of_ble_eq_true rfl) ⟨by decide, by decide, by first | decide | (simp; omega), by first | decide | (simp; omega)⟩ rfl (fun r X' hq => ?_) (fun _ _ h => False.elim h)
    obtain ⟨rfl, h1, f1⟩ := hq
    by_cases hf : (b || f || false || false) = true
    · rw [hf]
      refine v_if_ne (tgt := 28) i_M_cut_20 rfl (fun _ => ?_) (fun q20 => absurd q20 (by decide))
      refine v_vret i_M_cut_28 rfl (by decide) (by decide) ⟨rfl, ?_, f1⟩
      rw [← hfe, if_pos (by simpa using hf)]; exact h1
    · rw [Bool.not_eq_true] at hf
      rw [hf]
      refine v_if_ne (tgt := 28) i_M_cut_20 rfl (fun q20 => absurd rfl q20) (fun _ => ?_)
      simp only [Bool.or_false, Bool.or_eq_false_iff] at hf
      obtain ⟨hf1, hf2⟩ := hf
      rw [hf1, hf2] at h1
      refine v_aload_n i_M_cut_23 rfl ?_
      refine v_iload_n i_M_cut_24 rfl ?_
      refine v_mput B h1 (j := 26) i_M_cut_25 (Nat.le_of_ble_eq_true rfl) rfl rfl rfl (fun X2 h2 f2 => ?_)
      refine v_vret i_M_cut_28 rfl (by decide) (by decide) ⟨rfl, ?_, f1.trans f2⟩
      rw [← hfe, hf1, hf2]; exact h2
  refine v_aload_n i_M_cut_0 rfl ?_
  refine v_aload_n i_M_cut_1 rfl ?_
  refine v_get B i_M_cut_2 (by first | assumption | exact qset_self _ _ _ | (rw [qset_ne _ _ (by omega)]; first | assumption | exact qset_self _ _ _ | (rw [qset_ne _ _ (by omega)]; first | assumption | exact qset_self _ _ _ | (rw [qset_ne _ _ (by omega)]; first | assumption | exact qset_self _ _ _ | (rw [qset_ne _ _ (by omega)]; first | assumption | exact qset_self _ _ _ | (rw [qset_ne _ _ (by omega)]; first | assumption | exact qset_self _ _ _ | (rw [qset_ne _ _ (by omega)]; first | assumption | exact qset_self _ _ _))))))) rfl ?_
  refine v_iload_n i_M_cut_5 rfl ?_
  refine v_iconst (v := (-1)) i_M_cut_6 rfl ?_
  rw [hb]
  refine v_icmp_ge (tgt := 14) i_M_cut_7 rfl (fun q7 => ?_) (fun q7 => ?_)
  · refine v_iconst (v := 0) i_M_cut_14 rfl ?_
    exact main false (decide_eq_false (fun z => absurd (Int32.lt_of_le_of_lt q7 z) Int32.lt_irrefl)).symm
  · refine v_iconst (v := 1) i_M_cut_10 rfl ?_
    refine v_goto (tgt := 15) i_M_cut_11 rfl ?_
    exact main true (decide_eq_true (Int32.not_le.mp q7)).symm
theorem c_M_down (B : qB l s0 C) (h : MAt X m s I J) {b : Bool} (hb : s 25 = bI b) : qMet l s0 C m_M_down rm_M_down [.ref m] X (fun r X' => r = none ∧ MAt X' m (if b = true then upd s 0 1 else upd (upd (upd (upd s 0 0) 25 1) 26 (-1)) 21 0) I J ∧ qSame X X' m (m + 30)) (fun _ _ => False) := by
  obtain ⟨h0, -⟩ := id h
  refine q_of (by decide +kernel) (Nat.le_of_ble_eq_true rfl) ?_
  refine v_L (L' := [(0, .ref m)]) rfl ?_
  refine v_aload_n i_M_down_0 rfl ?_
  refine v_inv B i_M_down_1 kn_m_M_isDown (c_M_isDown B h hb) h0 rfl rfl (Nat.le_of_ble_eq_true rfl) ⟨by decide, by decide, by first | decide | (simp; omega), by first | decide | (simp; omega)⟩ rfl (fun r X' hq => ?_) (fun _ _ h => False.elim h)
  obtain ⟨rfl, h1, f1⟩ := hq
  obtain ⟨k0, -⟩ := id h1
  cases b with
  | true =>
    refine v_if_ne (tgt := 11) i_M_down_4 rfl (fun _ => ?_) (fun q4 => absurd q4 (by decide))
    refine v_vret i_M_down_11 rfl (by decide) (by decide) ⟨rfl, ?_, f1⟩
    rw [if_pos rfl]; exact h1
  | false =>
    refine v_if_ne (tgt := 11) i_M_down_4 rfl (fun q4 => absurd rfl q4) (fun _ => ?_)
    refine v_aload_n i_M_down_7 rfl ?_
    refine v_inv B i_M_down_8 kn_m_M_goDown (c_M_goDown B h1) k0 rfl rfl (Nat.le_of_ble_eq_true rfl) ⟨by decide, by decide, by first | decide | (simp; omega), by first | decide | (simp; omega)⟩ rfl (fun r X' hq => ?_) (fun _ _ h => False.elim h)
    obtain ⟨rfl, h2, f2⟩ := hq
    refine v_vret i_M_down_11 rfl (by decide) (by decide) ⟨rfl, ?_, f1.trans f2⟩
    rw [if_neg (by decide)]; exact h2
theorem c_M_spoil (B : qB l s0 C) (h : MAt X m s I J) {nb : Nat} (e20 : s 20 = nI nb) (hnb : nb ≤ 40) (v : Int32) : qMet l s0 C m_M_spoil rm_M_spoil [.ref m, .int v] X (fun r X' => r = none ∧ (∀ i, i < nb → v = nI i → MAt X' m (upd s 0 0) (mIu I 12 i 1) J) ∧ (¬ (0 ≤ v ∧ v < nI nb) → MAt X' m (upd s 0 1) I J) ∧ qSame X X' m (m + 30)) (fun _ _ => False) := by
  obtain ⟨h0, -⟩ := id h
  refine q_of (by decide +kernel) (Nat.le_of_ble_eq_true rfl) ?_
  refine v_L (L' := [(0, .ref m), (1, .int v)]) rfl ?_
  have bad : ¬ (0 ≤ v ∧ v < nI nb) → qV l s0 C m_M_spoil rm_M_spoil (fun r X' => r = none ∧ (∀ i, i < nb → v = nI i → MAt X' m (upd s 0 0) (mIu I 12 i 1) J) ∧ (¬ (0 ≤ v ∧ v < nI nb) → MAt X' m (upd s 0 1) I J) ∧ qSame X X' m (m + 30)) (fun _ _ => False) 0 0 X 13 [(0, .ref m), (1, .int v)] [.ref m] := by
    intro hn
    refine v_iconst (v := 1) i_M_spoil_13 rfl ?_
    refine v_goto (tgt := 18) i_M_spoil_14 rfl ?_
    refine v_iconst (v := 0) i_M_spoil_18 rfl ?_
    refine v_iconst (v := 0) i_M_spoil_19 rfl ?_
    refine v_iconst (v := 0) i_M_spoil_20 rfl ?_
    refine v_inv B i_M_spoil_21 kn_m_M_fails (c_M_fails B h true false false false) h0 rfl rfl (Nat.le_of_ble_eq_true rfl) ⟨by decide, by decide, by first | decide | (simp; omega), by first | decide | (simp; omega)⟩ rfl (fun r X' hq => ?_) (fun _ _ h => False.elim h)
    obtain ⟨rfl, h1, f1⟩ := hq
    refine v_if_ne (tgt := 34) i_M_spoil_24 rfl (fun _ => ?_) (fun q24 => absurd q24 (by decide))
    refine v_vret i_M_spoil_34 rfl (by decide) (by decide) ⟨rfl, fun i hi e => ?_, fun _ => h1, f1⟩
    exact absurd ⟨by rw [e]; exact nI_pos' (by omega), by rw [e]; exact nI_lt hi (by omega)⟩ hn
  refine v_aload_n i_M_spoil_0 rfl ?_
  refine v_iload_n i_M_spoil_1 rfl ?_
  refine v_if_lt (tgt := 13) i_M_spoil_2 rfl (fun q2 => ?_) (fun q2 => ?_)
  · exact bad (fun z => by have := Int32.le_iff_toInt_le.mp z.1; have := Int32.lt_iff_toInt_lt.mp q2; omega)
  · refine v_iload_n i_M_spoil_5 rfl ?_
    refine v_aload_n i_M_spoil_6 rfl ?_
    refine v_get B i_M_spoil_7 (by first | assumption | exact qset_self _ _ _ | (rw [qset_ne _ _ (by omega)]; first | assumption | exact qset_self _ _ _ | (rw [qset_ne _ _ (by omega)]; first | assumption | exact qset_self _ _ _ | (rw [qset_ne _ _ (by omega)]; first | assumption | exact qset_self _ _ _ | (rw [qset_ne _ _ (by omega)]; first | assumption | exact qset_self _ _ _ | (rw [qset_ne _ _ (by omega)]; first | assumption | exact qset_self _ _ _ | (rw [qset_ne _ _ (by omega)]; first | assumption | exact qset_self _ _ _))))))) rfl ?_
    rw [e20]
    refine v_icmp_lt (tgt := 17) i_M_spoil_10 rfl (fun q10 => ?_) (fun q10 => ?_)
    · obtain ⟨i, ib, rfl⟩ := nI_of q2
      have i1 : i < nb := (nI_ltI ib (by omega)).mp q10
      refine v_iconst (v := 0) i_M_spoil_17 rfl ?_
      refine v_iconst (v := 0) i_M_spoil_18 rfl ?_
      refine v_iconst (v := 0) i_M_spoil_19 rfl ?_
      refine v_iconst (v := 0) i_M_spoil_20 rfl ?_
      refine v_inv B i_M_spoil_21 kn_m_M_fails (c_M_fails B h false false false false) h0 rfl rfl (Nat.le_of_ble_eq_true rfl) ⟨by decide, by decide, by first | decide | (simp; omega), by first | decide | (simp; omega)⟩ rfl (fun r X' hq => ?_) (fun _ _ h => False.elim h)
      obtain ⟨rfl, h1, f1⟩ := hq
      obtain ⟨k0, -⟩ := id h1
      refine v_if_ne (tgt := 34) i_M_spoil_24 rfl (fun q24 => absurd rfl q24) (fun _ => ?_)
      refine v_aload_n i_M_spoil_27 rfl ?_
      refine v_get B i_M_spoil_28 (by first | assumption | exact qset_self _ _ _ | (rw [qset_ne _ _ (by omega)]; first | assumption | exact qset_self _ _ _ | (rw [qset_ne _ _ (by omega)]; first | assumption | exact qset_self _ _ _ | (rw [qset_ne _ _ (by omega)]; first | assumption | exact qset_self _ _ _ | (rw [qset_ne _ _ (by omega)]; first | assumption | exact qset_self _ _ _ | (rw [qset_ne _ _ (by omega)]; first | assumption | exact qset_self _ _ _ | (rw [qset_ne _ _ (by omega)]; first | assumption | exact qset_self _ _ _))))))) rfl ?_
      refine v_iload_n i_M_spoil_31 rfl ?_
      refine v_iconst (v := 1) i_M_spoil_32 rfl ?_
      refine v_mzst B h1 (a := 12) (N := 40) (j := i) rfl rfl (by decide) (by decide) (rfl) (by omega) (by omega) (by first | exact Or.inl rfl | exact Or.inr rfl | assumption | exact bI_01 _) i_M_spoil_33 (fun X2 h2 f2 => ?_)
      refine v_vret i_M_spoil_34 rfl (by decide) (by decide) ⟨rfl, fun i' hi' e => ?_, fun z => absurd ⟨nI_pos' (by omega), nI_lt i1 (by omega)⟩ z, f1.trans f2⟩
      rw [← (nI_eq (by omega) (by omega)).mp e]; exact h2
    · exact bad (fun z => q10 z.2)
theorem c_M_dense_v (B : qB l s0 C) (h : MAt X m s I J) (hT : MT s I J pg made lat dt ro rb) (hrb : lat ≤ rb) {p e : Nat} (hp : p < made) (he : e ≤ lat + 1) {Qp : Option Value → qX → Prop} (z3 : Int32) (hz : z3 = nI e - 1)
    (hd : ∀ w, (pg p).2.1 ≤ w → w < e → p = ro w ∨ 3 ≤ gliving (pg p).2.2.2 w (pg p).2.2.2.length)
    (K : ∀ z4 : Int32, qV l s0 C m_M_dense rm_M_dense Qp (fun _ _ => False) 0 0 X 98 [(0, .ref m), (1, .int 1), (2, .int (nI p)), (3, .int z3), (4, .int z4)] []) : ∀ (j v : Nat), (pg p).2.1 ≤ v → (v + j = e ∨ e ≤ v ∧ j = 0) → v < 2 ^ 30 →
      qV l s0 C m_M_dense rm_M_dense Qp (fun _ _ => False) 0 0 X 54 [(0, .ref m), (1, .int 1), (2, .int (nI p)), (3, .int z3), (4, .int (nI v))] [] := by
  obtain ⟨t1, ⟨t2, t2b, t2c, t2d⟩, t3, t4, t5, t6⟩ := id hT
  obtain ⟨h0, a1, a2, a3, a4, a5, a6, a7, a8, a9, a10, a11, a12, a13, a14, a15, a16, a17, a18, a19, a20, a21, a22, a23, a24, a25, a26, a27, a28, a29⟩ := h.all
  have cmp : ∀ v, v < 2 ^ 30 → (z3 < nI v ↔ e ≤ v) := by
    intro v hv
    rw [hz, Int32.lt_iff_toInt_lt, nI_toInt (by omega)]
    have : (nI e - 1).toInt = (e : Int) - 1 := by
      cases e with
      | zero => rfl
      | succ e => rw [show nI (e + 1) - 1 = nI e from nI_pred e, nI_toInt (by omega)]; omega
    rw [this]; omega
  intro j
  induction j with
  | zero =>
    intro v hv hj hv2
    refine v_iload i_M_dense_54 rfl ?_
    refine v_iload_n i_M_dense_56 rfl ?_
    refine v_icmp_gt (tgt := 98) i_M_dense_57 rfl (fun q57 => K _) (fun q57 => absurd ((cmp v hv2).mpr (by omega)) q57)
  | succ j ih =>
    intro v hv hj hv2
    have hve : v < e := by omega
    refine v_iload i_M_dense_54 rfl ?_
    refine v_iload_n i_M_dense_56 rfl ?_
    refine v_icmp_gt (tgt := 98) i_M_dense_57 rfl (fun q57 => absurd ((cmp v hv2).mp q57) (by omega)) (fun q57 => ?_)
    have nxt : qV l s0 C m_M_dense rm_M_dense Qp (fun _ _ => False) 0 0 X 86 [(0, .ref m), (1, .int 1), (2, .int (nI p)), (3, .int z3), (4, .int (nI v))] [] := by
      refine v_iconst (v := 1) i_M_dense_86 rfl ?_
      refine v_goto (tgt := 91) i_M_dense_87 rfl ?_
      refine v_istore_n i_M_dense_91 (by decide) rfl ?_
      refine v_iinc (v := nI (v + 1)) i_M_dense_92 rfl (nI_1 _) (by decide) rfl ?_
      refine v_goto (tgt := 54) i_M_dense_95 rfl ?_
      exact v_loc [(0, .ref m), (1, .int 1), (2, .int (nI p)), (3, .int z3), (4, .int (nI (v + 1)))] rfl (ih (v + 1) (by omega) (by omega) (by omega))
    refine v_iload_n i_M_dense_60 rfl ?_
    refine v_if_eq (tgt := 90) i_M_dense_61 rfl (fun q61 => absurd q61 (by decide)) (fun _ => ?_)
    refine v_aload_n i_M_dense_64 rfl ?_
    refine v_get B i_M_dense_65 (by first | assumption | exact qset_self _ _ _ | (rw [qset_ne _ _ (by omega)]; first | assumption | exact qset_self _ _ _ | (rw [qset_ne _ _ (by omega)]; first | assumption | exact qset_self _ _ _ | (rw [qset_ne _ _ (by omega)]; first | assumption | exact qset_self _ _ _ | (rw [qset_ne _ _ (by omega)]; first | assumption | exact qset_self _ _ _ | (rw [qset_ne _ _ (by omega)]; first | assumption | exact qset_self _ _ _ | (rw [qset_ne _ _ (by omega)]; first | assumption | exact qset_self _ _ _))))))) rfl ?_
    refine v_iload i_M_dense_68 rfl ?_
    refine v_iald B (by first | assumption | exact qset_self _ _ _ | (rw [qset_ne _ _ (by omega)]; first | assumption | exact qset_self _ _ _ | (rw [qset_ne _ _ (by omega)]; first | assumption | exact qset_self _ _ _ | (rw [qset_ne _ _ (by omega)]; first | assumption | exact qset_self _ _ _ | (rw [qset_ne _ _ (by omega)]; first | assumption | exact qset_self _ _ _ | (rw [qset_ne _ _ (by omega)]; first | assumption | exact qset_self _ _ _ | (rw [qset_ne _ _ (by omega)]; first | assumption | exact qset_self _ _ _))))))) rfl (by omega) (by omega) i_M_dense_70 ?_
    refine v_iload_n i_M_dense_71 rfl ?_
    rw [(t5 v (by omega)).1]
    refine v_icmp_eq (tgt := 86) i_M_dense_72 rfl (fun _ => nxt) (fun q72 => ?_)
    have h3 : 3 ≤ gliving (pg p).2.2.2 v (pg p).2.2.2.length := by
      rcases hd v hv hve with q | q
      · exact absurd (by rw [q]) q72
      · exact q
    have hgl := gliving_le (pg p).2.2.2 v (pg p).2.2.2.length
    have o4 := (t4 p hp).1.2.2.2.1
    refine v_aload_n i_M_dense_75 rfl ?_
    refine v_iload_n i_M_dense_76 rfl ?_
    refine v_iload i_M_dense_77 rfl ?_
    refine v_inv B i_M_dense_79 kn_m_M_aliveIn (c_M_aliveIn B h (t4 p hp) (by omega) (v := v) (by omega)) h0 rfl rfl (Nat.le_of_ble_eq_true rfl) ⟨by decide, by decide, by first | decide | (simp; omega), by first | decide | (simp; omega)⟩ rfl (fun r X' hq => ?_) (fun _ _ h => False.elim h)
    obtain ⟨rfl, rfl⟩ := hq
    refine v_iconst (v := 2) i_M_dense_82 rfl ?_
    refine v_icmp_le (tgt := 90) i_M_dense_83 rfl (fun q83 => absurd q83 (nI_ge (a := 2) (by omega) (by omega))) (fun _ => nxt)
theorem c_M_dense_p (B : qB l s0 C) (h : MAt X m s I J) (hT : MT s I J pg made lat dt ro rb) (hrb : lat ≤ rb) (hc : ∀ p, p < made → (pg p).2.1 ≤ lat ∧ oLt (pg p).2.2.1 (lat + 1))
    (hd : ∀ p, p < made → ∀ w, w ≤ lat → gserves (pg p) w = true → p = ro w ∨ 3 ≤ gliving (pg p).2.2.2 w (pg p).2.2.2.length) {Qp : Option Value → qX → Prop}
    (K : ∀ L4 : List (Nat × Value), qV l s0 C m_M_dense rm_M_dense Qp (fun _ _ => False) 0 0 X 104 ([(0, .ref m), (1, .int 1)]) []) : ∀ (j p : Nat), p + j = made →
      qV l s0 C m_M_dense rm_M_dense Qp (fun _ _ => False) 0 0 X 13 [(0, .ref m), (1, .int 1), (2, .int (nI p))] [] := by
  obtain ⟨t1, ⟨t2, t2b, t2c, t2d⟩, t3, t4, t5, t6⟩ := id hT
  obtain ⟨h0, a1, a2, a3, a4, a5, a6, a7, a8, a9, a10, a11, a12, a13, a14, a15, a16, a17, a18, a19, a20, a21, a22, a23, a24, a25, a26, a27, a28, a29⟩ := h.all
  intro j
  induction j with
  | zero =>
    intro p hj
    refine v_iload_n i_M_dense_13 rfl ?_
    refine v_aload_n i_M_dense_14 rfl ?_
    refine v_get B i_M_dense_15 (by first | assumption | exact qset_self _ _ _ | (rw [qset_ne _ _ (by omega)]; first | assumption | exact qset_self _ _ _ | (rw [qset_ne _ _ (by omega)]; first | assumption | exact qset_self _ _ _ | (rw [qset_ne _ _ (by omega)]; first | assumption | exact qset_self _ _ _ | (rw [qset_ne _ _ (by omega)]; first | assumption | exact qset_self _ _ _ | (rw [qset_ne _ _ (by omega)]; first | assumption | exact qset_self _ _ _ | (rw [qset_ne _ _ (by omega)]; first | assumption | exact qset_self _ _ _))))))) rfl ?_
    rw [t1]
    refine v_icmp_ge (tgt := 104) i_M_dense_18 rfl (fun q18 => ?_) (fun q18 => absurd (nI_le (by omega) (by omega)) q18)
    exact v_loc [(0, .ref m), (1, .int 1)] rfl (K [])
  | succ j ih =>
    intro p hj
    have hp : p < made := by omega
    obtain ⟨⟨o1, o2, o3, o4, o5⟩, g1, g2, g3, g4, -⟩ := id (t4 p hp)
    refine v_iload_n i_M_dense_13 rfl ?_
    refine v_aload_n i_M_dense_14 rfl ?_
    refine v_get B i_M_dense_15 (by first | assumption | exact qset_self _ _ _ | (rw [qset_ne _ _ (by omega)]; first | assumption | exact qset_self _ _ _ | (rw [qset_ne _ _ (by omega)]; first | assumption | exact qset_self _ _ _ | (rw [qset_ne _ _ (by omega)]; first | assumption | exact qset_self _ _ _ | (rw [qset_ne _ _ (by omega)]; first | assumption | exact qset_self _ _ _ | (rw [qset_ne _ _ (by omega)]; first | assumption | exact qset_self _ _ _ | (rw [qset_ne _ _ (by omega)]; first | assumption | exact qset_self _ _ _))))))) rfl ?_
    rw [t1]
    refine v_icmp_ge (tgt := 104) i_M_dense_18 rfl (fun q18 => absurd q18 (nI_ge (by omega) (by omega))) (fun q18 => ?_)
    have fin : ∀ (e : Nat) (z3 : Int32), z3 = nI e - 1 → e ≤ lat + 1 → (∀ w, (pg p).2.1 ≤ w → w < e → gserves (pg p) w = true) → qV l s0 C m_M_dense rm_M_dense Qp (fun _ _ => False) 0 0 X 45 [(0, .ref m), (1, .int 1), (2, .int (nI p))] [.int z3] := by
      intro e z3 hz he hs
      refine v_istore_n i_M_dense_45 (by decide) rfl ?_
      refine v_aload_n i_M_dense_46 rfl ?_
      refine v_get B i_M_dense_47 (by first | assumption | exact qset_self _ _ _ | (rw [qset_ne _ _ (by omega)]; first | assumption | exact qset_self _ _ _ | (rw [qset_ne _ _ (by omega)]; first | assumption | exact qset_self _ _ _ | (rw [qset_ne _ _ (by omega)]; first | assumption | exact qset_self _ _ _ | (rw [qset_ne _ _ (by omega)]; first | assumption | exact qset_self _ _ _ | (rw [qset_ne _ _ (by omega)]; first | assumption | exact qset_self _ _ _ | (rw [qset_ne _ _ (by omega)]; first | assumption | exact qset_self _ _ _))))))) rfl ?_
      refine v_iload_n i_M_dense_50 rfl ?_
      refine v_iald B (by first | assumption | exact qset_self _ _ _ | (rw [qset_ne _ _ (by omega)]; first | assumption | exact qset_self _ _ _ | (rw [qset_ne _ _ (by omega)]; first | assumption | exact qset_self _ _ _ | (rw [qset_ne _ _ (by omega)]; first | assumption | exact qset_self _ _ _ | (rw [qset_ne _ _ (by omega)]; first | assumption | exact qset_self _ _ _ | (rw [qset_ne _ _ (by omega)]; first | assumption | exact qset_self _ _ _ | (rw [qset_ne _ _ (by omega)]; first | assumption | exact qset_self _ _ _))))))) rfl (by omega) (by omega) i_M_dense_51 ?_
      rw [g2]
      refine v_istore i_M_dense_52 (by decide) rfl ?_
      refine v_loc [(0, .ref m), (1, .int 1), (2, .int (nI p)), (3, .int z3), (4, .int (nI (pg p).2.1))] rfl ?_
      refine c_M_dense_v B h hT hrb hp he z3 hz (fun w w1 w2 => hd p hp w (by omega) (hs w w1 w2)) (fun z4 => ?_) (e - (pg p).2.1) (pg p).2.1 (Nat.le_refl _) (by omega) o2
      refine v_iinc (v := nI (p + 1)) i_M_dense_98 rfl (nI_1 _) (by decide) rfl ?_
      refine v_goto (tgt := 13) i_M_dense_101 rfl ?_
      exact v_loc [(0, .ref m), (1, .int 1), (2, .int (nI (p + 1)))] rfl (ih (p + 1) (by omega))
    obtain ⟨hc1, hc2⟩ := hc p hp
    refine v_aload_n i_M_dense_21 rfl ?_
    refine v_get B i_M_dense_22 (by first | assumption | exact qset_self _ _ _ | (rw [qset_ne _ _ (by omega)]; first | assumption | exact qset_self _ _ _ | (rw [qset_ne _ _ (by omega)]; first | assumption | exact qset_self _ _ _ | (rw [qset_ne _ _ (by omega)]; first | assumption | exact qset_self _ _ _ | (rw [qset_ne _ _ (by omega)]; first | assumption | exact qset_self _ _ _ | (rw [qset_ne _ _ (by omega)]; first | assumption | exact qset_self _ _ _ | (rw [qset_ne _ _ (by omega)]; first | assumption | exact qset_self _ _ _))))))) rfl ?_
    refine v_iload_n i_M_dense_25 rfl ?_
    refine v_iald B (by first | assumption | exact qset_self _ _ _ | (rw [qset_ne _ _ (by omega)]; first | assumption | exact qset_self _ _ _ | (rw [qset_ne _ _ (by omega)]; first | assumption | exact qset_self _ _ _ | (rw [qset_ne _ _ (by omega)]; first | assumption | exact qset_self _ _ _ | (rw [qset_ne _ _ (by omega)]; first | assumption | exact qset_self _ _ _ | (rw [qset_ne _ _ (by omega)]; first | assumption | exact qset_self _ _ _ | (rw [qset_ne _ _ (by omega)]; first | assumption | exact qset_self _ _ _))))))) rfl (by omega) (by omega) i_M_dense_26 ?_
    rw [g3]
    refine v_if_ge (tgt := 37) i_M_dense_27 rfl (fun q27 => ?_) (fun q27 => ?_)
    · cases hdd : (pg p).2.2.1 with
      | none => rw [hdd] at q27; exact absurd q27 (by decide)
      | some t =>
        have ht := hc2 t hdd
        refine v_aload_n i_M_dense_37 rfl ?_
        refine v_get B i_M_dense_38 (by first | assumption | exact qset_self _ _ _ | (rw [qset_ne _ _ (by omega)]; first | assumption | exact qset_self _ _ _ | (rw [qset_ne _ _ (by omega)]; first | assumption | exact qset_self _ _ _ | (rw [qset_ne _ _ (by omega)]; first | assumption | exact qset_self _ _ _ | (rw [qset_ne _ _ (by omega)]; first | assumption | exact qset_self _ _ _ | (rw [qset_ne _ _ (by omega)]; first | assumption | exact qset_self _ _ _ | (rw [qset_ne _ _ (by omega)]; first | assumption | exact qset_self _ _ _))))))) rfl ?_
        refine v_iload_n i_M_dense_41 rfl ?_
        refine v_iald B (by first | assumption | exact qset_self _ _ _ | (rw [qset_ne _ _ (by omega)]; first | assumption | exact qset_self _ _ _ | (rw [qset_ne _ _ (by omega)]; first | assumption | exact qset_self _ _ _ | (rw [qset_ne _ _ (by omega)]; first | assumption | exact qset_self _ _ _ | (rw [qset_ne _ _ (by omega)]; first | assumption | exact qset_self _ _ _ | (rw [qset_ne _ _ (by omega)]; first | assumption | exact qset_self _ _ _ | (rw [qset_ne _ _ (by omega)]; first | assumption | exact qset_self _ _ _))))))) rfl (by omega) (by omega) i_M_dense_42 ?_
        refine v_iconst (v := 1) i_M_dense_43 rfl ?_
        rw [g3, hdd]
        refine v_isub i_M_dense_44 ?_
        refine fin t _ rfl (by omega) (fun w w1 w2 => ?_)
        unfold gserves
        rw [hdd]
        simp [w1, w2]
    · have hdd : (pg p).2.2.1 = none := by
        cases hq : (pg p).2.2.1 with
        | none => rfl
        | some t => rw [hq] at q27; exact absurd (nI_pos' (by have := hc2 t hq; omega)) q27
      refine v_aload_n i_M_dense_30 rfl ?_
      refine v_get B i_M_dense_31 (by first | assumption | exact qset_self _ _ _ | (rw [qset_ne _ _ (by omega)]; first | assumption | exact qset_self _ _ _ | (rw [qset_ne _ _ (by omega)]; first | assumption | exact qset_self _ _ _ | (rw [qset_ne _ _ (by omega)]; first | assumption | exact qset_self _ _ _ | (rw [qset_ne _ _ (by omega)]; first | assumption | exact qset_self _ _ _ | (rw [qset_ne _ _ (by omega)]; first | assumption | exact qset_self _ _ _ | (rw [qset_ne _ _ (by omega)]; first | assumption | exact qset_self _ _ _))))))) rfl ?_
      refine v_goto (tgt := 45) i_M_dense_34 rfl ?_
      rw [t3]
      refine fin (lat + 1) _ (nI_pred lat).symm (Nat.le_refl _) (fun w w1 w2 => ?_)
      unfold gserves
      rw [hdd]
      simp [w1]
theorem c_M_dense (B : qB l s0 C) (h : MAt X m s I J) {b : Bool} (hb : s 25 = bI b) (hT : MT s I J pg made lat dt ro rb) (hrb : lat ≤ rb) (hc : ∀ p, p < made → (pg p).2.1 ≤ lat ∧ oLt (pg p).2.2.1 (lat + 1)) (hd : ∀ p, p < made → ∀ w, w ≤ lat → gserves (pg p) w = true → p = ro w ∨ 3 ≤ gliving (pg p).2.2.2 w (pg p).2.2.2.length) : qMet l s0 C m_M_dense rm_M_dense [.ref m] X (fun r X' => r = some (.int (if b = true then 0 else 1)) ∧ mRO X X' m s I J (bI b)) (fun _ _ => False) := by
  obtain ⟨h0, -⟩ := id h
  refine q_of (by decide +kernel) (Nat.le_of_ble_eq_true rfl) ?_
  refine v_L (L' := [(0, .ref m)]) rfl ?_
  refine v_aload_n i_M_dense_0 rfl ?_
  refine v_inv B i_M_dense_1 kn_m_M_isDown (c_M_isDown B h hb) h0 rfl rfl (Nat.le_of_ble_eq_true rfl) ⟨by decide, by decide, by first | decide | (simp; omega), by first | decide | (simp; omega)⟩ rfl (fun r X' hq => ?_) (fun _ _ h => False.elim h)
  obtain ⟨rfl, h1, f1⟩ := hq
  have ho := mRO.of h1 f1
  cases b with
  | true =>
    refine v_if_eq (tgt := 9) i_M_dense_4 rfl (fun q4 => absurd q4 (by decide)) (fun _ => ?_)
    refine v_iconst (v := 0) i_M_dense_7 rfl ?_
    exact v_zret i_M_dense_8 rfl (Or.inl rfl) (by decide) (by decide) ⟨rfl, ho⟩
  | false =>
    refine v_if_eq (tgt := 9) i_M_dense_4 rfl (fun _ => ?_) (fun q4 => absurd rfl q4)
    refine v_iconst (v := 1) i_M_dense_9 rfl ?_
    refine v_istore_n i_M_dense_10 (by decide) rfl ?_
    refine v_iconst (v := 0) i_M_dense_11 rfl ?_
    refine v_istore_n i_M_dense_12 (by decide) rfl ?_
    refine v_loc [(0, .ref m), (1, .int 1), (2, .int (nI 0))] rfl ?_
    refine c_M_dense_p B h1 (hT.keep (A := []) (mK.rf _ _ _) ((sK.rf [0] s).set (by decide)) (by decide) (by decide)) hrb hc hd (fun _ => ?_) made 0 (by omega)
    refine v_iload_n i_M_dense_104 rfl ?_
    exact v_zret i_M_dense_105 rfl (Or.inr rfl) (by decide) (by decide) ⟨rfl, ho⟩
end MZ
