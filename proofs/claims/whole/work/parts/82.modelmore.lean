/-! the reference: pages, entries, the disk's numbers, power -/
abbrev rg (w : Int32) (n : Int32) : Bool := decide (0 ≤ w ∧ w ≤ n)
theorem cpage_rg {P : Pg} {kp : Nat} {w : Int32} : (cpage P kp w = none ↔ rg w 4 = false) := by
  unfold cpage rg
  by_cases h0 : w = 0
  · subst h0; simp; try decide
  · by_cases h1 : w = 1
    · subst h1; simp; try decide
    · by_cases h2 : w = 2
      · subst h2; simp; try decide
      · by_cases h3 : w = 3
        · subst h3; simp; try decide
        · by_cases h4 : w = 4
          · subst h4; simp; try decide
          · rw [if_neg h0, if_neg h1, if_neg h2, if_neg h3, if_neg h4]
            refine ⟨fun _ => decide_eq_false (fun q => ?_), fun _ => rfl⟩
            have a := Int32.le_iff_toInt_le.mp q.1
            have b := Int32.le_iff_toInt_le.mp q.2
            have e0 : (0 : Int32).toInt = 0 := rfl
            have e4 : (4 : Int32).toInt = 4 := rfl
            rw [e0] at a
            rw [e4] at b
            have n0 : w.toInt ≠ 0 := fun z => h0 (Int32.toInt_inj.mp z)
            have n1 : w.toInt ≠ 1 := fun z => h1 (Int32.toInt_inj.mp z)
            have n2 : w.toInt ≠ 2 := fun z => h2 (Int32.toInt_inj.mp z)
            have n3 : w.toInt ≠ 3 := fun z => h3 (Int32.toInt_inj.mp z)
            have n4 : w.toInt ≠ 4 := fun z => h4 (Int32.toInt_inj.mp z)
            omega
theorem centry_rg {P : Pg} {i : Nat} {w : Int32} : (centry P i w = none ↔ rg w 3 = false) := by
  unfold centry rg
  by_cases h0 : w = 0
  · subst h0; simp; try decide
  · by_cases h1 : w = 1
    · subst h1; simp; try decide
    · by_cases h2 : w = 2
      · subst h2; simp; try decide
      · by_cases h3 : w = 3
        · subst h3; simp; try decide
        · rw [if_neg h0, if_neg h1, if_neg h2, if_neg h3]
          refine ⟨fun _ => decide_eq_false (fun q => ?_), fun _ => rfl⟩
          have a := Int32.le_iff_toInt_le.mp q.1
          have b := Int32.le_iff_toInt_le.mp q.2
          have e0 : (0 : Int32).toInt = 0 := rfl
          have e4 : (3 : Int32).toInt = 3 := rfl
          rw [e0] at a
          rw [e4] at b
          have n0 : w.toInt ≠ 0 := fun z => h0 (Int32.toInt_inj.mp z)
          have n1 : w.toInt ≠ 1 := fun z => h1 (Int32.toInt_inj.mp z)
          have n2 : w.toInt ≠ 2 := fun z => h2 (Int32.toInt_inj.mp z)
          have n3 : w.toInt ≠ 3 := fun z => h3 (Int32.toInt_inj.mp z)
          omega
theorem cdisk_rg {pg : Nat → Pg} {made lat : Nat} {D : Dk} {w : Int32} : (cdisk pg made lat D w = none ↔ rg w 4 = false) := by
  unfold cdisk rg
  by_cases h0 : w = 0
  · subst h0; simp; try decide
  · by_cases h1 : w = 1
    · subst h1; simp; try decide
    · by_cases h2 : w = 2
      · subst h2; simp; try decide
      · by_cases h3 : w = 3
        · subst h3; simp; try decide
        · by_cases h4 : w = 4
          · subst h4; simp; try decide
          · rw [if_neg h0, if_neg h1, if_neg h2, if_neg h3, if_neg h4]
            refine ⟨fun _ => decide_eq_false (fun q => ?_), fun _ => rfl⟩
            have a := Int32.le_iff_toInt_le.mp q.1
            have b := Int32.le_iff_toInt_le.mp q.2
            have e0 : (0 : Int32).toInt = 0 := rfl
            have e4 : (4 : Int32).toInt = 4 := rfl
            rw [e0] at a
            rw [e4] at b
            have n0 : w.toInt ≠ 0 := fun z => h0 (Int32.toInt_inj.mp z)
            have n1 : w.toInt ≠ 1 := fun z => h1 (Int32.toInt_inj.mp z)
            have n2 : w.toInt ≠ 2 := fun z => h2 (Int32.toInt_inj.mp z)
            have n3 : w.toInt ≠ 3 := fun z => h3 (Int32.toInt_inj.mp z)
            have n4 : w.toInt ≠ 4 := fun z => h4 (Int32.toInt_inj.mp z)
            omega
section MX
variable {X X' : qX} {m : Nat} {s : Nat → Int32} {I : Nat → Nat → Int32} {J : Nat → Nat → Int64}
variable {pg : Nat → Pg} {made lat rb : Nat} {dt : Nat → Bool} {ro : Nat → Nat}
variable {l : Launch} {s0 : State} {C : qC}
theorem c_M_page (B : qB l s0 C) (h : MAt X m s I J) {b : Bool} (hb : s 25 = bI b) {kp : Nat} (hT : MT s I J pg made lat (fun q => gchg (pg q) kp) ro rb) (p w : Int32) : qMet l s0 C m_M_page rm_M_page [.ref m, .int p, .int w] X (fun r X' => ∃ z, r = some (.int z) ∧ (b = false → ∀ i, i < made → p = nI i → ∀ y, cpage (pg i) kp w = some y → z = y) ∧ mRO X X' m s I J (mcode b (!(pgn p made)) (!(rg w 4)) false)) (fun _ _ => False) := by
  obtain ⟨h0, -⟩ := id h
  refine q_of (by decide +kernel) (Nat.le_of_ble_eq_true rfl) ?_
  refine v_L (L' := [(0, .ref m), (1, .int p), (2, .int w)]) rfl ?_
  obtain ⟨t1, ⟨t2, t2b, t2c, t2d⟩, t3, t4, t5, t6⟩ := id hT
  have main : ∀ f : Bool, f = (!(rg w 4)) → qV l s0 C m_M_page rm_M_page (fun r X' => ∃ z, r = some (.int z) ∧ (b = false → ∀ i, i < made → p = nI i → ∀ y, cpage (pg i) kp w = some y → z = y) ∧ mRO X X' m s I J (mcode b (!(pgn p made)) (!(rg w 4)) false)) (fun _ _ => False) 0 0 X 32 [(0, .ref m), (1, .int p), (2, .int w)] [.int (bI f), .int (bI (!(pgn p made))), .int (bI b), .ref m] := by
    intro f hfe
    refine v_iconst (v := 0) i_M_page_32 rfl ?_
    refine v_inv B i_M_page_33 kn_m_M_fails (c_M_fails B h b (!(pgn p made)) f false) h0 rfl rfl (Nat.le_of_ble_eq_true rfl) ⟨by decide, by decide, by first | decide | (simp; omega), by first | decide | (simp; omega)⟩ rfl (fun r X' hq => ?_) (fun _ _ h => False.elim h)
    obtain ⟨rfl, h1, f1⟩ := hq
    have ho := mRO.of h1 f1
    rw [hfe] at ho
    obtain ⟨k0, a1, a2, a3, a4, a5, -⟩ := h1.all
    by_cases hf : (b || !(pgn p made) || f || false) = true
    · rw [hf]
      refine v_if_eq (tgt := 41) i_M_page_36 rfl (fun q36 => absurd q36 (by decide)) (fun _ => ?_)
      refine v_iconst (v := 0) i_M_page_39 rfl ?_
      refine v_iret i_M_page_40 rfl (by decide) (by decide) ⟨0, rfl, fun hb0 i hi e1 y hy => ?_, ho⟩
      have hr : rg w 4 = true := by
        cases hq : rg w 4
        · rw [cpage_rg.mpr hq] at hy; cases hy
        · rfl
      rw [hb0, hfe, e1, hr, show pgn (nI i) made = true from decide_eq_true ⟨nI_pos' (by omega), nI_lt hi (by omega)⟩] at hf; exact absurd hf (by decide)
    · rw [Bool.not_eq_true] at hf
      rw [hf]
      simp only [Bool.or_false, Bool.or_eq_false_iff, Bool.not_eq_false'] at hf
      obtain ⟨i, i1, rfl⟩ := pgn_of hf.1.2 t2b
      have hr : rg w 4 = true := by
        have := hf.2
        rw [hfe] at this
        simpa using this
      have fin : ∀ y : Int32, cpage (pg i) kp w = some y → ∃ z, some (Value.int y) = some (.int z) ∧ (b = false → ∀ i', i' < made → nI i = nI i' → ∀ y', cpage (pg i') kp w = some y' → z = y') ∧ mRO X X' m s I J (mcode b (!(pgn (nI i) made)) (!(rg w 4)) false) := by
        intro y hy
        refine ⟨y, rfl, fun _ i' hi' e y' hy' => ?_, ho⟩
        rw [← (nI_eq (by omega) (by omega)).mp e, hy] at hy'
        exact Option.some.inj hy'
      obtain ⟨g0, g1, g2, g3, g4, -⟩ := id (t4 i i1)
      refine v_if_eq (tgt := 41) i_M_page_36 rfl (fun _ => ?_) (fun q36 => absurd rfl q36)
      refine v_iload_n i_M_page_41 rfl ?_
      refine v_if_ne (tgt := 54) i_M_page_42 rfl (fun q42 => ?_) (fun q42 => ?_)
      · refine v_iload_n i_M_page_54 rfl ?_
        refine v_iconst (v := 1) i_M_page_55 rfl ?_
        refine v_icmp_ne (tgt := 68) i_M_page_56 rfl (fun q56 => ?_) (fun q56 => ?_)
        · refine v_iload_n i_M_page_68 rfl ?_
          refine v_iconst (v := 2) i_M_page_69 rfl ?_
          refine v_icmp_ne (tgt := 82) i_M_page_70 rfl (fun q70 => ?_) (fun q70 => ?_)
          · refine v_iload_n i_M_page_82 rfl ?_
            refine v_iconst (v := 3) i_M_page_83 rfl ?_
            refine v_icmp_ne (tgt := 96) i_M_page_84 rfl (fun q84 => ?_) (fun q84 => ?_)
            · have h4 : w = 4 := by
                have q := of_decide_eq_true hr
                have a := Int32.le_iff_toInt_le.mp q.1
                have b := Int32.le_iff_toInt_le.mp q.2
                have e0 : (0 : Int32).toInt = 0 := rfl
                have e4 : (4 : Int32).toInt = 4 := rfl
                rw [e0] at a
                rw [e4] at b
                have n0 : w.toInt ≠ 0 := fun z => q42 (Int32.toInt_inj.mp z)
                have n1 : w.toInt ≠ 1 := fun z => q56 (Int32.toInt_inj.mp z)
                have n2 : w.toInt ≠ 2 := fun z => q70 (Int32.toInt_inj.mp z)
                have n3 : w.toInt ≠ 3 := fun z => q84 (Int32.toInt_inj.mp z)
                exact Int32.toInt_inj.mp (by rw [e4]; omega)
              subst h4
              have hc : cpage (pg i) kp 4 = some (bI (gchg (pg i) kp)) := rfl
              refine v_aload_n i_M_page_96 rfl ?_
              refine v_get B i_M_page_97 (by first | assumption | exact qset_self _ _ _ | (rw [qset_ne _ _ (by omega)]; first | assumption | exact qset_self _ _ _ | (rw [qset_ne _ _ (by omega)]; first | assumption | exact qset_self _ _ _ | (rw [qset_ne _ _ (by omega)]; first | assumption | exact qset_self _ _ _ | (rw [qset_ne _ _ (by omega)]; first | assumption | exact qset_self _ _ _ | (rw [qset_ne _ _ (by omega)]; first | assumption | exact qset_self _ _ _ | (rw [qset_ne _ _ (by omega)]; first | assumption | exact qset_self _ _ _))))))) rfl ?_
              refine v_iload_n i_M_page_100 rfl ?_
              refine v_zald B (by first | assumption | exact qset_self _ _ _ | (rw [qset_ne _ _ (by omega)]; first | assumption | exact qset_self _ _ _ | (rw [qset_ne _ _ (by omega)]; first | assumption | exact qset_self _ _ _ | (rw [qset_ne _ _ (by omega)]; first | assumption | exact qset_self _ _ _ | (rw [qset_ne _ _ (by omega)]; first | assumption | exact qset_self _ _ _ | (rw [qset_ne _ _ (by omega)]; first | assumption | exact qset_self _ _ _ | (rw [qset_ne _ _ (by omega)]; first | assumption | exact qset_self _ _ _))))))) rfl (by omega) (by omega) i_M_page_101 ?_
              rw [t6 i i1]
              refine v_if_eq (tgt := 109) i_M_page_102 rfl (fun q102 => ?_) (fun q102 => ?_)
              · refine v_iconst (v := 0) i_M_page_109 rfl ?_
                refine v_iret i_M_page_110 rfl (by decide) (by decide) (fin 0 ?_)
                rw [hc]; exact congrArg some q102
              · refine v_iconst (v := 1) i_M_page_105 rfl ?_
                refine v_goto (tgt := 110) i_M_page_106 rfl ?_
                refine v_iret i_M_page_110 rfl (by decide) (by decide) (fin 1 ?_)
                have hg : gchg (pg i) kp = true := bI_ne q102
                rw [hc, hg]; rfl
            · subst q84
              refine v_aload_n i_M_page_87 rfl ?_
              refine v_get B i_M_page_88 (by first | assumption | exact qset_self _ _ _ | (rw [qset_ne _ _ (by omega)]; first | assumption | exact qset_self _ _ _ | (rw [qset_ne _ _ (by omega)]; first | assumption | exact qset_self _ _ _ | (rw [qset_ne _ _ (by omega)]; first | assumption | exact qset_self _ _ _ | (rw [qset_ne _ _ (by omega)]; first | assumption | exact qset_self _ _ _ | (rw [qset_ne _ _ (by omega)]; first | assumption | exact qset_self _ _ _ | (rw [qset_ne _ _ (by omega)]; first | assumption | exact qset_self _ _ _))))))) rfl ?_
              refine v_iload_n i_M_page_91 rfl ?_
              refine v_iald B (by first | assumption | exact qset_self _ _ _ | (rw [qset_ne _ _ (by omega)]; first | assumption | exact qset_self _ _ _ | (rw [qset_ne _ _ (by omega)]; first | assumption | exact qset_self _ _ _ | (rw [qset_ne _ _ (by omega)]; first | assumption | exact qset_self _ _ _ | (rw [qset_ne _ _ (by omega)]; first | assumption | exact qset_self _ _ _ | (rw [qset_ne _ _ (by omega)]; first | assumption | exact qset_self _ _ _ | (rw [qset_ne _ _ (by omega)]; first | assumption | exact qset_self _ _ _))))))) rfl (by omega) (by omega) i_M_page_92 ?_
              refine v_goto (tgt := 110) i_M_page_93 rfl ?_
              rw [g4]
              exact v_iret i_M_page_110 rfl (by decide) (by decide) (fin _ rfl)
          · subst q70
            refine v_aload_n i_M_page_73 rfl ?_
            refine v_get B i_M_page_74 (by first | assumption | exact qset_self _ _ _ | (rw [qset_ne _ _ (by omega)]; first | assumption | exact qset_self _ _ _ | (rw [qset_ne _ _ (by omega)]; first | assumption | exact qset_self _ _ _ | (rw [qset_ne _ _ (by omega)]; first | assumption | exact qset_self _ _ _ | (rw [qset_ne _ _ (by omega)]; first | assumption | exact qset_self _ _ _ | (rw [qset_ne _ _ (by omega)]; first | assumption | exact qset_self _ _ _ | (rw [qset_ne _ _ (by omega)]; first | assumption | exact qset_self _ _ _))))))) rfl ?_
            refine v_iload_n i_M_page_77 rfl ?_
            refine v_iald B (by first | assumption | exact qset_self _ _ _ | (rw [qset_ne _ _ (by omega)]; first | assumption | exact qset_self _ _ _ | (rw [qset_ne _ _ (by omega)]; first | assumption | exact qset_self _ _ _ | (rw [qset_ne _ _ (by omega)]; first | assumption | exact qset_self _ _ _ | (rw [qset_ne _ _ (by omega)]; first | assumption | exact qset_self _ _ _ | (rw [qset_ne _ _ (by omega)]; first | assumption | exact qset_self _ _ _ | (rw [qset_ne _ _ (by omega)]; first | assumption | exact qset_self _ _ _))))))) rfl (by omega) (by omega) i_M_page_78 ?_
            refine v_goto (tgt := 110) i_M_page_79 rfl ?_
            rw [g3]
            exact v_iret i_M_page_110 rfl (by decide) (by decide) (fin _ rfl)
        · subst q56
          refine v_aload_n i_M_page_59 rfl ?_
          refine v_get B i_M_page_60 (by first | assumption | exact qset_self _ _ _ | (rw [qset_ne _ _ (by omega)]; first | assumption | exact qset_self _ _ _ | (rw [qset_ne _ _ (by omega)]; first | assumption | exact qset_self _ _ _ | (rw [qset_ne _ _ (by omega)]; first | assumption | exact qset_self _ _ _ | (rw [qset_ne _ _ (by omega)]; first | assumption | exact qset_self _ _ _ | (rw [qset_ne _ _ (by omega)]; first | assumption | exact qset_self _ _ _ | (rw [qset_ne _ _ (by omega)]; first | assumption | exact qset_self _ _ _))))))) rfl ?_
          refine v_iload_n i_M_page_63 rfl ?_
          refine v_iald B (by first | assumption | exact qset_self _ _ _ | (rw [qset_ne _ _ (by omega)]; first | assumption | exact qset_self _ _ _ | (rw [qset_ne _ _ (by omega)]; first | assumption | exact qset_self _ _ _ | (rw [qset_ne _ _ (by omega)]; first | assumption | exact qset_self _ _ _ | (rw [qset_ne _ _ (by omega)]; first | assumption | exact qset_self _ _ _ | (rw [qset_ne _ _ (by omega)]; first | assumption | exact qset_self _ _ _ | (rw [qset_ne _ _ (by omega)]; first | assumption | exact qset_self _ _ _))))))) rfl (by omega) (by omega) i_M_page_64 ?_
          refine v_goto (tgt := 110) i_M_page_65 rfl ?_
          rw [g2]
          exact v_iret i_M_page_110 rfl (by decide) (by decide) (fin _ rfl)
      · subst q42
        refine v_aload_n i_M_page_45 rfl ?_
        refine v_get B i_M_page_46 (by first | assumption | exact qset_self _ _ _ | (rw [qset_ne _ _ (by omega)]; first | assumption | exact qset_self _ _ _ | (rw [qset_ne _ _ (by omega)]; first | assumption | exact qset_self _ _ _ | (rw [qset_ne _ _ (by omega)]; first | assumption | exact qset_self _ _ _ | (rw [qset_ne _ _ (by omega)]; first | assumption | exact qset_self _ _ _ | (rw [qset_ne _ _ (by omega)]; first | assumption | exact qset_self _ _ _ | (rw [qset_ne _ _ (by omega)]; first | assumption | exact qset_self _ _ _))))))) rfl ?_
        refine v_iload_n i_M_page_49 rfl ?_
        refine v_iald B (by first | assumption | exact qset_self _ _ _ | (rw [qset_ne _ _ (by omega)]; first | assumption | exact qset_self _ _ _ | (rw [qset_ne _ _ (by omega)]; first | assumption | exact qset_self _ _ _ | (rw [qset_ne _ _ (by omega)]; first | assumption | exact qset_self _ _ _ | (rw [qset_ne _ _ (by omega)]; first | assumption | exact qset_self _ _ _ | (rw [qset_ne _ _ (by omega)]; first | assumption | exact qset_self _ _ _ | (rw [qset_ne _ _ (by omega)]; first | assumption | exact qset_self _ _ _))))))) rfl (by omega) (by omega) i_M_page_50 ?_
        refine v_goto (tgt := 110) i_M_page_51 rfl ?_
        rw [g1]
        exact v_iret i_M_page_110 rfl (by decide) (by decide) (fin _ rfl)
  refine v_aload_n i_M_page_0 rfl ?_
  refine v_aload_n i_M_page_1 rfl ?_
  refine v_get B i_M_page_2 (by first | assumption | exact qset_self _ _ _ | (rw [qset_ne _ _ (by omega)]; first | assumption | exact qset_self _ _ _ | (rw [qset_ne _ _ (by omega)]; first | assumption | exact qset_self _ _ _ | (rw [qset_ne _ _ (by omega)]; first | assumption | exact qset_self _ _ _ | (rw [qset_ne _ _ (by omega)]; first | assumption | exact qset_self _ _ _ | (rw [qset_ne _ _ (by omega)]; first | assumption | exact qset_self _ _ _ | (rw [qset_ne _ _ (by omega)]; first | assumption | exact qset_self _ _ _))))))) rfl ?_
  refine v_aload_n i_M_page_5 rfl ?_
  refine v_iload_n i_M_page_6 rfl ?_
  rw [hb]
  refine v_inv B i_M_page_7 kn_m_M_isPage (c_M_isPage B h t1 p) h0 rfl rfl (Nat.le_of_ble_eq_true rfl) ⟨by decide, by decide, by first | decide | (simp; omega), by first | decide | (simp; omega)⟩ rfl (fun r X' hq => ?_) (fun _ _ h => False.elim h)
  obtain ⟨rfl, rfl⟩ := hq
  refine v_neg (tgt := 17) (e := 18) i_M_page_10 rfl i_M_page_13 i_M_page_14 rfl i_M_page_17 rfl ?_
  refine v_iload_n i_M_page_18 rfl ?_
  refine v_if_lt (tgt := 27) i_M_page_19 rfl (fun q19 => ?_) (fun q19 => ?_)
  · refine v_iconst (v := 1) i_M_page_27 rfl ?_
    refine v_goto (tgt := 32) i_M_page_28 rfl ?_
    exact main true (by
      rw [show rg w 4 = false from decide_eq_false (fun z => by have := Int32.le_iff_toInt_le.mp z.1; have := Int32.lt_iff_toInt_lt.mp q19; omega)]; rfl)
  · refine v_iload_n i_M_page_22 rfl ?_
    refine v_iconst (v := 4) i_M_page_23 rfl ?_
    refine v_icmp_le (tgt := 31) i_M_page_24 rfl (fun q24 => ?_) (fun q24 => ?_)
    · refine v_iconst (v := 0) i_M_page_31 rfl ?_
      exact main false (by
        rw [show rg w 4 = true from decide_eq_true ⟨Int32.le_iff_toInt_le.mpr (by have : ¬ w.toInt < (0 : Int32).toInt := fun z => q19 (Int32.lt_iff_toInt_lt.mpr z); omega), q24⟩]; rfl)
    · refine v_iconst (v := 1) i_M_page_27 rfl ?_
      refine v_goto (tgt := 32) i_M_page_28 rfl ?_
      exact main true (by
        rw [show rg w 4 = false from decide_eq_false (fun z => q24 z.2)]; rfl)
theorem c_M_entry (B : qB l s0 C) (h : MAt X m s I J) {b : Bool} (hb : s 25 = bI b) {kp : Nat} (hT : MT s I J pg made lat (fun q => gchg (pg q) kp) ro rb) (p q w : Int32) : qMet l s0 C m_M_entry rm_M_entry [.ref m, .int p, .int q, .int w] X (fun r X' => ∃ z th, r = some (.long z) ∧ (∀ i, i < made → p = nI i → th = decide (0 ≤ q ∧ q < nI (pg i).2.2.2.length)) ∧ (pgn p made = false → th = false) ∧ (b = false → ∀ i j, i < made → j < (pg i).2.2.2.length → p = nI i → q = nI j → ∀ y, centry (pg i) j w = some y → z = y) ∧ mRO X X' m s I J (mcode b (!th) (!(rg w 3)) false)) (fun _ _ => False) := by
  obtain ⟨h0, -⟩ := id h
  refine q_of (by decide +kernel) (Nat.le_of_ble_eq_true rfl) ?_
  refine v_L (L' := [(0, .ref m), (1, .int p), (2, .int q), (3, .int w)]) rfl ?_
  obtain ⟨t1, ⟨t2, t2b, t2c, t2d⟩, t3, t4, t5, t6⟩ := id hT
  have main : ∀ th : Bool, (∀ i, i < made → p = nI i → th = decide (0 ≤ q ∧ q < nI (pg i).2.2.2.length)) → (pgn p made = false → th = false) → ∀ f : Bool, f = (!(rg w 3)) → qV l s0 C m_M_entry rm_M_entry (fun r X' => ∃ z th, r = some (.long z) ∧ (∀ i, i < made → p = nI i → th = decide (0 ≤ q ∧ q < nI (pg i).2.2.2.length)) ∧ (pgn p made = false → th = false) ∧ (b = false → ∀ i j, i < made → j < (pg i).2.2.2.length → p = nI i → q = nI j → ∀ y, centry (pg i) j w = some y → z = y) ∧ mRO X X' m s I J (mcode b (!th) (!(rg w 3)) false)) (fun _ _ => False) 0 0 X 62 [(0, .ref m), (1, .int p), (2, .int q), (3, .int w), (4, .int (bI th))] [.int (bI f), .int (bI (!th)), .int (bI b), .ref m] := by
    intro th hth hth0 f hfe
    refine v_iconst (v := 0) i_M_entry_62 rfl ?_
    refine v_inv B i_M_entry_63 kn_m_M_fails (c_M_fails B h b (!th) f false) h0 rfl rfl (Nat.le_of_ble_eq_true rfl) ⟨by decide, by decide, by first | decide | (simp; omega), by first | decide | (simp; omega)⟩ rfl (fun r X' hq => ?_) (fun _ _ h => False.elim h)
    obtain ⟨rfl, h1, f1⟩ := hq
    have ho := mRO.of h1 f1
    rw [hfe] at ho
    obtain ⟨k0, a1, a2, a3, a4, a5, a6, a7, a8, a9, -⟩ := h1.all
    by_cases hf : (b || !th || f || false) = true
    · rw [hf]
      refine v_if_eq (tgt := 71) i_M_entry_66 rfl (fun q66 => absurd q66 (by decide)) (fun _ => ?_)
      refine v_lconst (v := 0) i_M_entry_69 rfl ?_
      refine v_lret i_M_entry_70 rfl (by decide) (by decide) ⟨0, th, rfl, hth, hth0, fun hb0 i j hi hj e1 e2 y hy => ?_, ho⟩
      have hr : rg w 3 = true := by
        cases hq : rg w 3
        · rw [centry_rg.mpr hq] at hy; cases hy
        · rfl
      have o4 := (t4 i hi).1.2.2.2.1
      rw [hb0, hfe, hr, hth i hi e1, e2, decide_eq_true ⟨nI_pos' (by omega), nI_lt hj (by omega)⟩] at hf; exact absurd hf (by decide)
    · rw [Bool.not_eq_true] at hf
      rw [hf]
      simp only [Bool.or_false, Bool.or_eq_false_iff, Bool.not_eq_false'] at hf
      have hp : pgn p made = true := by
        cases hq : pgn p made
        · rw [hth0 hq] at hf; exact absurd hf.1.2 (by decide)
        · rfl
      obtain ⟨i, i1, rfl⟩ := pgn_of hp t2b
      have hq0 := of_decide_eq_true ((hth i i1 rfl).symm.trans hf.1.2)
      have o4 := (t4 i i1).1.2.2.2.1
      obtain ⟨j, jb, rfl⟩ := nI_of (x := q) (fun z => by have := Int32.le_iff_toInt_le.mp hq0.1; have := Int32.lt_iff_toInt_lt.mp z; omega)
      have j1 : j < (pg i).2.2.2.length := (nI_ltI jb (by omega)).mp hq0.2
      have hr : rg w 3 = true := by
        have := hf.2
        rw [hfe] at this
        simpa using this
      have fin : ∀ y : Int64, centry (pg i) j w = some y → ∃ z th, some (Value.long y) = some (.long z) ∧ (∀ i', i' < made → nI i = nI i' → th = decide (0 ≤ nI j ∧ nI j < nI (pg i').2.2.2.length)) ∧ (pgn (nI i) made = false → th = false) ∧ (b = false → ∀ i' j', i' < made → j' < (pg i').2.2.2.length → nI i = nI i' → nI j = nI j' → ∀ y', centry (pg i') j' w = some y' → z = y') ∧ mRO X X' m s I J (mcode b (!th) (!(rg w 3)) false) := by
        intro y hy
        refine ⟨y, th, rfl, hth, hth0, fun _ i' j' hi' hj' e e2 y' hy' => ?_, ho⟩
        have o4' := (t4 i' hi').1.2.2.2.1
        rw [← (nI_eq (by omega) (by omega)).mp e, ← (nI_eq (by omega) (by omega)).mp e2, hy] at hy'
        exact Option.some.inj hy'
      obtain ⟨g6, g7, g8, g9⟩ := (t4 i i1).2.2.2.2.2 j j1
      refine v_if_eq (tgt := 71) i_M_entry_66 rfl (fun _ => ?_) (fun q66 => absurd rfl q66)
      refine v_bipush (v := 16) i_M_entry_71 rfl ?_
      refine v_iload_n i_M_entry_73 rfl ?_
      refine v_imul i_M_entry_74 ?_
      refine v_iload_n i_M_entry_75 rfl ?_
      refine v_iadd i_M_entry_76 ?_
      rw [n16, nI_add]
      refine v_istore i_M_entry_77 (by decide) rfl ?_
      refine v_iload_n i_M_entry_79 rfl ?_
      refine v_if_ne (tgt := 94) i_M_entry_80 rfl (fun q80 => ?_) (fun q80 => ?_)
      · refine v_iload_n i_M_entry_94 rfl ?_
        refine v_iconst (v := 1) i_M_entry_95 rfl ?_
        refine v_icmp_ne (tgt := 110) i_M_entry_96 rfl (fun q96 => ?_) (fun q96 => ?_)
        · refine v_iload_n i_M_entry_110 rfl ?_
          refine v_iconst (v := 2) i_M_entry_111 rfl ?_
          refine v_icmp_ne (tgt := 126) i_M_entry_112 rfl (fun q112 => ?_) (fun q112 => ?_)
          · have h4 : w = 3 := by
              have q := of_decide_eq_true hr
              have a := Int32.le_iff_toInt_le.mp q.1
              have b := Int32.le_iff_toInt_le.mp q.2
              have e0 : (0 : Int32).toInt = 0 := rfl
              have e4 : (3 : Int32).toInt = 3 := rfl
              rw [e0] at a
              rw [e4] at b
              have n0 : w.toInt ≠ 0 := fun z => q80 (Int32.toInt_inj.mp z)
              have n1 : w.toInt ≠ 1 := fun z => q96 (Int32.toInt_inj.mp z)
              have n2 : w.toInt ≠ 2 := fun z => q112 (Int32.toInt_inj.mp z)
              exact Int32.toInt_inj.mp (by rw [e4]; omega)
            subst h4
            refine v_aload_n i_M_entry_126 rfl ?_
            refine v_get B i_M_entry_127 (by first | assumption | exact qset_self _ _ _ | (rw [qset_ne _ _ (by omega)]; first | assumption | exact qset_self _ _ _ | (rw [qset_ne _ _ (by omega)]; first | assumption | exact qset_self _ _ _ | (rw [qset_ne _ _ (by omega)]; first | assumption | exact qset_self _ _ _ | (rw [qset_ne _ _ (by omega)]; first | assumption | exact qset_self _ _ _ | (rw [qset_ne _ _ (by omega)]; first | assumption | exact qset_self _ _ _ | (rw [qset_ne _ _ (by omega)]; first | assumption | exact qset_self _ _ _))))))) rfl ?_
            refine v_iload i_M_entry_130 rfl ?_
            refine v_lald B (by first | assumption | exact qset_self _ _ _ | (rw [qset_ne _ _ (by omega)]; first | assumption | exact qset_self _ _ _ | (rw [qset_ne _ _ (by omega)]; first | assumption | exact qset_self _ _ _ | (rw [qset_ne _ _ (by omega)]; first | assumption | exact qset_self _ _ _ | (rw [qset_ne _ _ (by omega)]; first | assumption | exact qset_self _ _ _ | (rw [qset_ne _ _ (by omega)]; first | assumption | exact qset_self _ _ _ | (rw [qset_ne _ _ (by omega)]; first | assumption | exact qset_self _ _ _))))))) rfl (by omega) (by omega) i_M_entry_132 ?_
            rw [g9]
            exact v_lret i_M_entry_133 rfl (by decide) (by decide) (fin _ rfl)
          · subst q112
            refine v_aload_n i_M_entry_115 rfl ?_
            refine v_get B i_M_entry_116 (by first | assumption | exact qset_self _ _ _ | (rw [qset_ne _ _ (by omega)]; first | assumption | exact qset_self _ _ _ | (rw [qset_ne _ _ (by omega)]; first | assumption | exact qset_self _ _ _ | (rw [qset_ne _ _ (by omega)]; first | assumption | exact qset_self _ _ _ | (rw [qset_ne _ _ (by omega)]; first | assumption | exact qset_self _ _ _ | (rw [qset_ne _ _ (by omega)]; first | assumption | exact qset_self _ _ _ | (rw [qset_ne _ _ (by omega)]; first | assumption | exact qset_self _ _ _))))))) rfl ?_
            refine v_iload i_M_entry_119 rfl ?_
            refine v_iald B (by first | assumption | exact qset_self _ _ _ | (rw [qset_ne _ _ (by omega)]; first | assumption | exact qset_self _ _ _ | (rw [qset_ne _ _ (by omega)]; first | assumption | exact qset_self _ _ _ | (rw [qset_ne _ _ (by omega)]; first | assumption | exact qset_self _ _ _ | (rw [qset_ne _ _ (by omega)]; first | assumption | exact qset_self _ _ _ | (rw [qset_ne _ _ (by omega)]; first | assumption | exact qset_self _ _ _ | (rw [qset_ne _ _ (by omega)]; first | assumption | exact qset_self _ _ _))))))) rfl (by omega) (by omega) i_M_entry_121 ?_
            refine v_i2l i_M_entry_122 ?_
            refine v_goto (tgt := 133) i_M_entry_123 rfl ?_
            rw [g8]
            exact v_lret i_M_entry_133 rfl (by decide) (by decide) (fin _ rfl)
        · subst q96
          refine v_aload_n i_M_entry_99 rfl ?_
          refine v_get B i_M_entry_100 (by first | assumption | exact qset_self _ _ _ | (rw [qset_ne _ _ (by omega)]; first | assumption | exact qset_self _ _ _ | (rw [qset_ne _ _ (by omega)]; first | assumption | exact qset_self _ _ _ | (rw [qset_ne _ _ (by omega)]; first | assumption | exact qset_self _ _ _ | (rw [qset_ne _ _ (by omega)]; first | assumption | exact qset_self _ _ _ | (rw [qset_ne _ _ (by omega)]; first | assumption | exact qset_self _ _ _ | (rw [qset_ne _ _ (by omega)]; first | assumption | exact qset_self _ _ _))))))) rfl ?_
          refine v_iload i_M_entry_103 rfl ?_
          refine v_iald B (by first | assumption | exact qset_self _ _ _ | (rw [qset_ne _ _ (by omega)]; first | assumption | exact qset_self _ _ _ | (rw [qset_ne _ _ (by omega)]; first | assumption | exact qset_self _ _ _ | (rw [qset_ne _ _ (by omega)]; first | assumption | exact qset_self _ _ _ | (rw [qset_ne _ _ (by omega)]; first | assumption | exact qset_self _ _ _ | (rw [qset_ne _ _ (by omega)]; first | assumption | exact qset_self _ _ _ | (rw [qset_ne _ _ (by omega)]; first | assumption | exact qset_self _ _ _))))))) rfl (by omega) (by omega) i_M_entry_105 ?_
          refine v_i2l i_M_entry_106 ?_
          refine v_goto (tgt := 133) i_M_entry_107 rfl ?_
          rw [g7]
          exact v_lret i_M_entry_133 rfl (by decide) (by decide) (fin _ rfl)
      · subst q80
        refine v_aload_n i_M_entry_83 rfl ?_
        refine v_get B i_M_entry_84 (by first | assumption | exact qset_self _ _ _ | (rw [qset_ne _ _ (by omega)]; first | assumption | exact qset_self _ _ _ | (rw [qset_ne _ _ (by omega)]; first | assumption | exact qset_self _ _ _ | (rw [qset_ne _ _ (by omega)]; first | assumption | exact qset_self _ _ _ | (rw [qset_ne _ _ (by omega)]; first | assumption | exact qset_self _ _ _ | (rw [qset_ne _ _ (by omega)]; first | assumption | exact qset_self _ _ _ | (rw [qset_ne _ _ (by omega)]; first | assumption | exact qset_self _ _ _))))))) rfl ?_
        refine v_iload i_M_entry_87 rfl ?_
        refine v_iald B (by first | assumption | exact qset_self _ _ _ | (rw [qset_ne _ _ (by omega)]; first | assumption | exact qset_self _ _ _ | (rw [qset_ne _ _ (by omega)]; first | assumption | exact qset_self _ _ _ | (rw [qset_ne _ _ (by omega)]; first | assumption | exact qset_self _ _ _ | (rw [qset_ne _ _ (by omega)]; first | assumption | exact qset_self _ _ _ | (rw [qset_ne _ _ (by omega)]; first | assumption | exact qset_self _ _ _ | (rw [qset_ne _ _ (by omega)]; first | assumption | exact qset_self _ _ _))))))) rfl (by omega) (by omega) i_M_entry_89 ?_
        refine v_i2l i_M_entry_90 ?_
        refine v_goto (tgt := 133) i_M_entry_91 rfl ?_
        rw [g6]
        exact v_lret i_M_entry_133 rfl (by decide) (by decide) (fin _ rfl)
  have mid : ∀ th : Bool, (∀ i, i < made → p = nI i → th = decide (0 ≤ q ∧ q < nI (pg i).2.2.2.length)) → (pgn p made = false → th = false) → ∀ z : Int32, qV l s0 C m_M_entry rm_M_entry (fun r X' => ∃ z th, r = some (.long z) ∧ (∀ i, i < made → p = nI i → th = decide (0 ≤ q ∧ q < nI (pg i).2.2.2.length)) ∧ (pgn p made = false → th = false) ∧ (b = false → ∀ i j, i < made → j < (pg i).2.2.2.length → p = nI i → q = nI j → ∀ y, centry (pg i) j w = some y → z = y) ∧ mRO X X' m s I J (mcode b (!th) (!(rg w 3)) false)) (fun _ _ => False) 0 0 X 31 [(0, .ref m), (1, .int p), (2, .int q), (3, .int w), (4, .int z)] [.int (bI th)] := by
    intro th hth hth0 z
    refine v_istore i_M_entry_31 (by decide) rfl ?_
    refine v_aload_n i_M_entry_33 rfl ?_
    refine v_aload_n i_M_entry_34 rfl ?_
    refine v_get B i_M_entry_35 (by first | assumption | exact qset_self _ _ _ | (rw [qset_ne _ _ (by omega)]; first | assumption | exact qset_self _ _ _ | (rw [qset_ne _ _ (by omega)]; first | assumption | exact qset_self _ _ _ | (rw [qset_ne _ _ (by omega)]; first | assumption | exact qset_self _ _ _ | (rw [qset_ne _ _ (by omega)]; first | assumption | exact qset_self _ _ _ | (rw [qset_ne _ _ (by omega)]; first | assumption | exact qset_self _ _ _ | (rw [qset_ne _ _ (by omega)]; first | assumption | exact qset_self _ _ _))))))) rfl ?_
    refine v_iload i_M_entry_38 rfl ?_
    rw [hb]
    refine v_neg (tgt := 47) (e := 48) i_M_entry_40 rfl i_M_entry_43 i_M_entry_44 rfl i_M_entry_47 rfl ?_
    refine v_iload_n i_M_entry_48 rfl ?_
    refine v_loc [(0, .ref m), (1, .int p), (2, .int q), (3, .int w), (4, .int (bI th))] rfl ?_
    refine v_if_lt (tgt := 57) i_M_entry_49 rfl (fun q49 => ?_) (fun q49 => ?_)
    · refine v_iconst (v := 1) i_M_entry_57 rfl ?_
      refine v_goto (tgt := 62) i_M_entry_58 rfl ?_
      exact main th hth hth0 true (by
        rw [show rg w 3 = false from decide_eq_false (fun z => by have := Int32.le_iff_toInt_le.mp z.1; have := Int32.lt_iff_toInt_lt.mp q49; omega)]; rfl)
    · refine v_iload_n i_M_entry_52 rfl ?_
      refine v_iconst (v := 3) i_M_entry_53 rfl ?_
      refine v_icmp_le (tgt := 61) i_M_entry_54 rfl (fun q54 => ?_) (fun q54 => ?_)
      · refine v_iconst (v := 0) i_M_entry_61 rfl ?_
        exact main th hth hth0 false (by
          rw [show rg w 3 = true from decide_eq_true ⟨Int32.le_iff_toInt_le.mpr (by have : ¬ w.toInt < (0 : Int32).toInt := fun z => q49 (Int32.lt_iff_toInt_lt.mpr z); omega), q54⟩]; rfl)
      · refine v_iconst (v := 1) i_M_entry_57 rfl ?_
        refine v_goto (tgt := 62) i_M_entry_58 rfl ?_
        exact main th hth hth0 true (by
          rw [show rg w 3 = false from decide_eq_false (fun z => q54 z.2)]; rfl)
  refine v_aload_n i_M_entry_0 rfl ?_
  refine v_iload_n i_M_entry_1 rfl ?_
  refine v_inv B i_M_entry_2 kn_m_M_isPage (c_M_isPage B h t1 p) h0 rfl rfl (Nat.le_of_ble_eq_true rfl) ⟨by decide, by decide, by first | decide | (simp; omega), by first | decide | (simp; omega)⟩ rfl (fun r X' hq => ?_) (fun _ _ h => False.elim h)
  obtain ⟨rfl, rfl⟩ := hq
  refine v_istore i_M_entry_5 (by decide) rfl ?_
  refine v_iload i_M_entry_7 rfl ?_
  refine v_loc [(0, .ref m), (1, .int p), (2, .int q), (3, .int w), (4, .int (bI (pgn p made)))] rfl ?_
  refine v_if_eq (tgt := 30) i_M_entry_9 rfl (fun q9 => ?_) (fun q9 => ?_)
  · have hp := bI_0.mp q9
    refine v_iconst (v := 0) i_M_entry_30 rfl ?_
    exact mid false (fun i hi e => by rw [e, show pgn (nI i) made = true from decide_eq_true ⟨nI_pos' (by omega), nI_lt hi (by omega)⟩] at hp; cases hp) (fun _ => rfl) _
  · have hp := bI_ne q9
    obtain ⟨i, i1, rfl⟩ := pgn_of hp t2b
    obtain ⟨⟨o1, o2, o3, o4, o5⟩, g1, g2, g3, g4, -⟩ := id (t4 i i1)
    obtain ⟨_, _, _, _, a4, _⟩ := h.all
    refine v_iload_n i_M_entry_12 rfl ?_
    refine v_if_lt (tgt := 30) i_M_entry_13 rfl (fun q13 => ?_) (fun q13 => ?_)
    · refine v_iconst (v := 0) i_M_entry_30 rfl ?_
      refine mid false (fun i' hi' e => ?_) (fun _ => rfl) _
      rw [decide_eq_false (fun z => by have := Int32.le_iff_toInt_le.mp z.1; have := Int32.lt_iff_toInt_lt.mp q13; omega)]
    · have q0 : 0 ≤ q := Int32.le_iff_toInt_le.mpr (by have : ¬ q.toInt < (0 : Int32).toInt := fun z => q13 (Int32.lt_iff_toInt_lt.mpr z); omega)
      refine v_iload_n i_M_entry_16 rfl ?_
      refine v_aload_n i_M_entry_17 rfl ?_
      refine v_get B i_M_entry_18 (by first | assumption | exact qset_self _ _ _ | (rw [qset_ne _ _ (by omega)]; first | assumption | exact qset_self _ _ _ | (rw [qset_ne _ _ (by omega)]; first | assumption | exact qset_self _ _ _ | (rw [qset_ne _ _ (by omega)]; first | assumption | exact qset_self _ _ _ | (rw [qset_ne _ _ (by omega)]; first | assumption | exact qset_self _ _ _ | (rw [qset_ne _ _ (by omega)]; first | assumption | exact qset_self _ _ _ | (rw [qset_ne _ _ (by omega)]; first | assumption | exact qset_self _ _ _))))))) rfl ?_
      refine v_iload_n i_M_entry_21 rfl ?_
      refine v_iald B (by first | assumption | exact qset_self _ _ _ | (rw [qset_ne _ _ (by omega)]; first | assumption | exact qset_self _ _ _ | (rw [qset_ne _ _ (by omega)]; first | assumption | exact qset_self _ _ _ | (rw [qset_ne _ _ (by omega)]; first | assumption | exact qset_self _ _ _ | (rw [qset_ne _ _ (by omega)]; first | assumption | exact qset_self _ _ _ | (rw [qset_ne _ _ (by omega)]; first | assumption | exact qset_self _ _ _ | (rw [qset_ne _ _ (by omega)]; first | assumption | exact qset_self _ _ _))))))) rfl (by omega) (by omega) i_M_entry_22 ?_
      rw [g4]
      refine v_icmp_ge (tgt := 30) i_M_entry_23 rfl (fun q23 => ?_) (fun q23 => ?_)
      · refine v_iconst (v := 0) i_M_entry_30 rfl ?_
        refine mid false (fun i' hi' e => ?_) (fun _ => rfl) _
        rw [← (nI_eq (by omega) (by omega)).mp e, decide_eq_false (fun z => absurd (Int32.lt_of_le_of_lt q23 z.2) Int32.lt_irrefl)]
      · refine v_iconst (v := 1) i_M_entry_26 rfl ?_
        refine v_goto (tgt := 31) i_M_entry_27 rfl ?_
        refine mid true (fun i' hi' e => ?_) (fun z => by rw [hp] at z; cases z) _
        rw [← (nI_eq (by omega) (by omega)).mp e, decide_eq_true ⟨q0, Int32.not_le.mp q23⟩]
end MX
