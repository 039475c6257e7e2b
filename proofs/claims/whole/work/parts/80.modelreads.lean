/-! the reference: small parts, and what is read plainly -/
/-- only what is written by the way has changed -/
def mRO (X X' : qX) (m : Nat) (s : Nat → Int32) (I : Nat → Nat → Int32) (J : Nat → Nat → Int64) (cd : Int32) : Prop := ∃ s' I' J', MAt X' m s' I' J' ∧ s' 0 = cd ∧ mK [21, 22, 24, 25, 26, 27, 28, 29] I J I' J' ∧ sK [0, 28, 29, 33, 39] s s' ∧ qSame X X' m (m + 30)
theorem mRO.of {X X' : qX} {m : Nat} {s : Nat → Int32} {I : Nat → Nat → Int32} {J : Nat → Nat → Int64} {c : Int32} (h : MAt X' m (upd s 0 c) I J) (f : qSame X X' m (m + 30)) : mRO X X' m s I J c := ⟨_, I, J, h, pk_us, mK.rf _ _ _, (sK.rf _ _).set (by decide), f⟩
abbrev ver (v : Int32) (lat : Nat) : Bool := decide (0 ≤ v ∧ v ≤ nI lat)
abbrev pgn (p : Int32) (made : Nat) : Bool := decide (0 ≤ p ∧ p < nI made)
theorem ver_nI {j lat : Nat} (h : j ≤ lat) (hl : lat < 4000) : ver (nI j) lat = true := decide_eq_true ⟨nI_pos' (by omega), nI_le h (by omega)⟩
theorem ver_of {v : Int32} {lat : Nat} (h : ver v lat = true) (hl : lat < 4000) : ∃ j, j ≤ lat ∧ v = nI j := by
  have q := of_decide_eq_true h
  obtain ⟨j, j1, rfl⟩ := nI_of (x := v) (fun z => by have := Int32.le_iff_toInt_le.mp q.1; have := Int32.lt_iff_toInt_lt.mp z; omega)
  exact ⟨j, (nI_leI j1 (by omega)).mp q.2, rfl⟩
theorem pgn_of {p : Int32} {made : Nat} (h : pgn p made = true) (hl : made ≤ 256) : ∃ i, i < made ∧ p = nI i := by
  have q := of_decide_eq_true h
  obtain ⟨j, j1, rfl⟩ := nI_of (x := p) (fun z => by have := Int32.le_iff_toInt_le.mp q.1; have := Int32.lt_iff_toInt_lt.mp z; omega)
  exact ⟨j, (nI_ltI j1 (by omega)).mp q.2, rfl⟩
section MR
variable {X X' : qX} {m : Nat} {s : Nat → Int32} {I : Nat → Nat → Int32} {J : Nat → Nat → Int64}
variable {pg : Nat → Pg} {made lat rb : Nat} {dt : Nat → Bool} {ro : Nat → Nat}
variable {l : Launch} {s0 : State} {C : qC}
theorem c_M_isRefused (B : qB l s0 C) (h : MAt X m s I J) (hT : MT s I J pg made lat dt ro rb) (hlr : lat ≤ rb) (hr : ro lat < made) : qMet l s0 C m_M_isRefused rm_M_isRefused [.ref m] X (fun r X' => X = X' ∧ r = some (.int (bI (decide (256 - made < 2 * ((pg (ro lat)).1 + 1) + 1))))) (fun _ _ => False) := by
  obtain ⟨h0, -⟩ := id h
  refine q_of (by decide +kernel) (Nat.le_of_ble_eq_true rfl) ?_
  refine v_L (L' := [(0, .ref m)]) rfl ?_
  obtain ⟨t1, ⟨t2, t2b, t2c, t2d⟩, t3, t4, t5, t6⟩ := id hT
  obtain ⟨h0, a1, a2, a3, a4, a5, a6, a7, a8, a9, a10, a11, a12, a13, a14, a15, a16, a17, a18, a19, a20, a21, a22, a23, a24, a25, a26, a27, a28, a29⟩ := h.all
  obtain ⟨⟨ok1, -⟩, e1, -⟩ := id (t4 _ hr)
  refine v_sipush (v := 256) i_M_isRefused_0 rfl ?_
  refine v_aload_n i_M_isRefused_3 rfl ?_
  refine v_get B i_M_isRefused_4 (by first | assumption | exact qset_self _ _ _ | (rw [qset_ne _ _ (by omega)]; first | assumption | exact qset_self _ _ _ | (rw [qset_ne _ _ (by omega)]; first | assumption | exact qset_self _ _ _ | (rw [qset_ne _ _ (by omega)]; first | assumption | exact qset_self _ _ _ | (rw [qset_ne _ _ (by omega)]; first | assumption | exact qset_self _ _ _ | (rw [qset_ne _ _ (by omega)]; first | assumption | exact qset_self _ _ _ | (rw [qset_ne _ _ (by omega)]; first | assumption | exact qset_self _ _ _))))))) rfl ?_
  rw [t1]
  refine v_isub i_M_isRefused_7 ?_
  refine v_iconst (v := 2) i_M_isRefused_8 rfl ?_
  refine v_aload_n i_M_isRefused_9 rfl ?_
  refine v_get B i_M_isRefused_10 (by first | assumption | exact qset_self _ _ _ | (rw [qset_ne _ _ (by omega)]; first | assumption | exact qset_self _ _ _ | (rw [qset_ne _ _ (by omega)]; first | assumption | exact qset_self _ _ _ | (rw [qset_ne _ _ (by omega)]; first | assumption | exact qset_self _ _ _ | (rw [qset_ne _ _ (by omega)]; first | assumption | exact qset_self _ _ _ | (rw [qset_ne _ _ (by omega)]; first | assumption | exact qset_self _ _ _ | (rw [qset_ne _ _ (by omega)]; first | assumption | exact qset_self _ _ _))))))) rfl ?_
  refine v_aload_n i_M_isRefused_13 rfl ?_
  refine v_get B i_M_isRefused_14 (by first | assumption | exact qset_self _ _ _ | (rw [qset_ne _ _ (by omega)]; first | assumption | exact qset_self _ _ _ | (rw [qset_ne _ _ (by omega)]; first | assumption | exact qset_self _ _ _ | (rw [qset_ne _ _ (by omega)]; first | assumption | exact qset_self _ _ _ | (rw [qset_ne _ _ (by omega)]; first | assumption | exact qset_self _ _ _ | (rw [qset_ne _ _ (by omega)]; first | assumption | exact qset_self _ _ _ | (rw [qset_ne _ _ (by omega)]; first | assumption | exact qset_self _ _ _))))))) rfl ?_
  refine v_aload_n i_M_isRefused_17 rfl ?_
  refine v_get B i_M_isRefused_18 (by first | assumption | exact qset_self _ _ _ | (rw [qset_ne _ _ (by omega)]; first | assumption | exact qset_self _ _ _ | (rw [qset_ne _ _ (by omega)]; first | assumption | exact qset_self _ _ _ | (rw [qset_ne _ _ (by omega)]; first | assumption | exact qset_self _ _ _ | (rw [qset_ne _ _ (by omega)]; first | assumption | exact qset_self _ _ _ | (rw [qset_ne _ _ (by omega)]; first | assumption | exact qset_self _ _ _ | (rw [qset_ne _ _ (by omega)]; first | assumption | exact qset_self _ _ _))))))) rfl ?_
  rw [t3]
  refine v_iald (j := lat) B a10 rfl (by omega) (by omega) i_M_isRefused_21 ?_
  rw [(t5 lat hlr).1]
  refine v_iald B (by first | assumption | exact qset_self _ _ _ | (rw [qset_ne _ _ (by omega)]; first | assumption | exact qset_self _ _ _ | (rw [qset_ne _ _ (by omega)]; first | assumption | exact qset_self _ _ _ | (rw [qset_ne _ _ (by omega)]; first | assumption | exact qset_self _ _ _ | (rw [qset_ne _ _ (by omega)]; first | assumption | exact qset_self _ _ _ | (rw [qset_ne _ _ (by omega)]; first | assumption | exact qset_self _ _ _ | (rw [qset_ne _ _ (by omega)]; first | assumption | exact qset_self _ _ _))))))) rfl (by omega) (by omega) i_M_isRefused_22 ?_
  rw [e1]
  refine v_iconst (v := 1) i_M_isRefused_23 rfl ?_
  refine v_iadd i_M_isRefused_24 ?_
  refine v_imul i_M_isRefused_25 ?_
  refine v_iconst (v := 1) i_M_isRefused_26 rfl ?_
  refine v_iadd i_M_isRefused_27 ?_
  have eA : (256 : Int32) - nI made = nI (256 - made) := by
    have : (256 : Int32) = nI (256 - made) + nI made := by rw [nI_add, Nat.sub_add_cancel t2b]; rfl
    rw [this, Int32.add_sub_cancel]
  have eB : (2 : Int32) * (nI (pg (ro lat)).1 + 1) + 1 = nI (2 * ((pg (ro lat)).1 + 1) + 1) := by
    rw [nI_1, show (2 : Int32) = nI 2 from rfl, nI_mul, nI_1]
  rw [eA, eB]
  refine v_icmp_ge (tgt := 35) i_M_isRefused_28 rfl (fun q28 => ?_) (fun q28 => ?_)
  · refine v_iconst (v := 0) i_M_isRefused_35 rfl ?_
    refine v_zret i_M_isRefused_36 rfl (Or.inl rfl) (by decide) (by decide) ⟨rfl, ?_⟩
    rw [decide_eq_false (by have := (nI_leI (by omega) (by omega)).mp q28; omega)]; rfl
  · refine v_iconst (v := 1) i_M_isRefused_31 rfl ?_
    refine v_goto (tgt := 36) i_M_isRefused_32 rfl ?_
    refine v_zret i_M_isRefused_36 rfl (Or.inr rfl) (by decide) (by decide) ⟨rfl, ?_⟩
    rw [decide_eq_true (by
      have : ¬ 2 * ((pg (ro lat)).1 + 1) + 1 ≤ 256 - made := fun z => q28 ((nI_leI (by omega) (by omega)).mpr z)
      omega)]; rfl
theorem c_M_isVersion (B : qB l s0 C) (h : MAt X m s I J) (hl : s 12 = nI lat) (v : Int32) : qMet l s0 C m_M_isVersion rm_M_isVersion [.ref m, .int v] X (fun r X' => X = X' ∧ r = some (.int (bI (ver v lat)))) (fun _ _ => False) := by
  obtain ⟨h0, -⟩ := id h
  refine q_of (by decide +kernel) (Nat.le_of_ble_eq_true rfl) ?_
  refine v_L (L' := [(0, .ref m), (1, .int v)]) rfl ?_
  refine v_iload_n i_M_isVersion_0 rfl ?_
  refine v_if_lt (tgt := 16) i_M_isVersion_1 rfl (fun q1 => ?_) (fun q1 => ?_)
  · refine v_iconst (v := 0) i_M_isVersion_16 rfl ?_
    refine v_zret i_M_isVersion_17 rfl (Or.inl rfl) (by decide) (by decide) ⟨rfl, ?_⟩
    rw [show (ver v lat) = false from decide_eq_false (fun z => by have := Int32.le_iff_toInt_le.mp z.1; have := Int32.lt_iff_toInt_lt.mp q1; omega)]; rfl
  · have q0 : 0 ≤ v := Int32.le_iff_toInt_le.mpr (by have : ¬ v.toInt < (0 : Int32).toInt := fun z => q1 (Int32.lt_iff_toInt_lt.mpr z); omega)
    refine v_iload_n i_M_isVersion_4 rfl ?_
    refine v_aload_n i_M_isVersion_5 rfl ?_
    refine v_get B i_M_isVersion_6 (by first | assumption | exact qset_self _ _ _ | (rw [qset_ne _ _ (by omega)]; first | assumption | exact qset_self _ _ _ | (rw [qset_ne _ _ (by omega)]; first | assumption | exact qset_self _ _ _ | (rw [qset_ne _ _ (by omega)]; first | assumption | exact qset_self _ _ _ | (rw [qset_ne _ _ (by omega)]; first | assumption | exact qset_self _ _ _ | (rw [qset_ne _ _ (by omega)]; first | assumption | exact qset_self _ _ _ | (rw [qset_ne _ _ (by omega)]; first | assumption | exact qset_self _ _ _))))))) rfl ?_
    rw [hl]
    refine v_icmp_gt (tgt := 16) i_M_isVersion_9 rfl (fun q9 => ?_) (fun q9 => ?_)
    · refine v_iconst (v := 0) i_M_isVersion_16 rfl ?_
      refine v_zret i_M_isVersion_17 rfl (Or.inl rfl) (by decide) (by decide) ⟨rfl, ?_⟩
      rw [show (ver v lat) = false from decide_eq_false (fun z => by first | exact absurd (Int32.lt_of_lt_of_le q9 z.2) Int32.lt_irrefl | exact absurd (Int32.lt_of_le_of_lt q9 z.2) Int32.lt_irrefl)]; rfl
    · refine v_iconst (v := 1) i_M_isVersion_12 rfl ?_
      refine v_goto (tgt := 17) i_M_isVersion_13 rfl ?_
      refine v_zret i_M_isVersion_17 rfl (Or.inr rfl) (by decide) (by decide) ⟨rfl, ?_⟩
      rw [show (ver v lat) = true from decide_eq_true ⟨q0, by first | exact Int32.not_lt.mp q9 | exact Int32.not_le.mp q9⟩]; rfl
theorem c_M_isPage (B : qB l s0 C) (h : MAt X m s I J) (hl : s 10 = nI made) (v : Int32) : qMet l s0 C m_M_isPage rm_M_isPage [.ref m, .int v] X (fun r X' => X = X' ∧ r = some (.int (bI (pgn v made)))) (fun _ _ => False) := by
  obtain ⟨h0, -⟩ := id h
  refine q_of (by decide +kernel) (Nat.le_of_ble_eq_true rfl) ?_
  refine v_L (L' := [(0, .ref m), (1, .int v)]) rfl ?_
  refine v_iload_n i_M_isPage_0 rfl ?_
  refine v_if_lt (tgt := 16) i_M_isPage_1 rfl (fun q1 => ?_) (fun q1 => ?_)
  · refine v_iconst (v := 0) i_M_isPage_16 rfl ?_
    refine v_zret i_M_isPage_17 rfl (Or.inl rfl) (by decide) (by decide) ⟨rfl, ?_⟩
    rw [show (pgn v made) = false from decide_eq_false (fun z => by have := Int32.le_iff_toInt_le.mp z.1; have := Int32.lt_iff_toInt_lt.mp q1; omega)]; rfl
  · have q0 : 0 ≤ v := Int32.le_iff_toInt_le.mpr (by have : ¬ v.toInt < (0 : Int32).toInt := fun z => q1 (Int32.lt_iff_toInt_lt.mpr z); omega)
    refine v_iload_n i_M_isPage_4 rfl ?_
    refine v_aload_n i_M_isPage_5 rfl ?_
    refine v_get B i_M_isPage_6 (by first | assumption | exact qset_self _ _ _ | (rw [qset_ne _ _ (by omega)]; first | assumption | exact qset_self _ _ _ | (rw [qset_ne _ _ (by omega)]; first | assumption | exact qset_self _ _ _ | (rw [qset_ne _ _ (by omega)]; first | assumption | exact qset_self _ _ _ | (rw [qset_ne _ _ (by omega)]; first | assumption | exact qset_self _ _ _ | (rw [qset_ne _ _ (by omega)]; first | assumption | exact qset_self _ _ _ | (rw [qset_ne _ _ (by omega)]; first | assumption | exact qset_self _ _ _))))))) rfl ?_
    rw [hl]
    refine v_icmp_ge (tgt := 16) i_M_isPage_9 rfl (fun q9 => ?_) (fun q9 => ?_)
    · refine v_iconst (v := 0) i_M_isPage_16 rfl ?_
      refine v_zret i_M_isPage_17 rfl (Or.inl rfl) (by decide) (by decide) ⟨rfl, ?_⟩
      rw [show (pgn v made) = false from decide_eq_false (fun z => by first | exact absurd (Int32.lt_of_lt_of_le q9 z.2) Int32.lt_irrefl | exact absurd (Int32.lt_of_le_of_lt q9 z.2) Int32.lt_irrefl)]; rfl
    · refine v_iconst (v := 1) i_M_isPage_12 rfl ?_
      refine v_goto (tgt := 17) i_M_isPage_13 rfl ?_
      refine v_zret i_M_isPage_17 rfl (Or.inr rfl) (by decide) (by decide) ⟨rfl, ?_⟩
      rw [show (pgn v made) = true from decide_eq_true ⟨q0, by first | exact Int32.not_lt.mp q9 | exact Int32.not_le.mp q9⟩]; rfl
theorem c_M_dirtyPages_loop {kp : Nat} (B : qB l s0 C) (h : MAt X m s I J) (hT : MT s I J pg made lat (fun q => gchg (pg q) kp) ro rb) : ∀ (j i : Nat), i + j = made → qV l s0 C m_M_dirtyPages rm_M_dirtyPages (fun r X' => X = X' ∧ r = some (.int (nI (tchg pg kp made)))) (fun _ _ => False) 0 0 X 4 [(0, .ref m), (1, .int (nI (tchg pg kp i))), (2, .int (nI i))] [] := by
  obtain ⟨t1, ⟨t2, t2b, t2c, t2d⟩, t3, t4, t5, t6⟩ := id hT
  obtain ⟨h0, a1, a2, a3, a4, a5, a6, a7, a8, a9, a10, a11, a12, a13, a14, a15, a16, a17, a18, a19, a20, a21, a22, a23, a24, a25, a26, a27, a28, a29⟩ := h.all
  intro j
  induction j with
  | zero =>
    intro i hi
    refine v_iload_n i_M_dirtyPages_4 rfl ?_
    refine v_aload_n i_M_dirtyPages_5 rfl ?_
    refine v_get B i_M_dirtyPages_6 (by first | assumption | exact qset_self _ _ _ | (rw [qset_ne _ _ (by omega)]; first | assumption | exact qset_self _ _ _ | (rw [qset_ne _ _ (by omega)]; first | assumption | exact qset_self _ _ _ | (rw [qset_ne _ _ (by omega)]; first | assumption | exact qset_self _ _ _ | (rw [qset_ne _ _ (by omega)]; first | assumption | exact qset_self _ _ _ | (rw [qset_ne _ _ (by omega)]; first | assumption | exact qset_self _ _ _ | (rw [qset_ne _ _ (by omega)]; first | assumption | exact qset_self _ _ _))))))) rfl ?_
    rw [t1]
    refine v_icmp_ge (tgt := 35) i_M_dirtyPages_9 rfl (fun q9 => ?_) (fun q9 => absurd (nI_le (by omega) (by omega)) q9)
    refine v_iload_n i_M_dirtyPages_35 rfl ?_
    refine v_iret i_M_dirtyPages_36 rfl (by decide) (by decide) ⟨rfl, ?_⟩
    rw [show i = made by omega]
  | succ j ih =>
    intro i hi
    refine v_iload_n i_M_dirtyPages_4 rfl ?_
    refine v_aload_n i_M_dirtyPages_5 rfl ?_
    refine v_get B i_M_dirtyPages_6 (by first | assumption | exact qset_self _ _ _ | (rw [qset_ne _ _ (by omega)]; first | assumption | exact qset_self _ _ _ | (rw [qset_ne _ _ (by omega)]; first | assumption | exact qset_self _ _ _ | (rw [qset_ne _ _ (by omega)]; first | assumption | exact qset_self _ _ _ | (rw [qset_ne _ _ (by omega)]; first | assumption | exact qset_self _ _ _ | (rw [qset_ne _ _ (by omega)]; first | assumption | exact qset_self _ _ _ | (rw [qset_ne _ _ (by omega)]; first | assumption | exact qset_self _ _ _))))))) rfl ?_
    rw [t1]
    refine v_icmp_ge (tgt := 35) i_M_dirtyPages_9 rfl (fun q9 => absurd q9 (nI_ge (by omega) (by omega))) (fun q9 => ?_)
    refine v_iload_n i_M_dirtyPages_12 rfl ?_
    refine v_aload_n i_M_dirtyPages_13 rfl ?_
    refine v_get B i_M_dirtyPages_14 (by first | assumption | exact qset_self _ _ _ | (rw [qset_ne _ _ (by omega)]; first | assumption | exact qset_self _ _ _ | (rw [qset_ne _ _ (by omega)]; first | assumption | exact qset_self _ _ _ | (rw [qset_ne _ _ (by omega)]; first | assumption | exact qset_self _ _ _ | (rw [qset_ne _ _ (by omega)]; first | assumption | exact qset_self _ _ _ | (rw [qset_ne _ _ (by omega)]; first | assumption | exact qset_self _ _ _ | (rw [qset_ne _ _ (by omega)]; first | assumption | exact qset_self _ _ _))))))) rfl ?_
    refine v_iload_n i_M_dirtyPages_17 rfl ?_
    refine v_zald B (by first | assumption | exact qset_self _ _ _ | (rw [qset_ne _ _ (by omega)]; first | assumption | exact qset_self _ _ _ | (rw [qset_ne _ _ (by omega)]; first | assumption | exact qset_self _ _ _ | (rw [qset_ne _ _ (by omega)]; first | assumption | exact qset_self _ _ _ | (rw [qset_ne _ _ (by omega)]; first | assumption | exact qset_self _ _ _ | (rw [qset_ne _ _ (by omega)]; first | assumption | exact qset_self _ _ _ | (rw [qset_ne _ _ (by omega)]; first | assumption | exact qset_self _ _ _))))))) rfl (by omega) (by omega) i_M_dirtyPages_18 ?_
    rw [t6 i (by omega)]
    have e : nI (tchg pg kp i) + (if gchg (pg i) kp = true then 1 else 0) = nI (tchg pg kp (i + 1)) := by
      rw [tchg]
      split
      · exact nI_1 _
      · rw [Nat.add_zero]; exact Int32.add_zero _
    refine v_if_eq (tgt := 26) i_M_dirtyPages_19 rfl (fun q19 => ?_) (fun q19 => ?_)
    · rw [if_neg (by have := bI_0.mp q19; intro z; rw [show gchg (pg i) kp = false from this] at z; cases z)] at e
      refine v_iconst (v := 0) i_M_dirtyPages_26 rfl ?_
      refine v_iadd i_M_dirtyPages_27 ?_
      refine v_istore_n i_M_dirtyPages_28 (by decide) rfl ?_
      refine v_iinc (v := nI (i + 1)) i_M_dirtyPages_29 rfl (nI_1 _) (by decide) rfl ?_
      refine v_goto (tgt := 4) i_M_dirtyPages_32 rfl ?_
      rw [e]
      exact v_loc [(0, .ref m), (1, .int (nI (tchg pg kp (i + 1)))), (2, .int (nI (i + 1)))] rfl (ih (i + 1) (by omega))
    · rw [if_pos (bI_ne q19)] at e
      refine v_iconst (v := 1) i_M_dirtyPages_22 rfl ?_
      refine v_goto (tgt := 27) i_M_dirtyPages_23 rfl ?_
      refine v_iadd i_M_dirtyPages_27 ?_
      refine v_istore_n i_M_dirtyPages_28 (by decide) rfl ?_
      refine v_iinc (v := nI (i + 1)) i_M_dirtyPages_29 rfl (nI_1 _) (by decide) rfl ?_
      refine v_goto (tgt := 4) i_M_dirtyPages_32 rfl ?_
      rw [e]
      exact v_loc [(0, .ref m), (1, .int (nI (tchg pg kp (i + 1)))), (2, .int (nI (i + 1)))] rfl (ih (i + 1) (by omega))
theorem c_M_dirtyPages (B : qB l s0 C) (h : MAt X m s I J) {kp : Nat} (hT : MT s I J pg made lat (fun q => gchg (pg q) kp) ro rb) : qMet l s0 C m_M_dirtyPages rm_M_dirtyPages [.ref m] X (fun r X' => X = X' ∧ r = some (.int (nI (tchg pg kp made)))) (fun _ _ => False) := by
  obtain ⟨h0, -⟩ := id h
  refine q_of (by decide +kernel) (Nat.le_of_ble_eq_true rfl) ?_
  refine v_L (L' := [(0, .ref m)]) rfl ?_
  refine v_iconst (v := 0) i_M_dirtyPages_0 rfl ?_
  refine v_istore_n i_M_dirtyPages_1 (by decide) rfl ?_
  refine v_iconst (v := 0) i_M_dirtyPages_2 rfl ?_
  refine v_istore_n i_M_dirtyPages_3 (by decide) rfl ?_
  exact v_loc [(0, .ref m), (1, .int (nI (tchg pg kp 0))), (2, .int (nI 0))] rfl (c_M_dirtyPages_loop B h hT made 0 (by omega))
theorem c_M_version (B : qB l s0 C) (h : MAt X m s I J) {b : Bool} (hb : s 25 = bI b) (hl : s 12 = nI lat) : qMet l s0 C m_M_version rm_M_version [.ref m] X (fun r X' => r = some (.int (if b = true then 0 else nI lat)) ∧ mRO X X' m s I J (bI b)) (fun _ _ => False) := by
  obtain ⟨h0, -⟩ := id h
  refine q_of (by decide +kernel) (Nat.le_of_ble_eq_true rfl) ?_
  refine v_L (L' := [(0, .ref m)]) rfl ?_
  refine v_aload_n i_M_version_0 rfl ?_
  refine v_inv B i_M_version_1 kn_m_M_isDown (c_M_isDown B h hb) h0 rfl rfl (Nat.le_of_ble_eq_true rfl) ⟨by decide, by decide, by first | decide | (simp; omega), by first | decide | (simp; omega)⟩ rfl (fun r X' hq => ?_) (fun _ _ h => False.elim h)
  obtain ⟨rfl, h1, f1⟩ := hq
  obtain ⟨k0, -⟩ := id h1
  have hl1 : upd s 0 (bI b) 12 = nI lat := by rw [pk_un (by decide)]; exact hl
  have ho := mRO.of h1 f1
  cases b with
  | true =>
    refine v_if_eq (tgt := 11) i_M_version_4 rfl (fun q4 => absurd q4 (by decide)) (fun _ => ?_)
    refine v_iconst (v := 0) i_M_version_7 rfl ?_
    refine v_goto (tgt := 15) i_M_version_8 rfl ?_
    exact v_iret i_M_version_15 rfl (by decide) (by decide) ⟨rfl, ho⟩
  | false =>
    refine v_if_eq (tgt := 11) i_M_version_4 rfl (fun _ => ?_) (fun q4 => absurd rfl q4)
    refine v_aload_n i_M_version_11 rfl ?_
    refine v_get B i_M_version_12 (by first | assumption | exact qset_self _ _ _ | (rw [qset_ne _ _ (by omega)]; first | assumption | exact qset_self _ _ _ | (rw [qset_ne _ _ (by omega)]; first | assumption | exact qset_self _ _ _ | (rw [qset_ne _ _ (by omega)]; first | assumption | exact qset_self _ _ _ | (rw [qset_ne _ _ (by omega)]; first | assumption | exact qset_self _ _ _ | (rw [qset_ne _ _ (by omega)]; first | assumption | exact qset_self _ _ _ | (rw [qset_ne _ _ (by omega)]; first | assumption | exact qset_self _ _ _))))))) rfl ?_
    rw [hl1]
    exact v_iret i_M_version_15 rfl (by decide) (by decide) ⟨rfl, ho⟩
theorem c_M_pages (B : qB l s0 C) (h : MAt X m s I J) {b : Bool} (hb : s 25 = bI b) (hl : s 10 = nI made) : qMet l s0 C m_M_pages rm_M_pages [.ref m] X (fun r X' => r = some (.int (if b = true then 0 else nI made)) ∧ mRO X X' m s I J (bI b)) (fun _ _ => False) := by
  obtain ⟨h0, -⟩ := id h
  refine q_of (by decide +kernel) (Nat.le_of_ble_eq_true rfl) ?_
  refine v_L (L' := [(0, .ref m)]) rfl ?_
  refine v_aload_n i_M_pages_0 rfl ?_
  refine v_inv B i_M_pages_1 kn_m_M_isDown (c_M_isDown B h hb) h0 rfl rfl (Nat.le_of_ble_eq_true rfl) ⟨by decide, by decide, by first | decide | (simp; omega), by first | decide | (simp; omega)⟩ rfl (fun r X' hq => ?_) (fun _ _ h => False.elim h)
  obtain ⟨rfl, h1, f1⟩ := hq
  obtain ⟨k0, -⟩ := id h1
  have hl1 : upd s 0 (bI b) 10 = nI made := by rw [pk_un (by decide)]; exact hl
  have ho := mRO.of h1 f1
  cases b with
  | true =>
    refine v_if_eq (tgt := 11) i_M_pages_4 rfl (fun q4 => absurd q4 (by decide)) (fun _ => ?_)
    refine v_iconst (v := 0) i_M_pages_7 rfl ?_
    refine v_goto (tgt := 15) i_M_pages_8 rfl ?_
    exact v_iret i_M_pages_15 rfl (by decide) (by decide) ⟨rfl, ho⟩
  | false =>
    refine v_if_eq (tgt := 11) i_M_pages_4 rfl (fun _ => ?_) (fun q4 => absurd rfl q4)
    refine v_aload_n i_M_pages_11 rfl ?_
    refine v_get B i_M_pages_12 (by first | assumption | exact qset_self _ _ _ | (rw [qset_ne _ _ (by omega)]; first | assumption | exact qset_self _ _ _ | (rw [qset_ne _ _ (by omega)]; first | assumption | exact qset_self _ _ _ | (rw [qset_ne _ _ (by omega)]; first | assumption | exact qset_self _ _ _ | (rw [qset_ne _ _ (by omega)]; first | assumption | exact qset_self _ _ _ | (rw [qset_ne _ _ (by omega)]; first | assumption | exact qset_self _ _ _ | (rw [qset_ne _ _ (by omega)]; first | assumption | exact qset_self _ _ _))))))) rfl ?_
    rw [hl1]
    exact v_iret i_M_pages_15 rfl (by decide) (by decide) ⟨rfl, ho⟩
theorem c_M_bound (B : qB l s0 C) (h : MAt X m s I J) {b : Bool} (hb : s 25 = bI b) (hl : s 12 = nI lat) : qMet l s0 C m_M_bound rm_M_bound [.ref m] X (fun r X' => r = some (.int (if b = true then 0 else nI (2 + 2 * lat))) ∧ mRO X X' m s I J (bI b)) (fun _ _ => False) := by
  obtain ⟨h0, -⟩ := id h
  refine q_of (by decide +kernel) (Nat.le_of_ble_eq_true rfl) ?_
  refine v_L (L' := [(0, .ref m)]) rfl ?_
  refine v_aload_n i_M_bound_0 rfl ?_
  refine v_inv B i_M_bound_1 kn_m_M_isDown (c_M_isDown B h hb) h0 rfl rfl (Nat.le_of_ble_eq_true rfl) ⟨by decide, by decide, by first | decide | (simp; omega), by first | decide | (simp; omega)⟩ rfl (fun r X' hq => ?_) (fun _ _ h => False.elim h)
  obtain ⟨rfl, h1, f1⟩ := hq
  obtain ⟨k0, -⟩ := id h1
  have hl1 : upd s 0 (bI b) 12 = nI lat := by rw [pk_un (by decide)]; exact hl
  have ho := mRO.of h1 f1
  cases b with
  | true =>
    refine v_if_eq (tgt := 11) i_M_bound_4 rfl (fun q4 => absurd q4 (by decide)) (fun _ => ?_)
    refine v_iconst (v := 0) i_M_bound_7 rfl ?_
    refine v_goto (tgt := 19) i_M_bound_8 rfl ?_
    exact v_iret i_M_bound_19 rfl (by decide) (by decide) ⟨rfl, ho⟩
  | false =>
    refine v_if_eq (tgt := 11) i_M_bound_4 rfl (fun _ => ?_) (fun q4 => absurd rfl q4)
    refine v_iconst (v := 2) i_M_bound_11 rfl ?_
    refine v_iconst (v := 2) i_M_bound_12 rfl ?_
    refine v_aload_n i_M_bound_13 rfl ?_
    refine v_get B i_M_bound_14 (by first | assumption | exact qset_self _ _ _ | (rw [qset_ne _ _ (by omega)]; first | assumption | exact qset_self _ _ _ | (rw [qset_ne _ _ (by omega)]; first | assumption | exact qset_self _ _ _ | (rw [qset_ne _ _ (by omega)]; first | assumption | exact qset_self _ _ _ | (rw [qset_ne _ _ (by omega)]; first | assumption | exact qset_self _ _ _ | (rw [qset_ne _ _ (by omega)]; first | assumption | exact qset_self _ _ _ | (rw [qset_ne _ _ (by omega)]; first | assumption | exact qset_self _ _ _))))))) rfl ?_
    rw [hl1]
    refine v_imul i_M_bound_17 ?_
    refine v_iadd i_M_bound_18 ?_
    rw [show (2 : Int32) * nI lat = nI (2 * lat) from nI_mul 2 lat, show (2 : Int32) + nI (2 * lat) = nI (2 + 2 * lat) from nI_add 2 _]
    exact v_iret i_M_bound_19 rfl (by decide) (by decide) ⟨rfl, ho⟩
theorem c_M_root (B : qB l s0 C) (h : MAt X m s I J) {b : Bool} (hb : s 25 = bI b) (hl : s 12 = nI lat) (hlt : lat < 4000) (hro : ∀ w, w ≤ lat → I 10 w = nI (ro w)) (v : Int32) : qMet l s0 C m_M_root rm_M_root [.ref m, .int v] X (fun r X' => ∃ z, r = some (.int z) ∧ (b = false → ∀ j, j ≤ lat → v = nI j → z = nI (ro j)) ∧ mRO X X' m s I J (mcode b (!(ver v lat)) false false)) (fun _ _ => False) := by
  obtain ⟨h0, -⟩ := id h
  refine q_of (by decide +kernel) (Nat.le_of_ble_eq_true rfl) ?_
  refine v_L (L' := [(0, .ref m), (1, .int v)]) rfl ?_
  refine v_aload_n i_M_root_0 rfl ?_
  refine v_aload_n i_M_root_1 rfl ?_
  refine v_get B i_M_root_2 (by first | assumption | exact qset_self _ _ _ | (rw [qset_ne _ _ (by omega)]; first | assumption | exact qset_self _ _ _ | (rw [qset_ne _ _ (by omega)]; first | assumption | exact qset_self _ _ _ | (rw [qset_ne _ _ (by omega)]; first | assumption | exact qset_self _ _ _ | (rw [qset_ne _ _ (by omega)]; first | assumption | exact qset_self _ _ _ | (rw [qset_ne _ _ (by omega)]; first | assumption | exact qset_self _ _ _ | (rw [qset_ne _ _ (by omega)]; first | assumption | exact qset_self _ _ _))))))) rfl ?_
  refine v_aload_n i_M_root_5 rfl ?_
  refine v_iload_n i_M_root_6 rfl ?_
  rw [hb]
  refine v_inv B i_M_root_7 kn_m_M_isVersion (c_M_isVersion B h hl v) h0 rfl rfl (Nat.le_of_ble_eq_true rfl) ⟨by decide, by decide, by first | decide | (simp; omega), by first | decide | (simp; omega)⟩ rfl (fun r X' hq => ?_) (fun _ _ h => False.elim h)
  obtain ⟨rfl, rfl⟩ := hq
  have go : qV l s0 C m_M_root rm_M_root (fun r X' => ∃ z, r = some (.int z) ∧ (b = false → ∀ j, j ≤ lat → v = nI j → z = nI (ro j)) ∧ mRO X X' m s I J (mcode b (!(ver v lat)) false false)) (fun _ _ => False) 0 0 X 18 [(0, .ref m), (1, .int v)] [.int (bI (!(ver v lat))), .int (bI b), .ref m] := by
    refine v_iconst (v := 0) i_M_root_18 rfl ?_
    refine v_iconst (v := 0) i_M_root_19 rfl ?_
    refine v_inv B i_M_root_20 kn_m_M_fails (c_M_fails B h b (!(ver v lat)) false false) h0 rfl rfl (Nat.le_of_ble_eq_true rfl) ⟨by decide, by decide, by first | decide | (simp; omega), by first | decide | (simp; omega)⟩ rfl (fun r X' hq => ?_) (fun _ _ h => False.elim h)
    obtain ⟨rfl, h1, f1⟩ := hq
    have ho := mRO.of h1 f1
    obtain ⟨k0, -⟩ := id h1
    by_cases hf : (b || !(ver v lat) || false || false) = true
    · rw [hf]
      refine v_if_eq (tgt := 30) i_M_root_23 rfl (fun q23 => absurd q23 (by decide)) (fun _ => ?_)
      refine v_iconst (v := 0) i_M_root_26 rfl ?_
      refine v_goto (tgt := 36) i_M_root_27 rfl ?_
      refine v_iret i_M_root_36 rfl (by decide) (by decide) ⟨0, rfl, fun hb0 j hj hvj => ?_, ho⟩
      rw [hb0, hvj, ver_nI hj hlt] at hf; exact absurd hf (by decide)
    · rw [Bool.not_eq_true] at hf
      rw [hf]
      simp only [Bool.or_false, Bool.or_eq_false_iff, Bool.not_eq_false'] at hf
      obtain ⟨j, j1, rfl⟩ := ver_of hf.2 hlt
      refine v_if_eq (tgt := 30) i_M_root_23 rfl (fun _ => ?_) (fun q23 => absurd rfl q23)
      obtain ⟨_, _, _, _, _, _, _, _, _, _, b10, _⟩ := h1.all
      refine v_aload_n i_M_root_30 rfl ?_
      refine v_get B i_M_root_31 (by first | assumption | exact qset_self _ _ _ | (rw [qset_ne _ _ (by omega)]; first | assumption | exact qset_self _ _ _ | (rw [qset_ne _ _ (by omega)]; first | assumption | exact qset_self _ _ _ | (rw [qset_ne _ _ (by omega)]; first | assumption | exact qset_self _ _ _ | (rw [qset_ne _ _ (by omega)]; first | assumption | exact qset_self _ _ _ | (rw [qset_ne _ _ (by omega)]; first | assumption | exact qset_self _ _ _ | (rw [qset_ne _ _ (by omega)]; first | assumption | exact qset_self _ _ _))))))) rfl ?_
      refine v_iload_n i_M_root_34 rfl ?_
      refine v_iald (j := j) B b10 rfl (by omega) (by omega) i_M_root_35 ?_
      rw [hro j j1]
      refine v_iret i_M_root_36 rfl (by decide) (by decide) ⟨_, rfl, fun _ j' hj' e => ?_, ho⟩
      rw [(nI_eq (by omega) (by omega)).mp e]
  cases hv : ver v lat with
  | true =>
    rw [hv] at go
    refine v_if_ne (tgt := 17) i_M_root_10 rfl (fun _ => ?_) (fun q10 => absurd q10 (by decide))
    refine v_iconst (v := 0) i_M_root_17 rfl ?_
    exact go
  | false =>
    rw [hv] at go
    refine v_if_ne (tgt := 17) i_M_root_10 rfl (fun q10 => absurd rfl q10) (fun _ => ?_)
    refine v_iconst (v := 1) i_M_root_13 rfl ?_
    refine v_goto (tgt := 18) i_M_root_14 rfl ?_
    exact go
theorem vA_lt0 {p : Nat} {o : Option Nat} (hp : p < 512) (ho : oLt o 16) : (vA p o < 0 ↔ o.isSome = false) := by
  rw [vA_neg hp ho]
  cases o <;> simp
theorem c_M_has (B : qB l s0 C) (h : MAt X m s I J) {b : Bool} (hb : s 25 = bI b) (hl : s 12 = nI lat) (hlt : lat < 4000) (hT : MT s I J pg made lat dt ro rb) (hrb : lat ≤ rb) (v k : Int32) (hd : ∀ j, j ≤ lat → mdOK pg made j k 16 (ro j)) : qMet l s0 C m_M_has rm_M_has [.ref m, .int v, .int k] X (fun r X' => ∃ z, r = some (.int z) ∧ (b = false → ∀ j, j ≤ lat → v = nI j → z = bI (gslot (pg (tlf pg made j k 16 (ro j))) k j).isSome) ∧ mRO X X' m s I J (mcode b (!(ver v lat)) false false)) (fun _ _ => False) := by
  obtain ⟨h0, -⟩ := id h
  refine q_of (by decide +kernel) (Nat.le_of_ble_eq_true rfl) ?_
  refine v_L (L' := [(0, .ref m), (1, .int v), (2, .int k)]) rfl ?_
  refine v_aload_n i_M_has_0 rfl ?_
  refine v_aload_n i_M_has_1 rfl ?_
  refine v_get B i_M_has_2 (by first | assumption | exact qset_self _ _ _ | (rw [qset_ne _ _ (by omega)]; first | assumption | exact qset_self _ _ _ | (rw [qset_ne _ _ (by omega)]; first | assumption | exact qset_self _ _ _ | (rw [qset_ne _ _ (by omega)]; first | assumption | exact qset_self _ _ _ | (rw [qset_ne _ _ (by omega)]; first | assumption | exact qset_self _ _ _ | (rw [qset_ne _ _ (by omega)]; first | assumption | exact qset_self _ _ _ | (rw [qset_ne _ _ (by omega)]; first | assumption | exact qset_self _ _ _))))))) rfl ?_
  refine v_aload_n i_M_has_5 rfl ?_
  refine v_iload_n i_M_has_6 rfl ?_
  rw [hb]
  refine v_inv B i_M_has_7 kn_m_M_isVersion (c_M_isVersion B h hl v) h0 rfl rfl (Nat.le_of_ble_eq_true rfl) ⟨by decide, by decide, by first | decide | (simp; omega), by first | decide | (simp; omega)⟩ rfl (fun r X' hq => ?_) (fun _ _ h => False.elim h)
  obtain ⟨rfl, rfl⟩ := hq
  have go : qV l s0 C m_M_has rm_M_has (fun r X' => ∃ z, r = some (.int z) ∧ (b = false → ∀ j, j ≤ lat → v = nI j → z = bI (gslot (pg (tlf pg made j k 16 (ro j))) k j).isSome) ∧ mRO X X' m s I J (mcode b (!(ver v lat)) false false)) (fun _ _ => False) 0 0 X 18 [(0, .ref m), (1, .int v), (2, .int k)] [.int (bI (!(ver v lat))), .int (bI b), .ref m] := by
    refine v_iconst (v := 0) i_M_has_18 rfl ?_
    refine v_iconst (v := 0) i_M_has_19 rfl ?_
    refine v_inv B i_M_has_20 kn_m_M_fails (c_M_fails B h b (!(ver v lat)) false false) h0 rfl rfl (Nat.le_of_ble_eq_true rfl) ⟨by decide, by decide, by first | decide | (simp; omega), by first | decide | (simp; omega)⟩ rfl (fun r X' hq => ?_) (fun _ _ h => False.elim h)
    obtain ⟨rfl, h1, f1⟩ := hq
    have ho := mRO.of h1 f1
    obtain ⟨k0, -⟩ := id h1
    by_cases hf : (b || !(ver v lat) || false || false) = true
    · rw [hf]
      refine v_if_ne (tgt := 39) i_M_has_23 rfl (fun _ => ?_) (fun q23 => absurd q23 (by decide))
      refine v_iconst (v := 0) i_M_has_39 rfl ?_
      refine v_zret i_M_has_40 rfl (Or.inl rfl) (by decide) (by decide) ⟨0, rfl, fun hb0 j hj hvj => ?_, ho⟩
      rw [hb0, hvj, ver_nI hj hlt] at hf; exact absurd hf (by decide)
    · rw [Bool.not_eq_true] at hf
      rw [hf]
      simp only [Bool.or_false, Bool.or_eq_false_iff, Bool.not_eq_false'] at hf
      obtain ⟨j, j1, rfl⟩ := ver_of hf.2 hlt
      obtain ⟨t1, ⟨t2, t2b, t2c, t2d⟩, t3, t4, t5, t6⟩ := id hT
      refine v_if_ne (tgt := 39) i_M_has_23 rfl (fun q23 => absurd rfl q23) (fun _ => ?_)
      refine v_aload_n i_M_has_26 rfl ?_
      refine v_iload_n i_M_has_27 rfl ?_
      refine v_iload_n i_M_has_28 rfl ?_
      refine v_inv B i_M_has_29 kn_m_M_leafEntry (c_M_leafEntry B h1 k t4 t2b (by omega) (t5 j (by omega)).1 (n := 16) (hd j j1)) k0 rfl rfl (Nat.le_of_ble_eq_true rfl) ⟨by decide, by decide, by first | decide | (simp; omega), by first | decide | (simp; omega)⟩ rfl (fun r X' hq => ?_) (fun _ _ h => False.elim h)
      obtain ⟨rfl, rfl⟩ := hq
      have hlf := tlf_level t2b (fun p hp => (t4 p hp).1.2.2.2.1) (hd j j1)
      have ho16 : oLt (gslot (pg (tlf pg made j k 16 (ro j))) k j) 16 := fun t ht => by
        have := gslot_lt ht
        have := (t4 _ hlf.2).1.2.2.2.1
        omega
      have hneg := vA_lt0 (p := tlf pg made j k 16 (ro j)) (by omega) ho16
      refine v_if_lt (tgt := 39) i_M_has_32 rfl (fun q32 => ?_) (fun q32 => ?_)
      · refine v_iconst (v := 0) i_M_has_39 rfl ?_
        refine v_zret i_M_has_40 rfl (Or.inl rfl) (by decide) (by decide) ⟨0, rfl, fun _ j' hj' e => ?_, ho⟩
        rw [← (nI_eq (by omega) (by omega)).mp e, hneg.mp q32]; rfl
      · refine v_iconst (v := 1) i_M_has_35 rfl ?_
        refine v_goto (tgt := 40) i_M_has_36 rfl ?_
        refine v_zret i_M_has_40 rfl (Or.inr rfl) (by decide) (by decide) ⟨1, rfl, fun _ j' hj' e => ?_, ho⟩
        rw [← (nI_eq (by omega) (by omega)).mp e]
        cases hq : (gslot (pg (tlf pg made j k 16 (ro j))) k j).isSome
        · exact absurd (hneg.mpr hq) q32
        · rfl
  cases hv : ver v lat with
  | true =>
    rw [hv] at go
    refine v_if_ne (tgt := 17) i_M_has_10 rfl (fun _ => ?_) (fun q10 => absurd q10 (by decide))
    refine v_iconst (v := 0) i_M_has_17 rfl ?_
    exact go
  | false =>
    rw [hv] at go
    refine v_if_ne (tgt := 17) i_M_has_10 rfl (fun q10 => absurd rfl q10) (fun _ => ?_)
    refine v_iconst (v := 1) i_M_has_13 rfl ?_
    refine v_goto (tgt := 18) i_M_has_14 rfl ?_
    exact go
end MR
