/-! the reference: remake -/
section MR
variable {X X' : qX} {m : Nat} {s : Nat → Int32} {I : Nat → Nat → Int32} {J : Nat → Nat → Int64}
variable {pg : Nat → Pg} {made lat : Nat} {dt : Nat → Bool} {ro : Nat → Nat} {rb : Nat}
variable {l : Launch} {s0 : State} {C : qC}
theorem MT.pgs {pg' : Nat → Pg} (h : MT s I J pg made lat dt ro rb) (he : ∀ p, p < made → pg p = pg' p) : MT s I J pg' made lat dt ro rb := by
  obtain ⟨h1, h2, h3, h4, h5, h6⟩ := h
  exact ⟨h1, h2, h3, fun p hp => by rw [← he p hp]; exact h4 p hp, h5, h6⟩
theorem MT.dts {dt' : Nat → Bool} (h : MT s I J pg made lat dt ro rb) (he : ∀ p, p < made → dt p = dt' p) : MT s I J pg made lat dt' ro rb := by
  obtain ⟨h1, h2, h3, h4, h5, h6⟩ := h
  exact ⟨h1, h2, h3, h4, h5, fun p hp => by rw [← he p hp]; exact h6 p hp⟩
theorem mRw.keep {s' : Nat → Int32} {I' : Nat → Nat → Int32} {J' : Nat → Nat → Int64} {A S : List Nat} {R : qRw} (h : mRw s I J R) (hk : mK A I J I' J') (hs : sK S s s') (hA : (A.contains 21 || A.contains 22 || S.contains 33) = false) : mRw s' I' J' R := by
  simp only [Bool.or_eq_false_iff] at hA
  have f : ∀ (A : List Nat) a, A.contains a = false → a ∉ A := fun A a ha q => by rw [List.contains_iff_mem.mpr q] at ha; cases ha
  obtain ⟨⟨x1, x2⟩, x3⟩ := hA
  obtain ⟨h1, h2, h3⟩ := h
  exact ⟨by rw [hs 33 (f _ _ x3)]; exact h1, h2, fun i hi => by rw [(hk 21 (f _ _ x1)).1, (hk 22 (f _ _ x2)).2]; exact h3 i hi⟩
theorem va_up2 {α : Type} (f : Nat → α) (a : Nat) (x y : α) : va_up (va_up f a x) a y = va_up f a y := by
  funext i
  unfold va_up
  by_cases h : i = a <;> simp [h]
theorem c_M_remake_a (B : qB l s0 C) {R : qRw} (hR0 : R.length ≤ 40) (half q p lev v : Nat) (hhalf : half ≤ R.length) (h16 : half - 0 ≤ 16) (hv : v < 2 ^ 30) (z g1 g2 : Int32) {Qp : Option Value → qX → Prop} {rm : Room} (hrm : 1 ≤ rm.frames ∧ 26 ≤ rm.locals)
    (K : ∀ (X2 : qX) (I2 : Nat → Nat → Int32) (J2 : Nat → Nat → Int64), MAt X2 m s I2 J2 → MT s I2 J2 (va_up pg q (lev, v, none, gtk R v 0 (half))) made lat dt ro rb → mSn I J I2 J2 → mK [4, 6, 7, 8, 9] I J I2 J2 → qSame X X2 m (m + 30) → qV l s0 C m_M_remake rm Qp (fun _ _ => False) 0 0 X2 76 [(0, .ref m), (1, .int (nI p)), (2, .int (nI v)), (3, .int z), (4, .int g1), (5, .int g2), (6, .int (nI q)), (7, .int (nI half)), (8, .int (nI half))] []) (hq0 : q < made) (hRw : mRw s I J R) :
    ∀ (j i : Nat) (X' : qX) (I' : Nat → Nat → Int32) (J' : Nat → Nat → Int64), i + j = half → 0 ≤ i → MAt X' m s I' J' → MT s I' J' (va_up pg q (lev, v, none, gtk R v 0 (i))) made lat dt ro rb → mSn I J I' J' → mK [4, 6, 7, 8, 9] I J I' J' → qSame X X' m (m + 30) →
      qV l s0 C m_M_remake rm Qp (fun _ _ => False) 0 0 X' 42 [(0, .ref m), (1, .int (nI p)), (2, .int (nI v)), (3, .int z), (4, .int g1), (5, .int g2), (6, .int (nI q)), (7, .int (nI half)), (8, .int (nI i))] [] := by
  intro j
  induction j with
  | zero =>
    intro i X' I' J' hij hlo h hT hsn hk hf
    obtain ⟨h0, a1, a2, a3, a4, a5, a6, a7, a8, a9, a10, a11, a12, a13, a14, a15, a16, a17, a18, a19, a20, a21, a22, a23, a24, a25, a26, a27, a28, a29⟩ := h.all
    obtain ⟨r1, r2, r3⟩ := hRw.keep (S := []) hk (sK.rf _ _) (by decide)
    have hi : i = half := by omega
    subst hi
    refine v_iload i_M_remake_42 rfl ?_
    refine v_iload i_M_remake_44 rfl ?_
    skip
    refine v_icmp_ge (tgt := 76) i_M_remake_46 rfl (fun qc => ?_) (fun qc => ?_)
    · exact K X' I' J' h hT hsn hk hf
    · exact absurd (nI_le (Nat.le_refl _) (by omega)) qc
  | succ j ih =>
    intro i X' I' J' hij hlo h hT hsn hk hf
    obtain ⟨h0, a1, a2, a3, a4, a5, a6, a7, a8, a9, a10, a11, a12, a13, a14, a15, a16, a17, a18, a19, a20, a21, a22, a23, a24, a25, a26, a27, a28, a29⟩ := h.all
    obtain ⟨r1, r2, r3⟩ := hRw.keep (S := []) hk (sK.rf _ _) (by decide)
    obtain ⟨k1, k2⟩ := r3 i (by omega)
    refine v_iload i_M_remake_42 rfl ?_
    refine v_iload i_M_remake_44 rfl ?_
    skip
    refine v_icmp_ge (tgt := 76) i_M_remake_46 rfl (fun qc => ?_) (fun qc => ?_)
    · exact absurd qc (nI_ge (by omega) (by omega))
    refine v_aload_n i_M_remake_49 rfl ?_
    refine v_iload i_M_remake_50 rfl ?_
    refine v_aload_n i_M_remake_52 rfl ?_
    refine v_get B i_M_remake_53 (by first | assumption | exact qset_self _ _ _ | (rw [qset_ne _ _ (by omega)]; first | assumption | exact qset_self _ _ _ | (rw [qset_ne _ _ (by omega)]; first | assumption | exact qset_self _ _ _ | (rw [qset_ne _ _ (by omega)]; first | assumption | exact qset_self _ _ _ | (rw [qset_ne _ _ (by omega)]; first | assumption | exact qset_self _ _ _ | (rw [qset_ne _ _ (by omega)]; first | assumption | exact qset_self _ _ _ | (rw [qset_ne _ _ (by omega)]; first | assumption | exact qset_self _ _ _))))))) rfl ?_
    refine v_iload i_M_remake_56 rfl ?_
    refine v_iald B (by first | assumption | exact qset_self _ _ _ | (rw [qset_ne _ _ (by omega)]; first | assumption | exact qset_self _ _ _ | (rw [qset_ne _ _ (by omega)]; first | assumption | exact qset_self _ _ _ | (rw [qset_ne _ _ (by omega)]; first | assumption | exact qset_self _ _ _ | (rw [qset_ne _ _ (by omega)]; first | assumption | exact qset_self _ _ _ | (rw [qset_ne _ _ (by omega)]; first | assumption | exact qset_self _ _ _ | (rw [qset_ne _ _ (by omega)]; first | assumption | exact qset_self _ _ _))))))) rfl (by omega) (by omega) i_M_remake_58 ?_
    refine v_aload_n i_M_remake_59 rfl ?_
    refine v_get B i_M_remake_60 (by first | assumption | exact qset_self _ _ _ | (rw [qset_ne _ _ (by omega)]; first | assumption | exact qset_self _ _ _ | (rw [qset_ne _ _ (by omega)]; first | assumption | exact qset_self _ _ _ | (rw [qset_ne _ _ (by omega)]; first | assumption | exact qset_self _ _ _ | (rw [qset_ne _ _ (by omega)]; first | assumption | exact qset_self _ _ _ | (rw [qset_ne _ _ (by omega)]; first | assumption | exact qset_self _ _ _ | (rw [qset_ne _ _ (by omega)]; first | assumption | exact qset_self _ _ _))))))) rfl ?_
    refine v_iload i_M_remake_63 rfl ?_
    refine v_lald B (by first | assumption | exact qset_self _ _ _ | (rw [qset_ne _ _ (by omega)]; first | assumption | exact qset_self _ _ _ | (rw [qset_ne _ _ (by omega)]; first | assumption | exact qset_self _ _ _ | (rw [qset_ne _ _ (by omega)]; first | assumption | exact qset_self _ _ _ | (rw [qset_ne _ _ (by omega)]; first | assumption | exact qset_self _ _ _ | (rw [qset_ne _ _ (by omega)]; first | assumption | exact qset_self _ _ _ | (rw [qset_ne _ _ (by omega)]; first | assumption | exact qset_self _ _ _))))))) rfl (by omega) (by omega) i_M_remake_65 ?_
    refine v_iload_n i_M_remake_66 rfl ?_
    rw [k1, k2]
    refine v_inv B i_M_remake_67 kn_m_M_append (c_M_append B h hT q hq0 (by rw [va_up_self]; show (gtk R v 0 (i)).length < 16; rw [gtk_len]; omega) (rk R i) (rv R i) v hv) h0 rfl rfl (Nat.le_of_ble_eq_true rfl) ⟨hrm.1, hrm.2, by show 0 + 0 ≤ rm.cells; omega, by show 0 + 0 ≤ rm.slots; omega⟩ rfl (fun r X2 hq => ?_) (fun _ _ h => False.elim h)
    obtain ⟨rfl, I2, J2, h2, hT2, hsn2, hk2, hf2⟩ := hq
    refine v_iinc (v := nI (i + 1)) i_M_remake_70 rfl (nI_1 i) (by decide) rfl ?_
    refine v_goto (tgt := 42) i_M_remake_73 rfl ?_
    refine v_loc [(0, .ref m), (1, .int (nI p)), (2, .int (nI v)), (3, .int z), (4, .int g1), (5, .int g2), (6, .int (nI q)), (7, .int (nI half)), (8, .int (nI (i + 1)))] rfl (ih (i + 1) X2 I2 J2 (by omega) (by omega) h2 ?_ (hsn.trans hsn2) (hk.trans hk2) (hf.trans hf2))
    rw [va_up2, va_up_self] at hT2
    have e9 : ((lev, v, (none : Option Nat), gtk R v 0 (i)).1, (lev, v, (none : Option Nat), gtk R v 0 (i)).2.1, (lev, v, (none : Option Nat), gtk R v 0 (i)).2.2.1, (lev, v, (none : Option Nat), gtk R v 0 (i)).2.2.2 ++ [(rk R i, v, (none : Option Nat), rv R i)]) = (lev, v, none, gtk R v 0 ((i + 1))) := by
      rw [gtk_succ, Nat.zero_add]
    rw [e9] at hT2
    exact hT2
theorem c_M_remake_b (B : qB l s0 C) {R : qRw} (hR0 : R.length ≤ 40) (half q p lev v : Nat) (hhalf : half ≤ R.length) (h16 : R.length - half ≤ 16) (hv : v < 2 ^ 30) (z g1 g2 f6 : Int32) {Qp : Option Value → qX → Prop} {rm : Room} (hrm : 1 ≤ rm.frames ∧ 26 ≤ rm.locals)
    (K : ∀ (X2 : qX) (I2 : Nat → Nat → Int32) (J2 : Nat → Nat → Int64), MAt X2 m s I2 J2 → MT s I2 J2 (va_up pg q (lev, v, none, gtk R v half (R.length - half))) made lat dt ro rb → mSn I J I2 J2 → mK [4, 6, 7, 8, 9] I J I2 J2 → qSame X X2 m (m + 30) → qV l s0 C m_M_remake rm Qp (fun _ _ => False) 0 0 X2 141 [(0, .ref m), (1, .int (nI p)), (2, .int (nI v)), (3, .int z), (4, .int g1), (5, .int g2), (6, .int f6), (7, .int (nI half)), (8, .int (nI q)), (9, .int (nI R.length))] []) (hq0 : q < made) (hRw : mRw s I J R) :
    ∀ (j i : Nat) (X' : qX) (I' : Nat → Nat → Int32) (J' : Nat → Nat → Int64), i + j = R.length → half ≤ i → MAt X' m s I' J' → MT s I' J' (va_up pg q (lev, v, none, gtk R v half (i - half))) made lat dt ro rb → mSn I J I' J' → mK [4, 6, 7, 8, 9] I J I' J' → qSame X X' m (m + 30) →
      qV l s0 C m_M_remake rm Qp (fun _ _ => False) 0 0 X' 105 [(0, .ref m), (1, .int (nI p)), (2, .int (nI v)), (3, .int z), (4, .int g1), (5, .int g2), (6, .int f6), (7, .int (nI half)), (8, .int (nI q)), (9, .int (nI i))] [] := by
  intro j
  induction j with
  | zero =>
    intro i X' I' J' hij hlo h hT hsn hk hf
    obtain ⟨h0, a1, a2, a3, a4, a5, a6, a7, a8, a9, a10, a11, a12, a13, a14, a15, a16, a17, a18, a19, a20, a21, a22, a23, a24, a25, a26, a27, a28, a29⟩ := h.all
    obtain ⟨r1, r2, r3⟩ := hRw.keep (S := []) hk (sK.rf _ _) (by decide)
    have hi : i = R.length := by omega
    subst hi
    refine v_iload i_M_remake_105 rfl ?_
    refine v_aload_n i_M_remake_107 rfl ?_
    refine v_get B i_M_remake_108 (by first | assumption | exact qset_self _ _ _ | (rw [qset_ne _ _ (by omega)]; first | assumption | exact qset_self _ _ _ | (rw [qset_ne _ _ (by omega)]; first | assumption | exact qset_self _ _ _ | (rw [qset_ne _ _ (by omega)]; first | assumption | exact qset_self _ _ _ | (rw [qset_ne _ _ (by omega)]; first | assumption | exact qset_self _ _ _ | (rw [qset_ne _ _ (by omega)]; first | assumption | exact qset_self _ _ _ | (rw [qset_ne _ _ (by omega)]; first | assumption | exact qset_self _ _ _))))))) rfl ?_
    rw [r1]
    refine v_icmp_ge (tgt := 141) i_M_remake_111 rfl (fun qc => ?_) (fun qc => ?_)
    · exact K X' I' J' h hT hsn hk hf
    · exact absurd (nI_le (Nat.le_refl _) (by omega)) qc
  | succ j ih =>
    intro i X' I' J' hij hlo h hT hsn hk hf
    obtain ⟨h0, a1, a2, a3, a4, a5, a6, a7, a8, a9, a10, a11, a12, a13, a14, a15, a16, a17, a18, a19, a20, a21, a22, a23, a24, a25, a26, a27, a28, a29⟩ := h.all
    obtain ⟨r1, r2, r3⟩ := hRw.keep (S := []) hk (sK.rf _ _) (by decide)
    obtain ⟨k1, k2⟩ := r3 i (by omega)
    refine v_iload i_M_remake_105 rfl ?_
    refine v_aload_n i_M_remake_107 rfl ?_
    refine v_get B i_M_remake_108 (by first | assumption | exact qset_self _ _ _ | (rw [qset_ne _ _ (by omega)]; first | assumption | exact qset_self _ _ _ | (rw [qset_ne _ _ (by omega)]; first | assumption | exact qset_self _ _ _ | (rw [qset_ne _ _ (by omega)]; first | assumption | exact qset_self _ _ _ | (rw [qset_ne _ _ (by omega)]; first | assumption | exact qset_self _ _ _ | (rw [qset_ne _ _ (by omega)]; first | assumption | exact qset_self _ _ _ | (rw [qset_ne _ _ (by omega)]; first | assumption | exact qset_self _ _ _))))))) rfl ?_
    rw [r1]
    refine v_icmp_ge (tgt := 141) i_M_remake_111 rfl (fun qc => ?_) (fun qc => ?_)
    · exact absurd qc (nI_ge (by omega) (by omega))
    refine v_aload_n i_M_remake_114 rfl ?_
    refine v_iload i_M_remake_115 rfl ?_
    refine v_aload_n i_M_remake_117 rfl ?_
    refine v_get B i_M_remake_118 (by first | assumption | exact qset_self _ _ _ | (rw [qset_ne _ _ (by omega)]; first | assumption | exact qset_self _ _ _ | (rw [qset_ne _ _ (by omega)]; first | assumption | exact qset_self _ _ _ | (rw [qset_ne _ _ (by omega)]; first | assumption | exact qset_self _ _ _ | (rw [qset_ne _ _ (by omega)]; first | assumption | exact qset_self _ _ _ | (rw [qset_ne _ _ (by omega)]; first | assumption | exact qset_self _ _ _ | (rw [qset_ne _ _ (by omega)]; first | assumption | exact qset_self _ _ _))))))) rfl ?_
    refine v_iload i_M_remake_121 rfl ?_
    refine v_iald B (by first | assumption | exact qset_self _ _ _ | (rw [qset_ne _ _ (by omega)]; first | assumption | exact qset_self _ _ _ | (rw [qset_ne _ _ (by omega)]; first | assumption | exact qset_self _ _ _ | (rw [qset_ne _ _ (by omega)]; first | assumption | exact qset_self _ _ _ | (rw [qset_ne _ _ (by omega)]; first | assumption | exact qset_self _ _ _ | (rw [qset_ne _ _ (by omega)]; first | assumption | exact qset_self _ _ _ | (rw [qset_ne _ _ (by omega)]; first | assumption | exact qset_self _ _ _))))))) rfl (by omega) (by omega) i_M_remake_123 ?_
    refine v_aload_n i_M_remake_124 rfl ?_
    refine v_get B i_M_remake_125 (by first | assumption | exact qset_self _ _ _ | (rw [qset_ne _ _ (by omega)]; first | assumption | exact qset_self _ _ _ | (rw [qset_ne _ _ (by omega)]; first | assumption | exact qset_self _ _ _ | (rw [qset_ne _ _ (by omega)]; first | assumption | exact qset_self _ _ _ | (rw [qset_ne _ _ (by omega)]; first | assumption | exact qset_self _ _ _ | (rw [qset_ne _ _ (by omega)]; first | assumption | exact qset_self _ _ _ | (rw [qset_ne _ _ (by omega)]; first | assumption | exact qset_self _ _ _))))))) rfl ?_
    refine v_iload i_M_remake_128 rfl ?_
    refine v_lald B (by first | assumption | exact qset_self _ _ _ | (rw [qset_ne _ _ (by omega)]; first | assumption | exact qset_self _ _ _ | (rw [qset_ne _ _ (by omega)]; first | assumption | exact qset_self _ _ _ | (rw [qset_ne _ _ (by omega)]; first | assumption | exact qset_self _ _ _ | (rw [qset_ne _ _ (by omega)]; first | assumption | exact qset_self _ _ _ | (rw [qset_ne _ _ (by omega)]; first | assumption | exact qset_self _ _ _ | (rw [qset_ne _ _ (by omega)]; first | assumption | exact qset_self _ _ _))))))) rfl (by omega) (by omega) i_M_remake_130 ?_
    refine v_iload_n i_M_remake_131 rfl ?_
    rw [k1, k2]
    refine v_inv B i_M_remake_132 kn_m_M_append (c_M_append B h hT q hq0 (by rw [va_up_self]; show (gtk R v half (i - half)).length < 16; rw [gtk_len]; omega) (rk R i) (rv R i) v hv) h0 rfl rfl (Nat.le_of_ble_eq_true rfl) ⟨hrm.1, hrm.2, by show 0 + 0 ≤ rm.cells; omega, by show 0 + 0 ≤ rm.slots; omega⟩ rfl (fun r X2 hq => ?_) (fun _ _ h => False.elim h)
    obtain ⟨rfl, I2, J2, h2, hT2, hsn2, hk2, hf2⟩ := hq
    refine v_iinc (v := nI (i + 1)) i_M_remake_135 rfl (nI_1 i) (by decide) rfl ?_
    refine v_goto (tgt := 105) i_M_remake_138 rfl ?_
    refine v_loc [(0, .ref m), (1, .int (nI p)), (2, .int (nI v)), (3, .int z), (4, .int g1), (5, .int g2), (6, .int f6), (7, .int (nI half)), (8, .int (nI q)), (9, .int (nI (i + 1)))] rfl (ih (i + 1) X2 I2 J2 (by omega) (by omega) h2 ?_ (hsn.trans hsn2) (hk.trans hk2) (hf.trans hf2))
    rw [va_up2, va_up_self] at hT2
    have e9 : ((lev, v, (none : Option Nat), gtk R v half (i - half)).1, (lev, v, (none : Option Nat), gtk R v half (i - half)).2.1, (lev, v, (none : Option Nat), gtk R v half (i - half)).2.2.1, (lev, v, (none : Option Nat), gtk R v half (i - half)).2.2.2 ++ [(rk R i, v, (none : Option Nat), rv R i)]) = (lev, v, none, gtk R v half ((i + 1) - half)) := by
      rw [show i + 1 - half = (i - half) + 1 by omega, gtk_succ, show half + (i - half) = i by omega]
    rw [e9] at hT2
    exact hT2
/-- pages from number n on are dirty -/
def mdt (n : Nat) (dt : Nat → Bool) : Nat → Bool := fun q => if n ≤ q then true else dt q
theorem mdt_1 (made : Nat) (dt : Nat → Bool) : ∀ q, q < made + 1 → va_up dt made true q = mdt made dt q := by
  intro q hq
  unfold mdt va_up
  by_cases hqm : q = made
  · simp [hqm]
  · rw [if_neg hqm, if_neg (by omega)]
def mb8 (made : Nat) (R : qRw) : Int32 := if thalf R.length < R.length then nI (made + 1) else -1
theorem c_M_remake_f (B : qB l s0 C) (h : MAt X m s I J) (hT : MT s I J pg made lat dt ro rb) {R : qRw} (hRw : mRw s I J R) (hR20 : R.length ≤ 20) (hm : made + 2 ≤ 256) (p v : Nat) (hp : p < made) (hv : v < 2 ^ 30) (z g1 g2 : Int32) {Qp : Option Value → qX → Prop}
    (K : ∀ (X2 : qX) (s2 : Nat → Int32) (I2 : Nat → Nat → Int32) (J2 : Nat → Nat → Int64), MAt X2 m s2 I2 J2 → MT s2 I2 J2 (tmkP pg made R (pg p).1 v) (tmkN made R) lat (mdt made dt) ro rb → mRw s2 I2 J2 R → mSn I J I2 J2 → mK [1, 2, 3, 4, 5, 6, 7, 8, 9] I J I2 J2 → sK [10] s s2 → qSame X X2 m (m + 30) →
      qV l s0 C m_M_remake rm_M_remake Qp (fun _ _ => False) 0 0 X2 141 [(0, .ref m), (1, .int (nI p)), (2, .int (nI v)), (3, .int z), (4, .int g1), (5, .int g2), (6, .int (nI made)), (7, .int (nI (thalf R.length))), (8, .int (mb8 made R))] []) :
    qV l s0 C m_M_remake rm_M_remake Qp (fun _ _ => False) 0 0 X 0 [(0, .ref m), (1, .int (nI p)), (2, .int (nI v)), (3, .int z), (4, .int g1), (5, .int g2)] [] := by
  obtain ⟨h0, a1, a2, a3, a4, a5, a6, a7, a8, a9, a10, a11, a12, a13, a14, a15, a16, a17, a18, a19, a20, a21, a22, a23, a24, a25, a26, a27, a28, a29⟩ := h.all
  obtain ⟨t1, t2, t3, t4, t5, t6⟩ := id hT
  obtain ⟨⟨o1, -⟩, e1, -⟩ := id (t4 p hp)
  have hth := thalf_le R.length
  have hth2 : thalf R.length ≤ 10 ∧ R.length - thalf R.length ≤ 10 := by unfold thalf; split <;> omega
  refine v_aload_n i_M_remake_0 rfl ?_
  refine v_aload_n i_M_remake_1 rfl ?_
  refine v_get B i_M_remake_2 (by first | assumption | exact qset_self _ _ _ | (rw [qset_ne _ _ (by omega)]; first | assumption | exact qset_self _ _ _ | (rw [qset_ne _ _ (by omega)]; first | assumption | exact qset_self _ _ _ | (rw [qset_ne _ _ (by omega)]; first | assumption | exact qset_self _ _ _ | (rw [qset_ne _ _ (by omega)]; first | assumption | exact qset_self _ _ _ | (rw [qset_ne _ _ (by omega)]; first | assumption | exact qset_self _ _ _ | (rw [qset_ne _ _ (by omega)]; first | assumption | exact qset_self _ _ _))))))) rfl ?_
  refine v_iload_n i_M_remake_5 rfl ?_
  refine v_iald B (by first | assumption | exact qset_self _ _ _ | (rw [qset_ne _ _ (by omega)]; first | assumption | exact qset_self _ _ _ | (rw [qset_ne _ _ (by omega)]; first | assumption | exact qset_self _ _ _ | (rw [qset_ne _ _ (by omega)]; first | assumption | exact qset_self _ _ _ | (rw [qset_ne _ _ (by omega)]; first | assumption | exact qset_self _ _ _ | (rw [qset_ne _ _ (by omega)]; first | assumption | exact qset_self _ _ _ | (rw [qset_ne _ _ (by omega)]; first | assumption | exact qset_self _ _ _))))))) rfl (by omega) (by omega) i_M_remake_6 ?_
  refine v_iload_n i_M_remake_7 rfl ?_
  rw [e1]
  refine v_inv B i_M_remake_8 kn_m_M_newPage (c_M_newPage B h hT (by omega) (pg p).1 v o1 hv) h0 rfl rfl (Nat.le_of_ble_eq_true rfl) ⟨by decide, by decide, by first | decide | (simp; omega), by first | decide | (simp; omega)⟩ rfl (fun r X' hq => ?_) (fun _ _ h => False.elim h)
  obtain ⟨rfl, s1, I1, h1, hT1, hsn1, hk1, hs1, hf1⟩ := hq
  have hRw1 := hRw.keep hk1 hs1 (by decide)
  generalize X' = X1 at h1 hf1 ⊢
  have go : qV l s0 C m_M_remake rm_M_remake Qp (fun _ _ => False) 0 0 X1 37 [(0, .ref m), (1, .int (nI p)), (2, .int (nI v)), (3, .int z), (4, .int g1), (5, .int g2), (6, .int (nI made))] [.int (nI (thalf R.length))] := by
    refine v_istore i_M_remake_37 (by decide) rfl ?_
    refine v_iconst (v := 0) i_M_remake_39 rfl ?_
    refine v_istore i_M_remake_40 (by decide) rfl ?_
    refine v_loc [(0, .ref m), (1, .int (nI p)), (2, .int (nI v)), (3, .int z), (4, .int g1), (5, .int g2), (6, .int (nI made)), (7, .int (nI (thalf R.length))), (8, .int (nI 0))] rfl ?_
    refine c_M_remake_a (X := X1) (I := I1) (J := J) (pg := pg) (dt := va_up dt made true) (ro := ro) (rb := rb) (lat := lat) (made := made + 1) B (R := R) hRw.2.1 (thalf R.length) made p (pg p).1 v hth (by omega) hv z g1 g2 ⟨by decide, by decide⟩ ?_ (by omega) hRw1 (thalf R.length) 0 X1 I1 J (by omega) (Nat.zero_le _) h1 ?_ (mSn.rf _ _) (mK.rf _ _ _) (qSame.rf _ _ _)
    rotate_left
    · exact hT1
    intro X2 I2 J2 h2 hT2 hsn2 hk2 hf2
    have hRw2 := hRw1.keep (S := []) hk2 (sK.rf _ _) (by decide)
    obtain ⟨b0, -⟩ := id h2
    obtain ⟨r1, -⟩ := id hRw2
    refine v_iconst (v := (-1)) i_M_remake_76 rfl ?_
    refine v_istore i_M_remake_77 (by decide) rfl ?_
    refine v_iload i_M_remake_79 rfl ?_
    refine v_aload_n i_M_remake_81 rfl ?_
    refine v_get B i_M_remake_82 (by first | assumption | exact qset_self _ _ _ | (rw [qset_ne _ _ (by omega)]; first | assumption | exact qset_self _ _ _ | (rw [qset_ne _ _ (by omega)]; first | assumption | exact qset_self _ _ _ | (rw [qset_ne _ _ (by omega)]; first | assumption | exact qset_self _ _ _ | (rw [qset_ne _ _ (by omega)]; first | assumption | exact qset_self _ _ _ | (rw [qset_ne _ _ (by omega)]; first | assumption | exact qset_self _ _ _ | (rw [qset_ne _ _ (by omega)]; first | assumption | exact qset_self _ _ _))))))) rfl ?_
    rw [r1]
    refine v_icmp_ge (tgt := 141) i_M_remake_85 rfl (fun q85 => ?_) (fun q85 => ?_)
    · have hnl : ¬ thalf R.length < R.length := Nat.not_lt.mpr ((nI_leI (by omega) (by omega)).mp q85)
      have KK := K X2 s1 I2 J2 h2 (by rw [tmkP, tmkN, if_neg hnl, if_neg hnl]; exact hT2.dts (mdt_1 made dt)) hRw2 (hsn1.trans hsn2) ((hk1.mono (by decide)).trans (hk2.mono (by decide))) hs1 (hf1.trans hf2)
      rw [mb8, if_neg hnl] at KK
      exact v_loc [(0, .ref m), (1, .int (nI p)), (2, .int (nI v)), (3, .int z), (4, .int g1), (5, .int g2), (6, .int (nI made)), (7, .int (nI (thalf R.length))), (8, .int (-1))] rfl KK
    have hlt : thalf R.length < R.length := by
      have : ¬ R.length ≤ thalf R.length := fun q => q85 (nI_le q (by omega))
      omega
    obtain ⟨u1, u2, u3, u4, u5, u6⟩ := id hT2
    have b1 : X2.1 (m + 1) = some (.inl (0, 512, .inl (I2 1))) := h2.2 1 (by decide) (by decide)
    have e2 : I2 1 p = nI (pg p).1 := by
      have := (u4 p (by omega)).2.1
      rw [va_up_ne _ _ (by omega)] at this
      exact this
    refine v_aload_n i_M_remake_88 rfl ?_
    refine v_aload_n i_M_remake_89 rfl ?_
    refine v_get B i_M_remake_90 (by first | assumption | exact qset_self _ _ _ | (rw [qset_ne _ _ (by omega)]; first | assumption | exact qset_self _ _ _ | (rw [qset_ne _ _ (by omega)]; first | assumption | exact qset_self _ _ _ | (rw [qset_ne _ _ (by omega)]; first | assumption | exact qset_self _ _ _ | (rw [qset_ne _ _ (by omega)]; first | assumption | exact qset_self _ _ _ | (rw [qset_ne _ _ (by omega)]; first | assumption | exact qset_self _ _ _ | (rw [qset_ne _ _ (by omega)]; first | assumption | exact qset_self _ _ _))))))) rfl ?_
    refine v_iload_n i_M_remake_93 rfl ?_
    refine v_iald B (by first | assumption | exact qset_self _ _ _ | (rw [qset_ne _ _ (by omega)]; first | assumption | exact qset_self _ _ _ | (rw [qset_ne _ _ (by omega)]; first | assumption | exact qset_self _ _ _ | (rw [qset_ne _ _ (by omega)]; first | assumption | exact qset_self _ _ _ | (rw [qset_ne _ _ (by omega)]; first | assumption | exact qset_self _ _ _ | (rw [qset_ne _ _ (by omega)]; first | assumption | exact qset_self _ _ _ | (rw [qset_ne _ _ (by omega)]; first | assumption | exact qset_self _ _ _))))))) rfl (by omega) (by omega) i_M_remake_94 ?_
    refine v_iload_n i_M_remake_95 rfl ?_
    rw [e2]
    refine v_inv B i_M_remake_96 kn_m_M_newPage (c_M_newPage B h2 hT2 (by omega) (pg p).1 v o1 hv) b0 rfl rfl (Nat.le_of_ble_eq_true rfl) ⟨by decide, by decide, by first | decide | (simp; omega), by first | decide | (simp; omega)⟩ rfl (fun r X' hq => ?_) (fun _ _ h => False.elim h)
    obtain ⟨rfl, s3, I3, h3, hT3, hsn3, hk3, hs3, hf3⟩ := hq
    have hRw3 := hRw2.keep hk3 hs3 (by decide)
    generalize X' = X3 at h3 hf3 ⊢
    refine v_istore i_M_remake_99 (by decide) rfl ?_
    refine v_iload i_M_remake_101 rfl ?_
    refine v_istore i_M_remake_103 (by decide) rfl ?_
    refine v_loc [(0, .ref m), (1, .int (nI p)), (2, .int (nI v)), (3, .int z), (4, .int g1), (5, .int g2), (6, .int (nI made)), (7, .int (nI (thalf R.length))), (8, .int (nI (made + 1))), (9, .int (nI (thalf R.length)))] rfl ?_
    refine c_M_remake_b (X := X3) (I := I3) (J := J2) (pg := va_up pg made ((pg p).1, v, none, gtk R v 0 (thalf R.length))) (dt := va_up (va_up dt made true) (made + 1) true) (ro := ro) (rb := rb) (lat := lat) (made := made + 1 + 1) B (R := R) hRw.2.1 (thalf R.length) (made + 1) p (pg p).1 v hth (by omega) hv z g1 g2 (nI made) ⟨by decide, by decide⟩ ?_ (by omega) hRw3 (R.length - thalf R.length) (thalf R.length) X3 I3 J2 (by omega) (Nat.le_refl _) h3 ?_ (mSn.rf _ _) (mK.rf _ _ _) (qSame.rf _ _ _)
    rotate_left
    · rw [Nat.sub_self]; exact hT3
    intro X4 I4 J4 h4 hT4 hsn4 hk4 hf4
    have KK := K X4 s3 I4 J4 h4 (by
      rw [tmkP, tmkN, if_pos hlt, if_pos hlt]
      refine MT.dts hT4 (fun q hq => ?_)
      unfold mdt va_up
      by_cases hq1 : q = made + 1
      · simp [hq1]
      · by_cases hqm : q = made
        · simp [hqm]
        · rw [if_neg hq1, if_neg hqm, if_neg (by omega)]) (hRw3.keep (S := []) hk4 (sK.rf _ _) (by decide)) (((hsn1.trans hsn2).trans hsn3).trans hsn4) ((((hk1.mono (by decide)).trans (hk2.mono (by decide))).trans (hk3.mono (by decide))).trans (hk4.mono (by decide))) (hs1.trans hs3) (((hf1.trans hf2).trans hf3).trans hf4)
    rw [mb8, if_pos hlt] at KK
    exact v_loc [(0, .ref m), (1, .int (nI p)), (2, .int (nI v)), (3, .int z), (4, .int g1), (5, .int g2), (6, .int (nI made)), (7, .int (nI (thalf R.length))), (8, .int (nI (made + 1)))] rfl KK
  obtain ⟨b0, -⟩ := id h1
  obtain ⟨r1, -⟩ := id hRw1
  refine v_istore i_M_remake_11 (by decide) rfl ?_
  refine v_aload_n i_M_remake_13 rfl ?_
  refine v_get B i_M_remake_14 (by first | assumption | exact qset_self _ _ _ | (rw [qset_ne _ _ (by omega)]; first | assumption | exact qset_self _ _ _ | (rw [qset_ne _ _ (by omega)]; first | assumption | exact qset_self _ _ _ | (rw [qset_ne _ _ (by omega)]; first | assumption | exact qset_self _ _ _ | (rw [qset_ne _ _ (by omega)]; first | assumption | exact qset_self _ _ _ | (rw [qset_ne _ _ (by omega)]; first | assumption | exact qset_self _ _ _ | (rw [qset_ne _ _ (by omega)]; first | assumption | exact qset_self _ _ _))))))) rfl ?_
  refine v_bipush (v := 10) i_M_remake_17 rfl ?_
  rw [r1]
  refine v_icmp_le (tgt := 33) i_M_remake_19 rfl (fun q19 => ?_) (fun q19 => ?_)
  · refine v_aload_n i_M_remake_33 rfl ?_
    refine v_get B i_M_remake_34 (by first | assumption | exact qset_self _ _ _ | (rw [qset_ne _ _ (by omega)]; first | assumption | exact qset_self _ _ _ | (rw [qset_ne _ _ (by omega)]; first | assumption | exact qset_self _ _ _ | (rw [qset_ne _ _ (by omega)]; first | assumption | exact qset_self _ _ _ | (rw [qset_ne _ _ (by omega)]; first | assumption | exact qset_self _ _ _ | (rw [qset_ne _ _ (by omega)]; first | assumption | exact qset_self _ _ _ | (rw [qset_ne _ _ (by omega)]; first | assumption | exact qset_self _ _ _))))))) rfl ?_
    rw [r1]
    have : ¬ 10 < R.length := Nat.not_lt.mpr ((nI_leI (b := 10) (by omega) (by omega)).mp q19)
    rw [show thalf R.length = R.length by unfold thalf; rw [if_neg this]] at go
    exact v_loc [(0, .ref m), (1, .int (nI p)), (2, .int (nI v)), (3, .int z), (4, .int g1), (5, .int g2), (6, .int (nI made))] rfl go
  · refine v_aload_n i_M_remake_22 rfl ?_
    refine v_get B i_M_remake_23 (by first | assumption | exact qset_self _ _ _ | (rw [qset_ne _ _ (by omega)]; first | assumption | exact qset_self _ _ _ | (rw [qset_ne _ _ (by omega)]; first | assumption | exact qset_self _ _ _ | (rw [qset_ne _ _ (by omega)]; first | assumption | exact qset_self _ _ _ | (rw [qset_ne _ _ (by omega)]; first | assumption | exact qset_self _ _ _ | (rw [qset_ne _ _ (by omega)]; first | assumption | exact qset_self _ _ _ | (rw [qset_ne _ _ (by omega)]; first | assumption | exact qset_self _ _ _))))))) rfl ?_
    refine v_iconst (v := 1) i_M_remake_26 rfl ?_
    refine v_iadd i_M_remake_27 ?_
    refine v_iconst (v := 2) i_M_remake_28 rfl ?_
    rw [r1]
    have h10 : 10 < R.length := by
      have : ¬ R.length ≤ 10 := fun q => q19 (nI_le (b := 10) q (by decide))
      omega
    rw [nI_1, show (2 : Int32) = nI 2 from rfl]
    refine v_idiv i_M_remake_29 (by decide) ?_
    rw [pk_div (by omega) (by omega) (by omega)]
    refine v_goto (tgt := 37) i_M_remake_30 rfl ?_
    rw [show thalf R.length = (R.length + 1) / 2 by unfold thalf; rw [if_pos h10]] at go
    exact v_loc [(0, .ref m), (1, .int (nI p)), (2, .int (nI v)), (3, .int z), (4, .int g1), (5, .int g2), (6, .int (nI made))] rfl go
end MR
