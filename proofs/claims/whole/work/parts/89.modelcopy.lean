/-! the reference: pages copied -/
def cpI {α : Type} (f : Nat → α) (T S n : Nat) : Nat → α := fun x => if T ≤ x ∧ x < T + n then f (x - T + S) else f x
theorem cpI_0 {α : Type} (f : Nat → α) (T S : Nat) : cpI f T S 0 = f := by
  funext x; unfold cpI; rw [if_neg (by omega)]
theorem cpI_in {α : Type} (f : Nat → α) {T S n p : Nat} (h : p < n) : cpI f T S n (T + p) = f (S + p) := by
  unfold cpI; rw [if_pos (by omega), show T + p - T + S = S + p by omega]
theorem cpI_out {α : Type} (f : Nat → α) {T S n x : Nat} (h : x < T ∨ T + n ≤ x) : cpI f T S n x = f x := by
  unfold cpI; rw [if_neg (by omega)]
theorem cpI_upd (f : Nat → Int32) (T S n : Nat) : upd (cpI f T S n) (T + n) (f (S + n)) = cpI f T S (n + 1) := by
  funext x
  unfold upd cpI
  by_cases h : x = T + n
  · rw [if_pos h, if_pos (by omega), h, show T + n - T + S = S + n by omega]
  · rw [if_neg h]
    by_cases h2 : T ≤ x ∧ x < T + n
    · rw [if_pos h2, if_pos (by omega)]
    · rw [if_neg h2, if_neg (by omega)]
theorem cpI_updL (f : Nat → Int64) (T S n : Nat) : vp_updL (cpI f T S n) (T + n) (f (S + n)) = cpI f T S (n + 1) := by
  funext x
  unfold vp_updL cpI
  by_cases h : x = T + n
  · rw [if_pos h, if_pos (by omega), h, show T + n - T + S = S + n by omega]
  · rw [if_neg h]
    by_cases h2 : T ≤ x ∧ x < T + n
    · rw [if_pos h2, if_pos (by omega)]
    · rw [if_neg h2, if_neg (by omega)]
/-- the arrays when n pages have been copied, and the heads of h more, and e entries more -/
def mCp (I : Nat → Nat → Int32) (J : Nat → Nat → Int64) (I' : Nat → Nat → Int32) (J' : Nat → Nat → Int64) (T S h e : Nat) : Prop :=
  (I' 1 = cpI (I 1) T S h ∧ I' 2 = cpI (I 2) T S h ∧ I' 3 = cpI (I 3) T S h ∧ I' 4 = cpI (I 4) T S h) ∧ I' 6 = cpI (I 6) (16 * T) (16 * S) e ∧ I' 7 = cpI (I 7) (16 * T) (16 * S) e ∧ I' 8 = cpI (I 8) (16 * T) (16 * S) e ∧ J' 9 = cpI (J 9) (16 * T) (16 * S) e
theorem mCp.page {I I' : Nat → Nat → Int32} {J J' : Nat → Nat → Int64} {T S n : Nat} (h : mCp I J I' J' T S n (16 * n)) {p : Nat} {P : Pg} (hp : p < n) (hP : mPg I J (S + p) P) : mPg I' J' (T + p) P := by
  obtain ⟨⟨h1, h2, h3, h4⟩, h6, h7, h8, h9⟩ := h
  obtain ⟨g0, g1, g2, g3, g4, g5⟩ := hP
  have o4 := g0.2.2.2.1
  refine ⟨g0, by rw [h1, cpI_in _ hp]; exact g1, by rw [h2, cpI_in _ hp]; exact g2, by rw [h3, cpI_in _ hp]; exact g3, by rw [h4, cpI_in _ hp]; exact g4, fun i hi => ?_⟩
  have e : 16 * (T + p) + i = 16 * T + (16 * p + i) := by omega
  have e2 : 16 * (S + p) + i = 16 * S + (16 * p + i) := by omega
  have := g5 i hi
  rw [e2] at this
  rw [h6, h7, h8, h9, e, cpI_in _ (by omega), cpI_in _ (by omega), cpI_in _ (by omega), cpI_in _ (by omega)]
  exact this
theorem mCp.other {I I' : Nat → Nat → Int32} {J J' : Nat → Nat → Int64} {T S n : Nat} (h : mCp I J I' J' T S n (16 * n)) {q : Nat} {Q : Pg} (hq : q < T ∨ T + n ≤ q) (hQ : mPg I J q Q) : mPg I' J' q Q := by
  obtain ⟨⟨h1, h2, h3, h4⟩, h6, h7, h8, h9⟩ := h
  refine hQ.off (by rw [h1, cpI_out _ hq]) (by rw [h2, cpI_out _ hq]) (by rw [h3, cpI_out _ hq]) (by rw [h4, cpI_out _ hq]) (fun i hi => ?_)
  rw [h6, h7, h8, h9, cpI_out _ (by omega), cpI_out _ (by omega), cpI_out _ (by omega), cpI_out _ (by omega)]
  exact ⟨rfl, rfl, rfl, rfl⟩
section CP
variable {X X' : qX} {m : Nat} {s : Nat → Int32} {I : Nat → Nat → Int32} {J : Nat → Nat → Int64}
variable {l : Launch} {s0 : State} {C : qC}
theorem c_M_copy_e (B : qB l s0 C) {T S n p : Nat} (hTS : T + n ≤ S ∨ S + n ≤ T) (hT : T + n ≤ 512) (hS : S + n ≤ 512) (hp : p < n) {Qp : Option Value → qX → Prop}
    (K : ∀ (X2 : qX) (I2 : Nat → Nat → Int32) (J2 : Nat → Nat → Int64), MAt X2 m s I2 J2 → mCp I J I2 J2 T S (p + 1) (16 * (p + 1)) → mK [1, 2, 3, 4, 6, 7, 8, 9] I J I2 J2 → qSame X X2 m (m + 30) → qV l s0 C m_M_copyPages rm_M_copyPages Qp (fun _ _ => False) 0 0 X2 177 [(0, .ref m), (1, .int (nI T)), (2, .int (nI S)), (3, .int (nI n)), (4, .int (nI p))] []) :
    ∀ (j i : Nat) (L7 : List (Nat × Value)) (X' : qX) (I' : Nat → Nat → Int32) (J' : Nat → Nat → Int64), i + j = 16 → MAt X' m s I' J' → mCp I J I' J' T S (p + 1) (16 * p + i) → mK [1, 2, 3, 4, 6, 7, 8, 9] I J I' J' → qSame X X' m (m + 30) →
      qV l s0 C m_M_copyPages rm_M_copyPages Qp (fun _ _ => False) 0 0 X' 84 [(0, .ref m), (1, .int (nI T)), (2, .int (nI S)), (3, .int (nI n)), (4, .int (nI p)), (5, .int (nI i))] [] := by
  intro j
  induction j with
  | zero =>
    intro i _ X' I' J' hj h hc hk hf
    refine v_iload i_M_copyPages_84 rfl ?_
    refine v_bipush (v := 16) i_M_copyPages_86 rfl ?_
    refine v_icmp_ge (tgt := 177) i_M_copyPages_88 rfl (fun _ => ?_) (fun q => absurd (nI_le (a := 16) (by omega) (by omega)) q)
    have e : 16 * p + i = 16 * (p + 1) := by omega
    rw [e] at hc
    exact v_loc [(0, .ref m), (1, .int (nI T)), (2, .int (nI S)), (3, .int (nI n)), (4, .int (nI p))] rfl (K X' I' J' h hc hk hf)
  | succ j ih =>
    intro i _ X' I' J' hj h hc hk hf
    obtain ⟨c1, c6, c7, c8, c9⟩ := id hc
    obtain ⟨h0, a1, a2, a3, a4, a5, a6, a7, a8, a9, a10, a11, a12, a13, a14, a15, a16, a17, a18, a19, a20, a21, a22, a23, a24, a25, a26, a27, a28, a29⟩ := h.all
    refine v_iload i_M_copyPages_84 rfl ?_
    refine v_bipush (v := 16) i_M_copyPages_86 rfl ?_
    refine v_icmp_ge (tgt := 177) i_M_copyPages_88 rfl (fun q => absurd q (nI_ge (b := 16) (by omega) (by omega))) (fun _ => ?_)
    refine v_bipush (v := 16) i_M_copyPages_91 rfl ?_
    refine v_iload_n i_M_copyPages_93 rfl ?_
    refine v_iload i_M_copyPages_94 rfl ?_
    refine v_iadd i_M_copyPages_96 ?_
    refine v_imul i_M_copyPages_97 ?_
    refine v_iload i_M_copyPages_98 rfl ?_
    refine v_iadd i_M_copyPages_100 ?_
    rw [nI_add, n16, nI_add]
    refine v_istore i_M_copyPages_101 (by decide) rfl ?_
    refine v_bipush (v := 16) i_M_copyPages_103 rfl ?_
    refine v_iload_n i_M_copyPages_105 rfl ?_
    refine v_iload i_M_copyPages_106 rfl ?_
    refine v_iadd i_M_copyPages_108 ?_
    refine v_imul i_M_copyPages_109 ?_
    refine v_iload i_M_copyPages_110 rfl ?_
    refine v_iadd i_M_copyPages_112 ?_
    rw [nI_add, n16, nI_add]
    have eT : 16 * (T + p) + i = 16 * T + (16 * p + i) := by omega
    have eS : 16 * (S + p) + i = 16 * S + (16 * p + i) := by omega
    refine v_istore i_M_copyPages_113 (by decide) rfl ?_
    refine v_aload_n i_M_copyPages_115 rfl ?_
    refine v_get B i_M_copyPages_116 (by first | assumption | exact qset_self _ _ _ | (rw [qset_ne _ _ (by omega)]; first | assumption | exact qset_self _ _ _ | (rw [qset_ne _ _ (by omega)]; first | assumption | exact qset_self _ _ _ | (rw [qset_ne _ _ (by omega)]; first | assumption | exact qset_self _ _ _ | (rw [qset_ne _ _ (by omega)]; first | assumption | exact qset_self _ _ _ | (rw [qset_ne _ _ (by omega)]; first | assumption | exact qset_self _ _ _ | (rw [qset_ne _ _ (by omega)]; first | assumption | exact qset_self _ _ _))))))) rfl ?_
    refine v_iload i_M_copyPages_119 rfl ?_
    refine v_aload_n i_M_copyPages_121 rfl ?_
    refine v_get B i_M_copyPages_122 (by first | assumption | exact qset_self _ _ _ | (rw [qset_ne _ _ (by omega)]; first | assumption | exact qset_self _ _ _ | (rw [qset_ne _ _ (by omega)]; first | assumption | exact qset_self _ _ _ | (rw [qset_ne _ _ (by omega)]; first | assumption | exact qset_self _ _ _ | (rw [qset_ne _ _ (by omega)]; first | assumption | exact qset_self _ _ _ | (rw [qset_ne _ _ (by omega)]; first | assumption | exact qset_self _ _ _ | (rw [qset_ne _ _ (by omega)]; first | assumption | exact qset_self _ _ _))))))) rfl ?_
    refine v_iload i_M_copyPages_125 rfl ?_
    refine v_iald B (by first | assumption | exact qset_self _ _ _ | (rw [qset_ne _ _ (by omega)]; first | assumption | exact qset_self _ _ _ | (rw [qset_ne _ _ (by omega)]; first | assumption | exact qset_self _ _ _ | (rw [qset_ne _ _ (by omega)]; first | assumption | exact qset_self _ _ _ | (rw [qset_ne _ _ (by omega)]; first | assumption | exact qset_self _ _ _ | (rw [qset_ne _ _ (by omega)]; first | assumption | exact qset_self _ _ _ | (rw [qset_ne _ _ (by omega)]; first | assumption | exact qset_self _ _ _))))))) rfl (by omega) (by omega) i_M_copyPages_127 ?_
    have r6 : I' 6 (16 * (S + p) + i) = I 6 (16 * S + (16 * p + i)) := by rw [c6, eS, cpI_out _ (by omega)]
    rw [r6]
    refine v_mist B h (a := 6) (N := 8192) (j := 16 * (T + p) + i) rfl rfl (by decide) (by decide) (rfl) (by omega) (by omega) i_M_copyPages_128 (fun X2 h2 f2 => ?_)
    obtain ⟨b0, b1, b2, b3, b4, b5, b6, b7, b8, b9, -⟩ := h2.all
    refine v_aload_n i_M_copyPages_129 rfl ?_
    refine v_get B i_M_copyPages_130 (by first | assumption | exact qset_self _ _ _ | (rw [qset_ne _ _ (by omega)]; first | assumption | exact qset_self _ _ _ | (rw [qset_ne _ _ (by omega)]; first | assumption | exact qset_self _ _ _ | (rw [qset_ne _ _ (by omega)]; first | assumption | exact qset_self _ _ _ | (rw [qset_ne _ _ (by omega)]; first | assumption | exact qset_self _ _ _ | (rw [qset_ne _ _ (by omega)]; first | assumption | exact qset_self _ _ _ | (rw [qset_ne _ _ (by omega)]; first | assumption | exact qset_self _ _ _))))))) rfl ?_
    refine v_iload i_M_copyPages_133 rfl ?_
    refine v_aload_n i_M_copyPages_135 rfl ?_
    refine v_get B i_M_copyPages_136 (by first | assumption | exact qset_self _ _ _ | (rw [qset_ne _ _ (by omega)]; first | assumption | exact qset_self _ _ _ | (rw [qset_ne _ _ (by omega)]; first | assumption | exact qset_self _ _ _ | (rw [qset_ne _ _ (by omega)]; first | assumption | exact qset_self _ _ _ | (rw [qset_ne _ _ (by omega)]; first | assumption | exact qset_self _ _ _ | (rw [qset_ne _ _ (by omega)]; first | assumption | exact qset_self _ _ _ | (rw [qset_ne _ _ (by omega)]; first | assumption | exact qset_self _ _ _))))))) rfl ?_
    refine v_iload i_M_copyPages_139 rfl ?_
    refine v_iald B (by first | assumption | exact qset_self _ _ _ | (rw [qset_ne _ _ (by omega)]; first | assumption | exact qset_self _ _ _ | (rw [qset_ne _ _ (by omega)]; first | assumption | exact qset_self _ _ _ | (rw [qset_ne _ _ (by omega)]; first | assumption | exact qset_self _ _ _ | (rw [qset_ne _ _ (by omega)]; first | assumption | exact qset_self _ _ _ | (rw [qset_ne _ _ (by omega)]; first | assumption | exact qset_self _ _ _ | (rw [qset_ne _ _ (by omega)]; first | assumption | exact qset_self _ _ _))))))) rfl (by omega) (by omega) i_M_copyPages_141 ?_
    have r7 : mIu I' 6 (16 * (T + p) + i) (I 6 (16 * S + (16 * p + i))) 7 (16 * (S + p) + i) = I 7 (16 * S + (16 * p + i)) := by rw [mIu_ne (by decide), c7, eS, cpI_out _ (by omega)]
    rw [r7]
    refine v_mist B h2 (a := 7) (N := 8192) (j := 16 * (T + p) + i) rfl rfl (by decide) (by decide) (rfl) (by omega) (by omega) i_M_copyPages_142 (fun X3 h3 f3 => ?_)
    obtain ⟨d0, d1, d2, d3, d4, d5, d6, d7, d8, d9, -⟩ := h3.all
    refine v_aload_n i_M_copyPages_143 rfl ?_
    refine v_get B i_M_copyPages_144 (by first | assumption | exact qset_self _ _ _ | (rw [qset_ne _ _ (by omega)]; first | assumption | exact qset_self _ _ _ | (rw [qset_ne _ _ (by omega)]; first | assumption | exact qset_self _ _ _ | (rw [qset_ne _ _ (by omega)]; first | assumption | exact qset_self _ _ _ | (rw [qset_ne _ _ (by omega)]; first | assumption | exact qset_self _ _ _ | (rw [qset_ne _ _ (by omega)]; first | assumption | exact qset_self _ _ _ | (rw [qset_ne _ _ (by omega)]; first | assumption | exact qset_self _ _ _))))))) rfl ?_
    refine v_iload i_M_copyPages_147 rfl ?_
    refine v_aload_n i_M_copyPages_149 rfl ?_
    refine v_get B i_M_copyPages_150 (by first | assumption | exact qset_self _ _ _ | (rw [qset_ne _ _ (by omega)]; first | assumption | exact qset_self _ _ _ | (rw [qset_ne _ _ (by omega)]; first | assumption | exact qset_self _ _ _ | (rw [qset_ne _ _ (by omega)]; first | assumption | exact qset_self _ _ _ | (rw [qset_ne _ _ (by omega)]; first | assumption | exact qset_self _ _ _ | (rw [qset_ne _ _ (by omega)]; first | assumption | exact qset_self _ _ _ | (rw [qset_ne _ _ (by omega)]; first | assumption | exact qset_self _ _ _))))))) rfl ?_
    refine v_iload i_M_copyPages_153 rfl ?_
    refine v_iald B (by first | assumption | exact qset_self _ _ _ | (rw [qset_ne _ _ (by omega)]; first | assumption | exact qset_self _ _ _ | (rw [qset_ne _ _ (by omega)]; first | assumption | exact qset_self _ _ _ | (rw [qset_ne _ _ (by omega)]; first | assumption | exact qset_self _ _ _ | (rw [qset_ne _ _ (by omega)]; first | assumption | exact qset_self _ _ _ | (rw [qset_ne _ _ (by omega)]; first | assumption | exact qset_self _ _ _ | (rw [qset_ne _ _ (by omega)]; first | assumption | exact qset_self _ _ _))))))) rfl (by omega) (by omega) i_M_copyPages_155 ?_
    have r8 : mIu (mIu I' 6 (16 * (T + p) + i) (I 6 (16 * S + (16 * p + i)))) 7 (16 * (T + p) + i) (I 7 (16 * S + (16 * p + i))) 8 (16 * (S + p) + i) = I 8 (16 * S + (16 * p + i)) := by rw [mIu_ne (by decide), mIu_ne (by decide), c8, eS, cpI_out _ (by omega)]
    rw [r8]
    refine v_mist B h3 (a := 8) (N := 8192) (j := 16 * (T + p) + i) rfl rfl (by decide) (by decide) (rfl) (by omega) (by omega) i_M_copyPages_156 (fun X4 h4 f4 => ?_)
    obtain ⟨e0, e1, e2, e3, e4, e5, e6, e7, e8, e9, -⟩ := h4.all
    refine v_aload_n i_M_copyPages_157 rfl ?_
    refine v_get B i_M_copyPages_158 (by first | assumption | exact qset_self _ _ _ | (rw [qset_ne _ _ (by omega)]; first | assumption | exact qset_self _ _ _ | (rw [qset_ne _ _ (by omega)]; first | assumption | exact qset_self _ _ _ | (rw [qset_ne _ _ (by omega)]; first | assumption | exact qset_self _ _ _ | (rw [qset_ne _ _ (by omega)]; first | assumption | exact qset_self _ _ _ | (rw [qset_ne _ _ (by omega)]; first | assumption | exact qset_self _ _ _ | (rw [qset_ne _ _ (by omega)]; first | assumption | exact qset_self _ _ _))))))) rfl ?_
    refine v_iload i_M_copyPages_161 rfl ?_
    refine v_aload_n i_M_copyPages_163 rfl ?_
    refine v_get B i_M_copyPages_164 (by first | assumption | exact qset_self _ _ _ | (rw [qset_ne _ _ (by omega)]; first | assumption | exact qset_self _ _ _ | (rw [qset_ne _ _ (by omega)]; first | assumption | exact qset_self _ _ _ | (rw [qset_ne _ _ (by omega)]; first | assumption | exact qset_self _ _ _ | (rw [qset_ne _ _ (by omega)]; first | assumption | exact qset_self _ _ _ | (rw [qset_ne _ _ (by omega)]; first | assumption | exact qset_self _ _ _ | (rw [qset_ne _ _ (by omega)]; first | assumption | exact qset_self _ _ _))))))) rfl ?_
    refine v_iload i_M_copyPages_167 rfl ?_
    refine v_lald B (by first | assumption | exact qset_self _ _ _ | (rw [qset_ne _ _ (by omega)]; first | assumption | exact qset_self _ _ _ | (rw [qset_ne _ _ (by omega)]; first | assumption | exact qset_self _ _ _ | (rw [qset_ne _ _ (by omega)]; first | assumption | exact qset_self _ _ _ | (rw [qset_ne _ _ (by omega)]; first | assumption | exact qset_self _ _ _ | (rw [qset_ne _ _ (by omega)]; first | assumption | exact qset_self _ _ _ | (rw [qset_ne _ _ (by omega)]; first | assumption | exact qset_self _ _ _))))))) rfl (by omega) (by omega) i_M_copyPages_169 ?_
    have r9 : J' 9 (16 * (S + p) + i) = J 9 (16 * S + (16 * p + i)) := by rw [c9, eS, cpI_out _ (by omega)]
    rw [r9]
    refine v_mlst B h4 (a := 9) (N := 8192) (j := 16 * (T + p) + i) rfl rfl (by decide) (by decide) (rfl) (by omega) (by omega) i_M_copyPages_170 (fun X5 h5 f5 => ?_)
    refine v_iinc (v := nI (i + 1)) i_M_copyPages_171 rfl (nI_1 _) (by decide) rfl ?_
    refine v_goto (tgt := 84) i_M_copyPages_174 rfl ?_
    refine v_loc [(0, .ref m), (1, .int (nI T)), (2, .int (nI S)), (3, .int (nI n)), (4, .int (nI p)), (5, .int (nI (i + 1)))] rfl ?_
    refine ih (i + 1) [] X5 _ _ (by omega) h5 ?_ ((((hk.int (by decide)).int (by decide)).int (by decide)).long (by decide)) ((((hf.trans f2).trans f3).trans f4).trans f5)
    refine ⟨?_, ?_, ?_, ?_, ?_⟩
    · rw [mIu_ne (by decide), mIu_ne (by decide), mIu_ne (by decide), mIu_ne (by decide), mIu_ne (by decide), mIu_ne (by decide), mIu_ne (by decide), mIu_ne (by decide), mIu_ne (by decide), mIu_ne (by decide), mIu_ne (by decide), mIu_ne (by decide)]
      exact c1
    · rw [mIu_ne (by decide), mIu_ne (by decide), mIu_self, c6, eT, ← Nat.add_assoc (16 * p)]; exact cpI_upd _ _ _ _
    · rw [mIu_ne (by decide), mIu_self, mIu_ne (by decide), c7, eT, ← Nat.add_assoc (16 * p)]; exact cpI_upd _ _ _ _
    · rw [mIu_self, mIu_ne (by decide), mIu_ne (by decide), c8, eT, ← Nat.add_assoc (16 * p)]; exact cpI_upd _ _ _ _
    · rw [mJu_self, c9, eT, ← Nat.add_assoc (16 * p)]; exact cpI_updL _ _ _ _
theorem c_M_copy_p (B : qB l s0 C) {T S n : Nat} (hTS : T + n ≤ S ∨ S + n ≤ T) (hT : T + n ≤ 512) (hS : S + n ≤ 512) {Qp : Option Value → qX → Prop}
    (K : ∀ (X2 : qX) (I2 : Nat → Nat → Int32) (J2 : Nat → Nat → Int64), MAt X2 m s I2 J2 → mCp I J I2 J2 T S n (16 * n) → mK [1, 2, 3, 4, 6, 7, 8, 9] I J I2 J2 → qSame X X2 m (m + 30) → qV l s0 C m_M_copyPages rm_M_copyPages Qp (fun _ _ => False) 0 0 X2 183 [(0, .ref m)] []) :
    ∀ (j p : Nat) (X' : qX) (I' : Nat → Nat → Int32) (J' : Nat → Nat → Int64), p + j = n → MAt X' m s I' J' → mCp I J I' J' T S p (16 * p) → mK [1, 2, 3, 4, 6, 7, 8, 9] I J I' J' → qSame X X' m (m + 30) →
      qV l s0 C m_M_copyPages rm_M_copyPages Qp (fun _ _ => False) 0 0 X' 3 [(0, .ref m), (1, .int (nI T)), (2, .int (nI S)), (3, .int (nI n)), (4, .int (nI p))] [] := by
  intro j
  induction j with
  | zero =>
    intro p X' I' J' hj h hc hk hf
    refine v_iload i_M_copyPages_3 rfl ?_
    refine v_iload_n i_M_copyPages_5 rfl ?_
    refine v_icmp_ge (tgt := 183) i_M_copyPages_6 rfl (fun _ => ?_) (fun q => absurd (nI_le (by omega) (by omega)) q)
    rw [show p = n by omega] at hc
    exact v_loc [(0, .ref m)] rfl (K X' I' J' h hc hk hf)
  | succ j ih =>
    intro p X' I' J' hj h hc hk hf
    obtain ⟨⟨c1, c2, c3, c4⟩, c6⟩ := id hc
    obtain ⟨h0, a1, a2, a3, a4, a5, a6, a7, a8, a9, a10, a11, a12, a13, a14, a15, a16, a17, a18, a19, a20, a21, a22, a23, a24, a25, a26, a27, a28, a29⟩ := h.all
    refine v_iload i_M_copyPages_3 rfl ?_
    refine v_iload_n i_M_copyPages_5 rfl ?_
    refine v_icmp_ge (tgt := 183) i_M_copyPages_6 rfl (fun q => absurd q (nI_ge (by omega) (by omega))) (fun _ => ?_)
    refine v_aload_n i_M_copyPages_9 rfl ?_
    refine v_get B i_M_copyPages_10 (by first | assumption | exact qset_self _ _ _ | (rw [qset_ne _ _ (by omega)]; first | assumption | exact qset_self _ _ _ | (rw [qset_ne _ _ (by omega)]; first | assumption | exact qset_self _ _ _ | (rw [qset_ne _ _ (by omega)]; first | assumption | exact qset_self _ _ _ | (rw [qset_ne _ _ (by omega)]; first | assumption | exact qset_self _ _ _ | (rw [qset_ne _ _ (by omega)]; first | assumption | exact qset_self _ _ _ | (rw [qset_ne _ _ (by omega)]; first | assumption | exact qset_self _ _ _))))))) rfl ?_
    refine v_iload_n i_M_copyPages_13 rfl ?_
    refine v_iload i_M_copyPages_14 rfl ?_
    refine v_iadd i_M_copyPages_16 ?_
    rw [nI_add]
    refine v_aload_n i_M_copyPages_17 rfl ?_
    refine v_get B i_M_copyPages_18 (by first | assumption | exact qset_self _ _ _ | (rw [qset_ne _ _ (by omega)]; first | assumption | exact qset_self _ _ _ | (rw [qset_ne _ _ (by omega)]; first | assumption | exact qset_self _ _ _ | (rw [qset_ne _ _ (by omega)]; first | assumption | exact qset_self _ _ _ | (rw [qset_ne _ _ (by omega)]; first | assumption | exact qset_self _ _ _ | (rw [qset_ne _ _ (by omega)]; first | assumption | exact qset_self _ _ _ | (rw [qset_ne _ _ (by omega)]; first | assumption | exact qset_self _ _ _))))))) rfl ?_
    refine v_iload_n i_M_copyPages_21 rfl ?_
    refine v_iload i_M_copyPages_22 rfl ?_
    refine v_iadd i_M_copyPages_24 ?_
    rw [nI_add]
    refine v_iald B (by first | assumption | exact qset_self _ _ _ | (rw [qset_ne _ _ (by omega)]; first | assumption | exact qset_self _ _ _ | (rw [qset_ne _ _ (by omega)]; first | assumption | exact qset_self _ _ _ | (rw [qset_ne _ _ (by omega)]; first | assumption | exact qset_self _ _ _ | (rw [qset_ne _ _ (by omega)]; first | assumption | exact qset_self _ _ _ | (rw [qset_ne _ _ (by omega)]; first | assumption | exact qset_self _ _ _ | (rw [qset_ne _ _ (by omega)]; first | assumption | exact qset_self _ _ _))))))) rfl (by omega) (by omega) i_M_copyPages_25 ?_
    have r1 : I' 1 (S + p) = I 1 (S + p) := by rw [c1, cpI_out _ (by omega)]
    rw [r1]
    refine v_mist B h (a := 1) (N := 512) (j := T + p) rfl rfl (by decide) (by decide) (rfl) (by omega) (by omega) i_M_copyPages_26 (fun X2 h2 f2 => ?_)
    obtain ⟨b0, b1, b2, b3, b4, -⟩ := h2.all
    refine v_aload_n i_M_copyPages_27 rfl ?_
    refine v_get B i_M_copyPages_28 (by first | assumption | exact qset_self _ _ _ | (rw [qset_ne _ _ (by omega)]; first | assumption | exact qset_self _ _ _ | (rw [qset_ne _ _ (by omega)]; first | assumption | exact qset_self _ _ _ | (rw [qset_ne _ _ (by omega)]; first | assumption | exact qset_self _ _ _ | (rw [qset_ne _ _ (by omega)]; first | assumption | exact qset_self _ _ _ | (rw [qset_ne _ _ (by omega)]; first | assumption | exact qset_self _ _ _ | (rw [qset_ne _ _ (by omega)]; first | assumption | exact qset_self _ _ _))))))) rfl ?_
    refine v_iload_n i_M_copyPages_31 rfl ?_
    refine v_iload i_M_copyPages_32 rfl ?_
    refine v_iadd i_M_copyPages_34 ?_
    rw [nI_add]
    refine v_aload_n i_M_copyPages_35 rfl ?_
    refine v_get B i_M_copyPages_36 (by first | assumption | exact qset_self _ _ _ | (rw [qset_ne _ _ (by omega)]; first | assumption | exact qset_self _ _ _ | (rw [qset_ne _ _ (by omega)]; first | assumption | exact qset_self _ _ _ | (rw [qset_ne _ _ (by omega)]; first | assumption | exact qset_self _ _ _ | (rw [qset_ne _ _ (by omega)]; first | assumption | exact qset_self _ _ _ | (rw [qset_ne _ _ (by omega)]; first | assumption | exact qset_self _ _ _ | (rw [qset_ne _ _ (by omega)]; first | assumption | exact qset_self _ _ _))))))) rfl ?_
    refine v_iload_n i_M_copyPages_39 rfl ?_
    refine v_iload i_M_copyPages_40 rfl ?_
    refine v_iadd i_M_copyPages_42 ?_
    rw [nI_add]
    refine v_iald B (by first | assumption | exact qset_self _ _ _ | (rw [qset_ne _ _ (by omega)]; first | assumption | exact qset_self _ _ _ | (rw [qset_ne _ _ (by omega)]; first | assumption | exact qset_self _ _ _ | (rw [qset_ne _ _ (by omega)]; first | assumption | exact qset_self _ _ _ | (rw [qset_ne _ _ (by omega)]; first | assumption | exact qset_self _ _ _ | (rw [qset_ne _ _ (by omega)]; first | assumption | exact qset_self _ _ _ | (rw [qset_ne _ _ (by omega)]; first | assumption | exact qset_self _ _ _))))))) rfl (by omega) (by omega) i_M_copyPages_43 ?_
    have r2 : mIu I' 1 (T + p) (I 1 (S + p)) 2 (S + p) = I 2 (S + p) := by rw [mIu_ne (by decide), c2, cpI_out _ (by omega)]
    rw [r2]
    refine v_mist B h2 (a := 2) (N := 512) (j := T + p) rfl rfl (by decide) (by decide) (rfl) (by omega) (by omega) i_M_copyPages_44 (fun X3 h3 f3 => ?_)
    obtain ⟨d0, d1, d2, d3, d4, -⟩ := h3.all
    refine v_aload_n i_M_copyPages_45 rfl ?_
    refine v_get B i_M_copyPages_46 (by first | assumption | exact qset_self _ _ _ | (rw [qset_ne _ _ (by omega)]; first | assumption | exact qset_self _ _ _ | (rw [qset_ne _ _ (by omega)]; first | assumption | exact qset_self _ _ _ | (rw [qset_ne _ _ (by omega)]; first | assumption | exact qset_self _ _ _ | (rw [qset_ne _ _ (by omega)]; first | assumption | exact qset_self _ _ _ | (rw [qset_ne _ _ (by omega)]; first | assumption | exact qset_self _ _ _ | (rw [qset_ne _ _ (by omega)]; first | assumption | exact qset_self _ _ _))))))) rfl ?_
    refine v_iload_n i_M_copyPages_49 rfl ?_
    refine v_iload i_M_copyPages_50 rfl ?_
    refine v_iadd i_M_copyPages_52 ?_
    rw [nI_add]
    refine v_aload_n i_M_copyPages_53 rfl ?_
    refine v_get B i_M_copyPages_54 (by first | assumption | exact qset_self _ _ _ | (rw [qset_ne _ _ (by omega)]; first | assumption | exact qset_self _ _ _ | (rw [qset_ne _ _ (by omega)]; first | assumption | exact qset_self _ _ _ | (rw [qset_ne _ _ (by omega)]; first | assumption | exact qset_self _ _ _ | (rw [qset_ne _ _ (by omega)]; first | assumption | exact qset_self _ _ _ | (rw [qset_ne _ _ (by omega)]; first | assumption | exact qset_self _ _ _ | (rw [qset_ne _ _ (by omega)]; first | assumption | exact qset_self _ _ _))))))) rfl ?_
    refine v_iload_n i_M_copyPages_57 rfl ?_
    refine v_iload i_M_copyPages_58 rfl ?_
    refine v_iadd i_M_copyPages_60 ?_
    rw [nI_add]
    refine v_iald B (by first | assumption | exact qset_self _ _ _ | (rw [qset_ne _ _ (by omega)]; first | assumption | exact qset_self _ _ _ | (rw [qset_ne _ _ (by omega)]; first | assumption | exact qset_self _ _ _ | (rw [qset_ne _ _ (by omega)]; first | assumption | exact qset_self _ _ _ | (rw [qset_ne _ _ (by omega)]; first | assumption | exact qset_self _ _ _ | (rw [qset_ne _ _ (by omega)]; first | assumption | exact qset_self _ _ _ | (rw [qset_ne _ _ (by omega)]; first | assumption | exact qset_self _ _ _))))))) rfl (by omega) (by omega) i_M_copyPages_61 ?_
    have r3 : mIu (mIu I' 1 (T + p) (I 1 (S + p))) 2 (T + p) (I 2 (S + p)) 3 (S + p) = I 3 (S + p) := by rw [mIu_ne (by decide), mIu_ne (by decide), c3, cpI_out _ (by omega)]
    rw [r3]
    refine v_mist B h3 (a := 3) (N := 512) (j := T + p) rfl rfl (by decide) (by decide) (rfl) (by omega) (by omega) i_M_copyPages_62 (fun X4 h4 f4 => ?_)
    obtain ⟨e0, e1, e2, e3, e4, -⟩ := h4.all
    refine v_aload_n i_M_copyPages_63 rfl ?_
    refine v_get B i_M_copyPages_64 (by first | assumption | exact qset_self _ _ _ | (rw [qset_ne _ _ (by omega)]; first | assumption | exact qset_self _ _ _ | (rw [qset_ne _ _ (by omega)]; first | assumption | exact qset_self _ _ _ | (rw [qset_ne _ _ (by omega)]; first | assumption | exact qset_self _ _ _ | (rw [qset_ne _ _ (by omega)]; first | assumption | exact qset_self _ _ _ | (rw [qset_ne _ _ (by omega)]; first | assumption | exact qset_self _ _ _ | (rw [qset_ne _ _ (by omega)]; first | assumption | exact qset_self _ _ _))))))) rfl ?_
    refine v_iload_n i_M_copyPages_67 rfl ?_
    refine v_iload i_M_copyPages_68 rfl ?_
    refine v_iadd i_M_copyPages_70 ?_
    rw [nI_add]
    refine v_aload_n i_M_copyPages_71 rfl ?_
    refine v_get B i_M_copyPages_72 (by first | assumption | exact qset_self _ _ _ | (rw [qset_ne _ _ (by omega)]; first | assumption | exact qset_self _ _ _ | (rw [qset_ne _ _ (by omega)]; first | assumption | exact qset_self _ _ _ | (rw [qset_ne _ _ (by omega)]; first | assumption | exact qset_self _ _ _ | (rw [qset_ne _ _ (by omega)]; first | assumption | exact qset_self _ _ _ | (rw [qset_ne _ _ (by omega)]; first | assumption | exact qset_self _ _ _ | (rw [qset_ne _ _ (by omega)]; first | assumption | exact qset_self _ _ _))))))) rfl ?_
    refine v_iload_n i_M_copyPages_75 rfl ?_
    refine v_iload i_M_copyPages_76 rfl ?_
    refine v_iadd i_M_copyPages_78 ?_
    rw [nI_add]
    refine v_iald B (by first | assumption | exact qset_self _ _ _ | (rw [qset_ne _ _ (by omega)]; first | assumption | exact qset_self _ _ _ | (rw [qset_ne _ _ (by omega)]; first | assumption | exact qset_self _ _ _ | (rw [qset_ne _ _ (by omega)]; first | assumption | exact qset_self _ _ _ | (rw [qset_ne _ _ (by omega)]; first | assumption | exact qset_self _ _ _ | (rw [qset_ne _ _ (by omega)]; first | assumption | exact qset_self _ _ _ | (rw [qset_ne _ _ (by omega)]; first | assumption | exact qset_self _ _ _))))))) rfl (by omega) (by omega) i_M_copyPages_79 ?_
    have r4 : mIu (mIu (mIu I' 1 (T + p) (I 1 (S + p))) 2 (T + p) (I 2 (S + p))) 3 (T + p) (I 3 (S + p)) 4 (S + p) = I 4 (S + p) := by rw [mIu_ne (by decide), mIu_ne (by decide), mIu_ne (by decide), c4, cpI_out _ (by omega)]
    rw [r4]
    refine v_mist B h4 (a := 4) (N := 512) (j := T + p) rfl rfl (by decide) (by decide) (rfl) (by omega) (by omega) i_M_copyPages_80 (fun X5 h5 f5 => ?_)
    refine v_iconst (v := 0) i_M_copyPages_81 rfl ?_
    refine v_istore i_M_copyPages_82 (by decide) rfl ?_
    have hk5 : mK [1, 2, 3, 4, 6, 7, 8, 9] I J (mIu (mIu (mIu (mIu I' 1 (T + p) (I 1 (S + p))) 2 (T + p) (I 2 (S + p))) 3 (T + p) (I 3 (S + p))) 4 (T + p) (I 4 (S + p))) J' := (((hk.int (by decide)).int (by decide)).int (by decide)).int (by decide)
    have hc5 : mCp I J (mIu (mIu (mIu (mIu I' 1 (T + p) (I 1 (S + p))) 2 (T + p) (I 2 (S + p))) 3 (T + p) (I 3 (S + p))) 4 (T + p) (I 4 (S + p))) J' T S (p + 1) (16 * p + 0) := by
      refine ⟨⟨?_, ?_, ?_, ?_⟩, ?_⟩
      · rw [mIu_ne (by decide), mIu_ne (by decide), mIu_ne (by decide), mIu_self, c1]; exact cpI_upd _ _ _ _
      · rw [mIu_ne (by decide), mIu_ne (by decide), mIu_self, mIu_ne (by decide), c2]; exact cpI_upd _ _ _ _
      · rw [mIu_ne (by decide), mIu_self, mIu_ne (by decide), mIu_ne (by decide), c3]; exact cpI_upd _ _ _ _
      · rw [mIu_self, mIu_ne (by decide), mIu_ne (by decide), mIu_ne (by decide), c4]; exact cpI_upd _ _ _ _
      · rw [mIu_ne (by decide), mIu_ne (by decide), mIu_ne (by decide), mIu_ne (by decide), mIu_ne (by decide), mIu_ne (by decide), mIu_ne (by decide), mIu_ne (by decide), mIu_ne (by decide), mIu_ne (by decide), mIu_ne (by decide), mIu_ne (by decide)]
        exact c6
    refine v_loc [(0, .ref m), (1, .int (nI T)), (2, .int (nI S)), (3, .int (nI n)), (4, .int (nI p)), (5, .int (nI 0))] rfl ?_
    refine c_M_copy_e (X := X) (I := I) (J := J) B hTS hT hS (by omega) (fun X6 I6 J6 h6 hc6 hk6 hf6 => ?_) 16 0 [] X5 _ _ (by omega) h5 hc5 hk5 ((((hf.trans f2).trans f3).trans f4).trans f5)
    refine v_iinc (v := nI (p + 1)) i_M_copyPages_177 rfl (nI_1 _) (by decide) rfl ?_
    refine v_goto (tgt := 3) i_M_copyPages_180 rfl ?_
    exact v_loc [(0, .ref m), (1, .int (nI T)), (2, .int (nI S)), (3, .int (nI n)), (4, .int (nI (p + 1)))] rfl (ih (p + 1) X6 I6 J6 (by omega) h6 hc6 hk6 hf6)
theorem c_M_copyPages (B : qB l s0 C) (h : MAt X m s I J) {T S n : Nat} (hTS : T + n ≤ S ∨ S + n ≤ T) (hT : T + n ≤ 512) (hS : S + n ≤ 512) : qMet l s0 C m_M_copyPages rm_M_copyPages [.ref m, .int (nI T), .int (nI S), .int (nI n)] X (fun r X' => r = none ∧ ∃ I' J', MAt X' m s I' J' ∧ mCp I J I' J' T S n (16 * n) ∧ mK [1, 2, 3, 4, 6, 7, 8, 9] I J I' J' ∧ qSame X X' m (m + 30)) (fun _ _ => False) := by
  refine q_of (by decide +kernel) (Nat.le_of_ble_eq_true rfl) ?_
  refine v_L (L' := [(0, .ref m), (1, .int (nI T)), (2, .int (nI S)), (3, .int (nI n))]) rfl ?_
  refine v_iconst (v := 0) i_M_copyPages_0 rfl ?_
  refine v_istore i_M_copyPages_1 (by decide) rfl ?_
  refine v_loc [(0, .ref m), (1, .int (nI T)), (2, .int (nI S)), (3, .int (nI n)), (4, .int (nI 0))] rfl ?_
  refine c_M_copy_p (X := X) (I := I) (J := J) B hTS hT hS (fun X2 I2 J2 h2 hc2 hk2 hf2 => ?_) n 0 X I J (by omega) h ?_ (mK.rf _ _ _) (qSame.rf _ _ _)
  · exact v_vret i_M_copyPages_183 rfl (by decide) (by decide) ⟨rfl, I2, J2, h2, hc2, hk2, hf2⟩
  · refine ⟨⟨(cpI_0 _ _ _).symm, (cpI_0 _ _ _).symm, (cpI_0 _ _ _).symm, (cpI_0 _ _ _).symm⟩, (cpI_0 _ _ _).symm, (cpI_0 _ _ _).symm, (cpI_0 _ _ _).symm, (cpI_0 _ _ _).symm⟩
end CP
