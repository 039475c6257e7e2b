/-! the reference: start -/
/-- what was kept, with so many records done again -/
def yR (pgK : Nat → Pg) (madeK kp : Nat) (ro : Nat → Nat) (op : Nat → Int32 × Int64 × Bool) : Nat → (Nat → Pg) × Nat × (Nat → Nat)
  | 0 => (pgK, madeK, ro)
  | t + 1 => ((yU (yR pgK madeK kp ro op t).1 (yR pgK madeK kp ro op t).2.1 (kp + t) (yR pgK madeK kp ro op t).2.2 (op (kp + t))).1, (yU (yR pgK madeK kp ro op t).1 (yR pgK madeK kp ro op t).2.1 (kp + t) (yR pgK madeK kp ro op t).2.2 (op (kp + t))).2.1, (yU (yR pgK madeK kp ro op t).1 (yR pgK madeK kp ro op t).2.1 (kp + t) (yR pgK madeK kp ro op t).2.2 (op (kp + t))).2.2.1)
/-- what the next record asks for -/
def yRk (S : (Nat → Pg) × Nat × (Nat → Nat)) (j : Nat) (o : Int32 × Int64 × Bool) : Prop := S.2.2 j < S.2.1 ∧ (∀ p, p < S.2.1 → (S.1 p).1 < 17) ∧ mdOK S.1 S.2.1 j o.1 16 (S.2.2 j) ∧ mupOK (tdes S.1 S.2.1 S.2.2 (fun _ => none) j o.1).2.2 j (j + 1) o.1 16 0 (tup0 S.1 S.2.1 j S.2.2 (fun _ => none) o.1 o.2.1 o.2.2)
theorem dgd_spec (b : Lg) : ∀ (j i : Nat), i + j = b.length → i ≤ dgd b j i ∧ dgd b j i ≤ b.length ∧ (∀ x, i ≤ x → x < dgd b j i → (lg b x).2 = false) ∧ (dgd b j i < b.length → (lg b (dgd b j i)).2 = true)
  | 0, i, h => by
    rw [dgd]
    exact ⟨Nat.le_refl _, by omega, fun x h1 h2 => by omega, fun q => by omega⟩
  | j + 1, i, h => by
    rw [dgd]
    by_cases q : (lg b i).2 = true
    · rw [if_pos q]; exact ⟨Nat.le_refl _, by omega, fun x h1 h2 => by omega, fun _ => q⟩
    · rw [if_neg q]
      obtain ⟨g1, g2, g3, g4⟩ := dgd_spec b j (i + 1) (by omega)
      refine ⟨by omega, g2, fun x h1 h2 => ?_, g4⟩
      by_cases z : x = i
      · subst z; cases hq : (lg b x).2; rfl; exact absurd hq q
      · exact g3 x (by omega) h2
theorem dsn_take (b : Lg) (g : Nat) : ∀ n, n ≤ g → dsn (b.take g) n = dsn b n
  | 0, _ => rfl
  | n + 1, h => by rw [dsn, dsn, dsn_take b g n (by omega), lg_take _ _ _ (by omega)]
theorem dup_len (D : Dk) : (dup D).1.length = dgd D.1 D.1.length 0 := by
  show (D.1.take (dgd D.1 D.1.length 0)).length = _
  rw [List.length_take]
  have := (dgd_spec D.1 D.1.length 0 (by omega)).2.1
  omega
theorem dup_lat (D : Dk) : dlat (dup D) = D.2.2.1 + dsn D.1 (dgd D.1 D.1.length 0) := by
  unfold dlat
  rw [dup_len]
  show D.2.2.1 + dsn (D.1.take (dgd D.1 D.1.length 0)) (dgd D.1 D.1.length 0) = _
  rw [dsn_take _ _ _ (Nat.le_refl _)]
theorem dsn_le (b : Lg) : ∀ {i n : Nat}, i ≤ n → dsn b i ≤ dsn b n
  | i, 0, h => by rw [show i = 0 by omega]; exact Nat.le_refl _
  | i, n + 1, h => by
    by_cases q : i = n + 1
    · rw [q]; exact Nat.le_refl _
    · have := dsn_le b (i := i) (n := n) (by omega)
      rw [dsn]; omega
theorem dup_le (D : Dk) : dlat (dup D) ≤ dlat D := by
  rw [dup_lat]
  have := dsn_le D.1 (dgd_spec D.1 D.1.length 0 (by omega)).2.1
  unfold dlat; omega
section MT2
variable {X X' : qX} {m : Nat} {s : Nat → Int32} {I : Nat → Nat → Int32} {J : Nat → Nat → Int64} {cd : Int32}
variable {pg : Nat → Pg} {made lat : Nat} {ro : Nat → Nat} {pgK : Nat → Pg} {madeK : Nat} {D : Dk} {op : Nat → Int32 × Int64 × Bool}
variable {l : Launch} {s0 : State} {C : qC}
/-- the records of a block, done again -/
theorem c_M_start_r (B : qB l s0 C) {kp b c : Nat} (hb : b < 40) (hc : c ≤ 4) (t0 : Nat) (hlim : kp + t0 + c < 3999) (h11 : I 11 b = nI c) (hrec : ∀ i, i < c → mrc (I 13 (4 * b + i)) (I 14 (4 * b + i)) (J 15 (4 * b + i)) (op (kp + t0 + i)))
    (hch : ∀ i, i < c → yRk (yR pgK madeK kp ro op (t0 + i)) (kp + (t0 + i)) (op (kp + (t0 + i)))) {Qp : Option Value → qX → Prop}
    (K : ∀ (X2 : qX) (s2 : Nat → Int32) (I2 : Nat → Nat → Int32) (J2 : Nat → Nat → Int64), MAt X2 m s2 I2 J2 → MT s2 I2 J2 (yR pgK madeK kp ro op (t0 + c)).1 (yR pgK madeK kp ro op (t0 + c)).2.1 (kp + (t0 + c)) (fun q => gchg ((yR pgK madeK kp ro op (t0 + c)).1 q) kp) (yR pgK madeK kp ro op (t0 + c)).2.2 (kp + (t0 + c)) → mSn I J I2 J2 → mK [1, 2, 3, 4, 5, 6, 7, 8, 9, 10, 19, 20, 21, 22, 23] I J I2 J2 → sK [10, 12, 28, 29, 30, 33] s s2 → qSame X X2 m (m + 30) → qV l s0 C m_M_start rm_M_start Qp (fun _ _ => False) 0 0 X2 144 [(0, .ref m), (1, .int (nI b))] []) :
    ∀ (j i : Nat) (X' : qX) (s' : Nat → Int32) (I' : Nat → Nat → Int32) (J' : Nat → Nat → Int64), i + j = c → MAt X' m s' I' J' → MT s' I' J' (yR pgK madeK kp ro op (t0 + i)).1 (yR pgK madeK kp ro op (t0 + i)).2.1 (kp + (t0 + i)) (fun q => gchg ((yR pgK madeK kp ro op (t0 + i)).1 q) kp) (yR pgK madeK kp ro op (t0 + i)).2.2 (kp + (t0 + i)) → mSn I J I' J' → mK [1, 2, 3, 4, 5, 6, 7, 8, 9, 10, 19, 20, 21, 22, 23] I J I' J' → sK [10, 12, 28, 29, 30, 33] s s' → qSame X X' m (m + 30) →
      qV l s0 C m_M_start rm_M_start Qp (fun _ _ => False) 0 0 X' 102 [(0, .ref m), (1, .int (nI b)), (2, .int (nI (4 * b + i)))] [] := by
  intro j
  induction j with
  | zero =>
    intro i X' s' I' J' hj h hT hsn hk hs hf
    obtain ⟨h0, a1, a2, a3, a4, a5, a6, a7, a8, a9, a10, a11, a12, a13, a14, a15, a16, a17, a18, a19, a20, a21, a22, a23, a24, a25, a26, a27, a28, a29⟩ := h.all
    refine v_iload_n i_M_start_102 rfl ?_
    refine v_iconst (v := 4) i_M_start_103 rfl ?_
    refine v_iload_n i_M_start_104 rfl ?_
    refine v_imul i_M_start_105 ?_
    refine v_aload_n i_M_start_106 rfl ?_
    refine v_get B i_M_start_107 (by first | assumption | exact qset_self _ _ _ | (rw [qset_ne _ _ (by omega)]; first | assumption | exact qset_self _ _ _ | (rw [qset_ne _ _ (by omega)]; first | assumption | exact qset_self _ _ _ | (rw [qset_ne _ _ (by omega)]; first | assumption | exact qset_self _ _ _ | (rw [qset_ne _ _ (by omega)]; first | assumption | exact qset_self _ _ _ | (rw [qset_ne _ _ (by omega)]; first | assumption | exact qset_self _ _ _ | (rw [qset_ne _ _ (by omega)]; first | assumption | exact qset_self _ _ _))))))) rfl ?_
    refine v_iload_n i_M_start_110 rfl ?_
    refine v_iald B (by first | assumption | exact qset_self _ _ _ | (rw [qset_ne _ _ (by omega)]; first | assumption | exact qset_self _ _ _ | (rw [qset_ne _ _ (by omega)]; first | assumption | exact qset_self _ _ _ | (rw [qset_ne _ _ (by omega)]; first | assumption | exact qset_self _ _ _ | (rw [qset_ne _ _ (by omega)]; first | assumption | exact qset_self _ _ _ | (rw [qset_ne _ _ (by omega)]; first | assumption | exact qset_self _ _ _ | (rw [qset_ne _ _ (by omega)]; first | assumption | exact qset_self _ _ _))))))) rfl (by omega) (by omega) i_M_start_111 ?_
    rw [(hk 11 (by decide)).1, h11]
    refine v_iadd i_M_start_112 ?_
    rw [show (4 : Int32) * nI b = nI (4 * b) from nI_mul 4 b, nI_add]
    refine v_icmp_ge (tgt := 144) i_M_start_113 rfl (fun _ => ?_) (fun q => absurd (nI_le (by omega) (by omega)) q)
    rw [show i = c by omega] at hT
    exact v_loc [(0, .ref m), (1, .int (nI b))] rfl (K X' s' I' J' h hT hsn hk hs hf)
  | succ j ih =>
    intro i X' s' I' J' hj h hT hsn hk hs hf
    have hi : i < c := by omega
    obtain ⟨r1, r2, r3⟩ := hrec i hi
    rw [show kp + t0 + i = kp + (t0 + i) by omega] at r1 r2 r3
    obtain ⟨q1, q2, q3, q4⟩ := hch i hi
    obtain ⟨h0, a1, a2, a3, a4, a5, a6, a7, a8, a9, a10, a11, a12, a13, a14, a15, a16, a17, a18, a19, a20, a21, a22, a23, a24, a25, a26, a27, a28, a29⟩ := h.all
    refine v_iload_n i_M_start_102 rfl ?_
    refine v_iconst (v := 4) i_M_start_103 rfl ?_
    refine v_iload_n i_M_start_104 rfl ?_
    refine v_imul i_M_start_105 ?_
    refine v_aload_n i_M_start_106 rfl ?_
    refine v_get B i_M_start_107 (by first | assumption | exact qset_self _ _ _ | (rw [qset_ne _ _ (by omega)]; first | assumption | exact qset_self _ _ _ | (rw [qset_ne _ _ (by omega)]; first | assumption | exact qset_self _ _ _ | (rw [qset_ne _ _ (by omega)]; first | assumption | exact qset_self _ _ _ | (rw [qset_ne _ _ (by omega)]; first | assumption | exact qset_self _ _ _ | (rw [qset_ne _ _ (by omega)]; first | assumption | exact qset_self _ _ _ | (rw [qset_ne _ _ (by omega)]; first | assumption | exact qset_self _ _ _))))))) rfl ?_
    refine v_iload_n i_M_start_110 rfl ?_
    refine v_iald B (by first | assumption | exact qset_self _ _ _ | (rw [qset_ne _ _ (by omega)]; first | assumption | exact qset_self _ _ _ | (rw [qset_ne _ _ (by omega)]; first | assumption | exact qset_self _ _ _ | (rw [qset_ne _ _ (by omega)]; first | assumption | exact qset_self _ _ _ | (rw [qset_ne _ _ (by omega)]; first | assumption | exact qset_self _ _ _ | (rw [qset_ne _ _ (by omega)]; first | assumption | exact qset_self _ _ _ | (rw [qset_ne _ _ (by omega)]; first | assumption | exact qset_self _ _ _))))))) rfl (by omega) (by omega) i_M_start_111 ?_
    rw [(hk 11 (by decide)).1, h11]
    refine v_iadd i_M_start_112 ?_
    rw [show (4 : Int32) * nI b = nI (4 * b) from nI_mul 4 b, nI_add]
    refine v_icmp_ge (tgt := 144) i_M_start_113 rfl (fun q => absurd q (nI_ge (by omega) (by omega))) (fun _ => ?_)
    refine v_aload_n i_M_start_116 rfl ?_
    refine v_aload_n i_M_start_117 rfl ?_
    refine v_get B i_M_start_118 (by first | assumption | exact qset_self _ _ _ | (rw [qset_ne _ _ (by omega)]; first | assumption | exact qset_self _ _ _ | (rw [qset_ne _ _ (by omega)]; first | assumption | exact qset_self _ _ _ | (rw [qset_ne _ _ (by omega)]; first | assumption | exact qset_self _ _ _ | (rw [qset_ne _ _ (by omega)]; first | assumption | exact qset_self _ _ _ | (rw [qset_ne _ _ (by omega)]; first | assumption | exact qset_self _ _ _ | (rw [qset_ne _ _ (by omega)]; first | assumption | exact qset_self _ _ _))))))) rfl ?_
    refine v_iload_n i_M_start_121 rfl ?_
    refine v_iald B (by first | assumption | exact qset_self _ _ _ | (rw [qset_ne _ _ (by omega)]; first | assumption | exact qset_self _ _ _ | (rw [qset_ne _ _ (by omega)]; first | assumption | exact qset_self _ _ _ | (rw [qset_ne _ _ (by omega)]; first | assumption | exact qset_self _ _ _ | (rw [qset_ne _ _ (by omega)]; first | assumption | exact qset_self _ _ _ | (rw [qset_ne _ _ (by omega)]; first | assumption | exact qset_self _ _ _ | (rw [qset_ne _ _ (by omega)]; first | assumption | exact qset_self _ _ _))))))) rfl (by omega) (by omega) i_M_start_122 ?_
    refine v_aload_n i_M_start_123 rfl ?_
    refine v_get B i_M_start_124 (by first | assumption | exact qset_self _ _ _ | (rw [qset_ne _ _ (by omega)]; first | assumption | exact qset_self _ _ _ | (rw [qset_ne _ _ (by omega)]; first | assumption | exact qset_self _ _ _ | (rw [qset_ne _ _ (by omega)]; first | assumption | exact qset_self _ _ _ | (rw [qset_ne _ _ (by omega)]; first | assumption | exact qset_self _ _ _ | (rw [qset_ne _ _ (by omega)]; first | assumption | exact qset_self _ _ _ | (rw [qset_ne _ _ (by omega)]; first | assumption | exact qset_self _ _ _))))))) rfl ?_
    refine v_iload_n i_M_start_127 rfl ?_
    refine v_zald B (by first | assumption | exact qset_self _ _ _ | (rw [qset_ne _ _ (by omega)]; first | assumption | exact qset_self _ _ _ | (rw [qset_ne _ _ (by omega)]; first | assumption | exact qset_self _ _ _ | (rw [qset_ne _ _ (by omega)]; first | assumption | exact qset_self _ _ _ | (rw [qset_ne _ _ (by omega)]; first | assumption | exact qset_self _ _ _ | (rw [qset_ne _ _ (by omega)]; first | assumption | exact qset_self _ _ _ | (rw [qset_ne _ _ (by omega)]; first | assumption | exact qset_self _ _ _))))))) rfl (by omega) (by omega) i_M_start_128 ?_
    refine v_aload_n i_M_start_129 rfl ?_
    refine v_get B i_M_start_130 (by first | assumption | exact qset_self _ _ _ | (rw [qset_ne _ _ (by omega)]; first | assumption | exact qset_self _ _ _ | (rw [qset_ne _ _ (by omega)]; first | assumption | exact qset_self _ _ _ | (rw [qset_ne _ _ (by omega)]; first | assumption | exact qset_self _ _ _ | (rw [qset_ne _ _ (by omega)]; first | assumption | exact qset_self _ _ _ | (rw [qset_ne _ _ (by omega)]; first | assumption | exact qset_self _ _ _ | (rw [qset_ne _ _ (by omega)]; first | assumption | exact qset_self _ _ _))))))) rfl ?_
    refine v_iload_n i_M_start_133 rfl ?_
    refine v_lald B (by first | assumption | exact qset_self _ _ _ | (rw [qset_ne _ _ (by omega)]; first | assumption | exact qset_self _ _ _ | (rw [qset_ne _ _ (by omega)]; first | assumption | exact qset_self _ _ _ | (rw [qset_ne _ _ (by omega)]; first | assumption | exact qset_self _ _ _ | (rw [qset_ne _ _ (by omega)]; first | assumption | exact qset_self _ _ _ | (rw [qset_ne _ _ (by omega)]; first | assumption | exact qset_self _ _ _ | (rw [qset_ne _ _ (by omega)]; first | assumption | exact qset_self _ _ _))))))) rfl (by omega) (by omega) i_M_start_134 ?_
    rw [(hk 13 (by decide)).1, (hk 14 (by decide)).1, (hk 15 (by decide)).2, r1, r2, r3]
    refine v_inv B i_M_start_135 kn_m_M_update (c_M_update B h hT (Nat.le_add_right _ _) (by omega) q1 q2 q3 q4) h0 rfl rfl (Nat.le_of_ble_eq_true rfl) ⟨by decide, by decide, by first | decide | (simp; omega), by first | decide | (simp; omega)⟩ rfl (fun r X' hq => ?_) (fun _ _ h => False.elim h)
    obtain ⟨rfl, s2, I2, J2, h2, hT2, hsn2, hk2, hs2, hf2⟩ := hq
    refine v_iinc (v := nI (4 * b + (i + 1))) i_M_start_138 rfl (nI_1 _) (by decide) rfl ?_
    refine v_goto (tgt := 102) i_M_start_141 rfl ?_
    refine v_loc [(0, .ref m), (1, .int (nI b)), (2, .int (nI (4 * b + (i + 1))))] rfl ?_
    exact ih (i + 1) _ s2 I2 J2 (by omega) h2 hT2 (hsn.trans hsn2) (hk.trans hk2) (hs.trans hs2) (hf.trans hf2)
theorem c_M_start_b (B : qB l s0 C) (hG : ∀ b, b < D.1.length → I 11 b = nI (lg D.1 b).1 ∧ (lg D.1 b).1 ≤ 4 ∧ I 12 b = bI (lg D.1 b).2 ∧ ∀ i, i < (lg D.1 b).1 → mrc (I 13 (4 * b + i)) (I 14 (4 * b + i)) (J 15 (4 * b + i)) (op (D.2.2.1 + dsn D.1 b + i))) (hl40 : D.1.length ≤ 40) (e20 : s 20 = nI D.1.length) (hlim : dlat (dup D) < 3999)
    (hch : ∀ t, D.2.2.1 + t < dlat (dup D) → yRk (yR pgK madeK D.2.2.1 ro op t) (D.2.2.1 + t) (op (D.2.2.1 + t))) {Qp : Option Value → qX → Prop}
    (K : ∀ (X2 : qX) (s2 : Nat → Int32) (I2 : Nat → Nat → Int32) (J2 : Nat → Nat → Int64), MAt X2 m s2 I2 J2 → MT s2 I2 J2 (yR pgK madeK D.2.2.1 ro op (dsn D.1 (dgd D.1 D.1.length 0))).1 (yR pgK madeK D.2.2.1 ro op (dsn D.1 (dgd D.1 D.1.length 0))).2.1 (D.2.2.1 + dsn D.1 (dgd D.1 D.1.length 0)) (fun q => gchg ((yR pgK madeK D.2.2.1 ro op (dsn D.1 (dgd D.1 D.1.length 0))).1 q) D.2.2.1) (yR pgK madeK D.2.2.1 ro op (dsn D.1 (dgd D.1 D.1.length 0))).2.2 (D.2.2.1 + dsn D.1 (dgd D.1 D.1.length 0)) → mSn I J I2 J2 → mK [1, 2, 3, 4, 5, 6, 7, 8, 9, 10, 19, 20, 21, 22, 23] I J I2 J2 → sK [10, 12, 28, 29, 30, 33] s s2 → qSame X X2 m (m + 30) → qV l s0 C m_M_start rm_M_start Qp (fun _ _ => False) 0 0 X2 150 [(0, .ref m), (1, .int (nI (dgd D.1 D.1.length 0)))] []) :
    ∀ (j b : Nat) (X' : qX) (s' : Nat → Int32) (I' : Nat → Nat → Int32) (J' : Nat → Nat → Int64), b + j = dgd D.1 D.1.length 0 → MAt X' m s' I' J' → MT s' I' J' (yR pgK madeK D.2.2.1 ro op (dsn D.1 b)).1 (yR pgK madeK D.2.2.1 ro op (dsn D.1 b)).2.1 (D.2.2.1 + dsn D.1 b) (fun q => gchg ((yR pgK madeK D.2.2.1 ro op (dsn D.1 b)).1 q) D.2.2.1) (yR pgK madeK D.2.2.1 ro op (dsn D.1 b)).2.2 (D.2.2.1 + dsn D.1 b) → mSn I J I' J' → mK [1, 2, 3, 4, 5, 6, 7, 8, 9, 10, 19, 20, 21, 22, 23] I J I' J' → sK [10, 12, 28, 29, 30, 33] s s' → qSame X X' m (m + 30) →
      qV l s0 C m_M_start rm_M_start Qp (fun _ _ => False) 0 0 X' 81 [(0, .ref m), (1, .int (nI b))] [] := by
  obtain ⟨-, sp2, sp3, sp4⟩ := dgd_spec D.1 D.1.length 0 (by omega)
  have edl := dup_lat D
  intro j
  induction j with
  | zero =>
    intro b X' s' I' J' hj h hT hsn hk hs hf
    have eb : b = dgd D.1 D.1.length 0 := by omega
    have KK := fun hT' => K X' s' I' J' h hT' hsn hk hs hf
    rw [← eb] at KK sp2 sp4
    have KK := KK hT
    obtain ⟨h0, a1, a2, a3, a4, a5, a6, a7, a8, a9, a10, a11, a12, a13, a14, a15, a16, a17, a18, a19, a20, a21, a22, a23, a24, a25, a26, a27, a28, a29⟩ := h.all
    refine v_iload_n i_M_start_81 rfl ?_
    refine v_aload_n i_M_start_82 rfl ?_
    refine v_get B i_M_start_83 (by first | assumption | exact qset_self _ _ _ | (rw [qset_ne _ _ (by omega)]; first | assumption | exact qset_self _ _ _ | (rw [qset_ne _ _ (by omega)]; first | assumption | exact qset_self _ _ _ | (rw [qset_ne _ _ (by omega)]; first | assumption | exact qset_self _ _ _ | (rw [qset_ne _ _ (by omega)]; first | assumption | exact qset_self _ _ _ | (rw [qset_ne _ _ (by omega)]; first | assumption | exact qset_self _ _ _ | (rw [qset_ne _ _ (by omega)]; first | assumption | exact qset_self _ _ _))))))) rfl ?_
    rw [hs 20 (by decide), e20]
    refine v_icmp_ge (tgt := 150) i_M_start_86 rfl (fun _ => KK) (fun q86 => ?_)
    have hbl : b < D.1.length := by
      rcases Nat.lt_or_ge b D.1.length with z | z
      · exact z
      · exact absurd (nI_le z (by omega)) q86
    refine v_aload_n i_M_start_89 rfl ?_
    refine v_get B i_M_start_90 (by first | assumption | exact qset_self _ _ _ | (rw [qset_ne _ _ (by omega)]; first | assumption | exact qset_self _ _ _ | (rw [qset_ne _ _ (by omega)]; first | assumption | exact qset_self _ _ _ | (rw [qset_ne _ _ (by omega)]; first | assumption | exact qset_self _ _ _ | (rw [qset_ne _ _ (by omega)]; first | assumption | exact qset_self _ _ _ | (rw [qset_ne _ _ (by omega)]; first | assumption | exact qset_self _ _ _ | (rw [qset_ne _ _ (by omega)]; first | assumption | exact qset_self _ _ _))))))) rfl ?_
    refine v_iload_n i_M_start_93 rfl ?_
    refine v_zald B (by first | assumption | exact qset_self _ _ _ | (rw [qset_ne _ _ (by omega)]; first | assumption | exact qset_self _ _ _ | (rw [qset_ne _ _ (by omega)]; first | assumption | exact qset_self _ _ _ | (rw [qset_ne _ _ (by omega)]; first | assumption | exact qset_self _ _ _ | (rw [qset_ne _ _ (by omega)]; first | assumption | exact qset_self _ _ _ | (rw [qset_ne _ _ (by omega)]; first | assumption | exact qset_self _ _ _ | (rw [qset_ne _ _ (by omega)]; first | assumption | exact qset_self _ _ _))))))) rfl (by omega) (by omega) i_M_start_94 ?_
    rw [(hk 12 (by decide)).1, (hG b hbl).2.2.1, sp4 hbl]
    refine v_if_ne (tgt := 150) i_M_start_95 rfl (fun _ => KK) (fun q => absurd q (by decide))
  | succ j ih =>
    intro b X' s' I' J' hj h hT hsn hk hs hf
    have hbl : b < D.1.length := by omega
    obtain ⟨g1, g2, g3, g4⟩ := hG b hbl
    have hsum : dsn D.1 (b + 1) = dsn D.1 b + (lg D.1 b).1 := rfl
    have hmono := dsn_le D.1 (i := b + 1) (n := dgd D.1 D.1.length 0) (by omega)
    obtain ⟨h0, a1, a2, a3, a4, a5, a6, a7, a8, a9, a10, a11, a12, a13, a14, a15, a16, a17, a18, a19, a20, a21, a22, a23, a24, a25, a26, a27, a28, a29⟩ := h.all
    refine v_iload_n i_M_start_81 rfl ?_
    refine v_aload_n i_M_start_82 rfl ?_
    refine v_get B i_M_start_83 (by first | assumption | exact qset_self _ _ _ | (rw [qset_ne _ _ (by omega)]; first | assumption | exact qset_self _ _ _ | (rw [qset_ne _ _ (by omega)]; first | assumption | exact qset_self _ _ _ | (rw [qset_ne _ _ (by omega)]; first | assumption | exact qset_self _ _ _ | (rw [qset_ne _ _ (by omega)]; first | assumption | exact qset_self _ _ _ | (rw [qset_ne _ _ (by omega)]; first | assumption | exact qset_self _ _ _ | (rw [qset_ne _ _ (by omega)]; first | assumption | exact qset_self _ _ _))))))) rfl ?_
    rw [hs 20 (by decide), e20]
    refine v_icmp_ge (tgt := 150) i_M_start_86 rfl (fun q => absurd q (nI_ge (by omega) (by omega))) (fun _ => ?_)
    refine v_aload_n i_M_start_89 rfl ?_
    refine v_get B i_M_start_90 (by first | assumption | exact qset_self _ _ _ | (rw [qset_ne _ _ (by omega)]; first | assumption | exact qset_self _ _ _ | (rw [qset_ne _ _ (by omega)]; first | assumption | exact qset_self _ _ _ | (rw [qset_ne _ _ (by omega)]; first | assumption | exact qset_self _ _ _ | (rw [qset_ne _ _ (by omega)]; first | assumption | exact qset_self _ _ _ | (rw [qset_ne _ _ (by omega)]; first | assumption | exact qset_self _ _ _ | (rw [qset_ne _ _ (by omega)]; first | assumption | exact qset_self _ _ _))))))) rfl ?_
    refine v_iload_n i_M_start_93 rfl ?_
    refine v_zald B (by first | assumption | exact qset_self _ _ _ | (rw [qset_ne _ _ (by omega)]; first | assumption | exact qset_self _ _ _ | (rw [qset_ne _ _ (by omega)]; first | assumption | exact qset_self _ _ _ | (rw [qset_ne _ _ (by omega)]; first | assumption | exact qset_self _ _ _ | (rw [qset_ne _ _ (by omega)]; first | assumption | exact qset_self _ _ _ | (rw [qset_ne _ _ (by omega)]; first | assumption | exact qset_self _ _ _ | (rw [qset_ne _ _ (by omega)]; first | assumption | exact qset_self _ _ _))))))) rfl (by omega) (by omega) i_M_start_94 ?_
    rw [(hk 12 (by decide)).1, g3, sp3 b (Nat.zero_le _) (by omega)]
    refine v_if_ne (tgt := 150) i_M_start_95 rfl (fun q => absurd rfl q) (fun _ => ?_)
    refine v_iconst (v := 4) i_M_start_98 rfl ?_
    refine v_iload_n i_M_start_99 rfl ?_
    refine v_imul i_M_start_100 ?_
    refine v_istore_n i_M_start_101 (by decide) rfl ?_
    rw [show (4 : Int32) * nI b = nI (4 * b) from nI_mul 4 b]
    refine v_loc [(0, .ref m), (1, .int (nI b)), (2, .int (nI (4 * b + 0)))] rfl ?_
    refine c_M_start_r (X := X') (s := s') (I := I') (J := J') (pgK := pgK) (madeK := madeK) (ro := ro) (op := op) B (kp := D.2.2.1) (b := b) (c := (lg D.1 b).1) (by omega) g2 (dsn D.1 b) (by omega) (by rw [(hk 11 (by decide)).1]; exact g1) (fun i hi => by rw [(hk 13 (by decide)).1, (hk 14 (by decide)).1, (hk 15 (by decide)).2]; exact g4 i hi) (fun i hi => hch (dsn D.1 b + i) (by omega)) (fun X2 s2 I2 J2 h2 hT2 hsn2 hk2 hs2 hf2 => ?_) (lg D.1 b).1 0 X' s' I' J' (by omega) h (by rw [Nat.add_zero]; exact hT) (mSn.rf _ _) (mK.rf _ _ _) (sK.rf _ _) (qSame.rf _ _ _)
    refine v_iinc (v := nI (b + 1)) i_M_start_144 rfl (nI_1 _) (by decide) rfl ?_
    refine v_goto (tgt := 81) i_M_start_147 rfl ?_
    rw [← hsum] at hT2
    exact v_loc [(0, .ref m), (1, .int (nI (b + 1)))] rfl (ih (b + 1) X2 s2 I2 J2 (by omega) h2 hT2 (hsn.trans hsn2) (hk.trans hk2) (hs.trans hs2) (hf.trans hf2))
theorem c_M_start_d (B : qB l s0 C) {Qp : Option Value → qX → Prop} (K : ∀ (X2 : qX) (I2 : Nat → Nat → Int32), MAt X2 m s I2 J → (∀ p, p < 256 → I2 5 p = 0) → mK [5] I J I2 J → qSame X X2 m (m + 30) → qV l s0 C m_M_start rm_M_start Qp (fun _ _ => False) 0 0 X2 79 [(0, .ref m)] []) :
    ∀ (j p : Nat) (X' : qX) (I' : Nat → Nat → Int32), p + j = 256 → MAt X' m s I' J → (∀ t, t < p → I' 5 t = 0) → mK [5] I J I' J → qSame X X' m (m + 30) →
      qV l s0 C m_M_start rm_M_start Qp (fun _ _ => False) 0 0 X' 59 [(0, .ref m), (1, .int (nI p))] [] := by
  intro j
  induction j with
  | zero =>
    intro p X' I' hj h ha hk hf
    refine v_iload_n i_M_start_59 rfl ?_
    refine v_sipush (v := 256) i_M_start_60 rfl ?_
    refine v_icmp_ge (tgt := 79) i_M_start_63 rfl (fun _ => ?_) (fun q => absurd (nI_le (a := 256) (by omega) (by omega)) q)
    exact v_loc [(0, .ref m)] rfl (K X' I' h (fun t ht => ha t (by omega)) hk hf)
  | succ j ih =>
    intro p X' I' hj h ha hk hf
    obtain ⟨h0, -⟩ := id h
    refine v_iload_n i_M_start_59 rfl ?_
    refine v_sipush (v := 256) i_M_start_60 rfl ?_
    refine v_icmp_ge (tgt := 79) i_M_start_63 rfl (fun q => absurd q (nI_ge (b := 256) (by omega) (by omega))) (fun _ => ?_)
    refine v_aload_n i_M_start_66 rfl ?_
    refine v_get B i_M_start_67 (by first | assumption | exact qset_self _ _ _ | (rw [qset_ne _ _ (by omega)]; first | assumption | exact qset_self _ _ _ | (rw [qset_ne _ _ (by omega)]; first | assumption | exact qset_self _ _ _ | (rw [qset_ne _ _ (by omega)]; first | assumption | exact qset_self _ _ _ | (rw [qset_ne _ _ (by omega)]; first | assumption | exact qset_self _ _ _ | (rw [qset_ne _ _ (by omega)]; first | assumption | exact qset_self _ _ _ | (rw [qset_ne _ _ (by omega)]; first | assumption | exact qset_self _ _ _))))))) rfl ?_
    refine v_iload_n i_M_start_70 rfl ?_
    refine v_iconst (v := 0) i_M_start_71 rfl ?_
    refine v_mzst B h (a := 5) (N := 256) (j := p) rfl rfl (by decide) (by decide) (rfl) (by omega) (by omega) (by first | exact Or.inl rfl | exact Or.inr rfl | assumption | exact bI_01 _) i_M_start_72 (fun X2 h2 f2 => ?_)
    refine v_iinc (v := nI (p + 1)) i_M_start_73 rfl (nI_1 _) (by decide) rfl ?_
    refine v_goto (tgt := 59) i_M_start_76 rfl ?_
    refine v_loc [(0, .ref m), (1, .int (nI (p + 1)))] rfl (ih (p + 1) X2 _ (by omega) h2 (fun t ht => ?_) (hk.int (by decide)) (hf.trans f2))
    rw [mIu_self]
    by_cases q : t = p
    · subst q; exact pk_us
    · rw [pk_un q]; exact ha t (by omega)
theorem c_M_start (B : qB l s0 C) (h : MR X m cd pg made lat ro pgK madeK D op) (hcl : ∀ p, p < madeK → gchg (pgK p) D.2.2.1 = false) (hlim : lat < 3999)
    (hch : ∀ t, D.2.2.1 + t < dlat (dup D) → yRk (yR pgK madeK D.2.2.1 ro op t) (D.2.2.1 + t) (op (D.2.2.1 + t))) :
    qMet l s0 C m_M_start rm_M_start [.ref m] X (fun r X' => (D.2.2.2.2 = false ∧ MR X' m 1 pg made lat ro pgK madeK D op ∨ D.2.2.2.2 = true ∧ r = some (.int (nI (dlat (dup D)))) ∧ MR X' m 0 (yR pgK madeK D.2.2.1 ro op (dlat (dup D) - D.2.2.1)).1 (yR pgK madeK D.2.2.1 ro op (dlat (dup D) - D.2.2.1)).2.1 (dlat (dup D)) (yR pgK madeK D.2.2.1 ro op (dlat (dup D) - D.2.2.1)).2.2 pgK madeK (dup D) op) ∧ (∃ z, r = some (.int z)) ∧ qSame X X' m (m + 30)) (fun _ _ => False) := by
  obtain ⟨s, I, J, h, hcd, hT, hD⟩ := h
  obtain ⟨⟨a1, a2, a3⟩, ⟨b1, b2, b3, b4, b5, b6⟩, ⟨c1, c2, c3⟩, d, e⟩ := id hD
  obtain ⟨t1, ⟨t2, t2b, t2c, t2d⟩, t3, t4, t5, t6⟩ := id hT
  have edl := dup_lat D
  have hdle := dup_le D
  have hkl : D.2.2.1 ≤ lat := by have : D.2.2.1 ≤ dlat D := Nat.le_add_right _ _; omega
  have etT : dlat (dup D) - D.2.2.1 = dsn D.1 (dgd D.1 D.1.length 0) := by omega
  obtain ⟨h0, -⟩ := id h
  refine q_of (by decide +kernel) (Nat.le_of_ble_eq_true rfl) ?_
  refine v_L (L' := [(0, .ref m)]) rfl ?_
  refine v_aload_n i_M_start_0 rfl ?_
  refine v_aload_n i_M_start_1 rfl ?_
  refine v_get B i_M_start_2 (by first | assumption | exact qset_self _ _ _ | (rw [qset_ne _ _ (by omega)]; first | assumption | exact qset_self _ _ _ | (rw [qset_ne _ _ (by omega)]; first | assumption | exact qset_self _ _ _ | (rw [qset_ne _ _ (by omega)]; first | assumption | exact qset_self _ _ _ | (rw [qset_ne _ _ (by omega)]; first | assumption | exact qset_self _ _ _ | (rw [qset_ne _ _ (by omega)]; first | assumption | exact qset_self _ _ _ | (rw [qset_ne _ _ (by omega)]; first | assumption | exact qset_self _ _ _))))))) rfl ?_
  rw [b4]
  refine v_neg (tgt := 12) (e := 13) i_M_start_5 rfl i_M_start_8 i_M_start_9 rfl i_M_start_12 rfl ?_
  refine v_iconst (v := 0) i_M_start_13 rfl ?_
  refine v_iconst (v := 0) i_M_start_14 rfl ?_
  refine v_iconst (v := 0) i_M_start_15 rfl ?_
  refine v_inv B i_M_start_16 kn_m_M_fails (c_M_fails B h (!D.2.2.2.2) false false false) h0 rfl rfl (Nat.le_of_ble_eq_true rfl) ⟨by decide, by decide, by first | decide | (simp; omega), by first | decide | (simp; omega)⟩ rfl (fun r X' hq => ?_) (fun _ _ h => False.elim h)
  obtain ⟨rfl, h1, f1⟩ := hq
  have ho := mRO.of h1 f1
  cases hdn : D.2.2.2.2 with
  | false =>
    rw [hdn] at ho
    refine v_if_eq (tgt := 24) i_M_start_19 rfl (fun q => absurd q (by decide)) (fun _ => ?_)
    refine v_iconst (v := 0) i_M_start_22 rfl ?_
    exact v_iret i_M_start_23 rfl (by decide) (by decide) ⟨Or.inl ⟨rfl, MR.rd hT hD ho⟩, ⟨_, rfl⟩, f1⟩
  | true =>
    rw [hdn] at h1 b3 b5
    rw [if_pos rfl] at b3 b5
    refine v_if_eq (tgt := 24) i_M_start_19 rfl (fun _ => ?_) (fun q => absurd rfl q)
    refine v_aload_n i_M_start_24 rfl ?_
    refine v_iconst (v := 0) i_M_start_25 rfl ?_
    refine v_mput B h1 (j := 25) i_M_start_26 (Nat.le_of_ble_eq_true rfl) rfl rfl rfl (fun X2 h2 f2 => ?_)
    have hs2 : sK [0, 25] s (upd (upd s 0 (mcode (!true) false false false)) 25 0) := ((sK.rf _ _).set (by decide)).set (by decide)
    have hz0 : upd (upd s 0 (mcode (!true) false false false)) 25 0 0 = 0 := by rw [pk_un (by decide), pk_us]; rfl
    have hz25 : upd (upd s 0 (mcode (!true) false false false)) 25 0 25 = 0 := pk_us
    generalize upd (upd s 0 (mcode (!true) false false false)) 25 0 = s2 at h2 hs2 hz0 hz25
    obtain ⟨k2, -⟩ := id h2
    refine v_aload_n i_M_start_29 rfl ?_
    refine v_iconst (v := 0) i_M_start_30 rfl ?_
    refine v_sipush (v := 256) i_M_start_31 rfl ?_
    refine v_aload_n i_M_start_34 rfl ?_
    refine v_get B i_M_start_35 (by first | assumption | exact qset_self _ _ _ | (rw [qset_ne _ _ (by omega)]; first | assumption | exact qset_self _ _ _ | (rw [qset_ne _ _ (by omega)]; first | assumption | exact qset_self _ _ _ | (rw [qset_ne _ _ (by omega)]; first | assumption | exact qset_self _ _ _ | (rw [qset_ne _ _ (by omega)]; first | assumption | exact qset_self _ _ _ | (rw [qset_ne _ _ (by omega)]; first | assumption | exact qset_self _ _ _ | (rw [qset_ne _ _ (by omega)]; first | assumption | exact qset_self _ _ _))))))) rfl ?_
    rw [hs2 11 (by decide), a1]
    refine v_inv B i_M_start_38 kn_m_M_copyPages (c_M_copyPages (T := 0) (S := 256) (n := madeK) B h2 (by omega) (by omega) (by omega)) k2 rfl rfl (Nat.le_of_ble_eq_true rfl) ⟨by decide, by decide, by first | decide | (simp; omega), by first | decide | (simp; omega)⟩ rfl (fun r X' hq => ?_) (fun _ _ h => False.elim h)
    obtain ⟨rfl, I3, J3, h3, hc3, hk3, hf3⟩ := hq
    obtain ⟨k3, -⟩ := id h3
    refine v_aload_n i_M_start_41 rfl ?_
    refine v_aload_n i_M_start_42 rfl ?_
    refine v_get B i_M_start_43 (by first | assumption | exact qset_self _ _ _ | (rw [qset_ne _ _ (by omega)]; first | assumption | exact qset_self _ _ _ | (rw [qset_ne _ _ (by omega)]; first | assumption | exact qset_self _ _ _ | (rw [qset_ne _ _ (by omega)]; first | assumption | exact qset_self _ _ _ | (rw [qset_ne _ _ (by omega)]; first | assumption | exact qset_self _ _ _ | (rw [qset_ne _ _ (by omega)]; first | assumption | exact qset_self _ _ _ | (rw [qset_ne _ _ (by omega)]; first | assumption | exact qset_self _ _ _))))))) rfl ?_
    rw [hs2 11 (by decide), a1]
    refine v_mput B h3 (j := 10) i_M_start_46 (Nat.le_of_ble_eq_true rfl) rfl rfl rfl (fun X4 h4 f4 => ?_)
    obtain ⟨k4, -⟩ := id h4
    refine v_aload_n i_M_start_49 rfl ?_
    refine v_aload_n i_M_start_50 rfl ?_
    refine v_get B i_M_start_51 (by first | assumption | exact qset_self _ _ _ | (rw [qset_ne _ _ (by omega)]; first | assumption | exact qset_self _ _ _ | (rw [qset_ne _ _ (by omega)]; first | assumption | exact qset_self _ _ _ | (rw [qset_ne _ _ (by omega)]; first | assumption | exact qset_self _ _ _ | (rw [qset_ne _ _ (by omega)]; first | assumption | exact qset_self _ _ _ | (rw [qset_ne _ _ (by omega)]; first | assumption | exact qset_self _ _ _ | (rw [qset_ne _ _ (by omega)]; first | assumption | exact qset_self _ _ _))))))) rfl ?_
    rw [pk_un (by decide), hs2 13 (by decide), b1]
    refine v_mput B h4 (j := 12) i_M_start_54 (Nat.le_of_ble_eq_true rfl) rfl rfl rfl (fun X5 h5 f5 => ?_)
    have hs5 : sK [0, 10, 12, 25] s (upd (upd s2 10 (nI madeK)) 12 (nI D.2.2.1)) := ((hs2.mono (by decide)).set (by decide)).set (by decide)
    have hz5 : upd (upd s2 10 (nI madeK)) 12 (nI D.2.2.1) 0 = 0 := by rw [pk_un (by decide), pk_un (by decide)]; exact hz0
    have hz5' : upd (upd s2 10 (nI madeK)) 12 (nI D.2.2.1) 25 = 0 := by rw [pk_un (by decide), pk_un (by decide)]; exact hz25
    have e10 : upd (upd s2 10 (nI madeK)) 12 (nI D.2.2.1) 10 = nI madeK := by rw [pk_un (by decide), pk_us]
    have e12 : upd (upd s2 10 (nI madeK)) 12 (nI D.2.2.1) 12 = nI D.2.2.1 := pk_us
    generalize upd (upd s2 10 (nI madeK)) 12 (nI D.2.2.1) = s5 at h5 hs5 hz5 hz5' e10 e12
    refine v_iconst (v := 0) i_M_start_57 rfl ?_
    refine v_istore_n i_M_start_58 (by decide) rfl ?_
    refine v_loc [(0, .ref m), (1, .int (nI 0))] rfl ?_
    refine c_M_start_d (X := X5) (I := I3) (J := J3) B (fun X6 I6 h6 ha6 hk6 hf6 => ?_) 256 0 X5 I3 (by omega) h5 (fun t ht => by omega) (mK.rf _ _ _) (qSame.rf _ _ _)
    have hk6' : mK [1, 2, 3, 4, 5, 6, 7, 8, 9] I J I6 J3 := (hk3.mono (by decide)).trans (hk6.mono (by decide))
    have hT6 : MT s5 I6 J3 pgK madeK D.2.2.1 (fun q => gchg (pgK q) D.2.2.1) ro D.2.2.1 := by
      refine ⟨e10, ⟨a2.1, a2.2, by omega, by omega⟩, e12, fun p hp => ?_, fun w hw => ?_, fun p hp => ?_⟩
      · have := hc3.page hp (a3 p hp)
        rw [Nat.zero_add] at this
        exact this.keep hk6 (by decide)
      · rw [(hk6' 10 (by decide)).1]; exact t5 w (by omega)
      · rw [ha6 p (by omega)]
        show (0 : Int32) = bI (gchg (pgK p) D.2.2.1)
        rw [hcl p hp]; rfl
    have hsn6 : ∀ p, p < madeK → mPg I6 J3 (256 + p) (pgK p) := fun p hp => (hc3.other (q := 256 + p) (by omega) (a3 p hp)).keep hk6 (by decide)
    refine v_iconst (v := 0) i_M_start_79 rfl ?_
    refine v_istore_n i_M_start_80 (by decide) rfl ?_
    refine v_loc [(0, .ref m), (1, .int (nI 0))] rfl ?_
    refine c_M_start_b (X := X6) (s := s5) (I := I6) (J := J3) (D := D) (pgK := pgK) (madeK := madeK) (ro := ro) (op := op) B (fun b hb => ?_) c1 (by rw [hs5 20 (by decide)]; exact b2) (by omega) hch (fun X7 s7 I7 J7 h7 hT7 hsn7 hk7 hs7 hf7 => ?_) (dgd D.1 D.1.length 0) 0 X6 s5 I6 J3 (by omega) h6 hT6 (mSn.rf _ _) (mK.rf _ _ _) (sK.rf _ _) (qSame.rf _ _ _)
    · rw [(hk6' 11 (by decide)).1, (hk6' 12 (by decide)).1, (hk6' 13 (by decide)).1, (hk6' 14 (by decide)).1, (hk6' 15 (by decide)).2]
      exact d b hb
    · obtain ⟨k7, -⟩ := id h7
      obtain ⟨-, sp2, -, -⟩ := dgd_spec D.1 D.1.length 0 (by omega)
      refine v_aload_n i_M_start_150 rfl ?_
      refine v_iload_n i_M_start_151 rfl ?_
      refine v_mput B h7 (j := 20) i_M_start_152 (Nat.le_of_ble_eq_true rfl) rfl rfl rfl (fun X8 h8 f8 => ?_)
      obtain ⟨k8, -⟩ := id h8
      refine v_aload_n i_M_start_155 rfl ?_
      refine v_get B i_M_start_156 (by first | assumption | exact qset_self _ _ _ | (rw [qset_ne _ _ (by omega)]; first | assumption | exact qset_self _ _ _ | (rw [qset_ne _ _ (by omega)]; first | assumption | exact qset_self _ _ _ | (rw [qset_ne _ _ (by omega)]; first | assumption | exact qset_self _ _ _ | (rw [qset_ne _ _ (by omega)]; first | assumption | exact qset_self _ _ _ | (rw [qset_ne _ _ (by omega)]; first | assumption | exact qset_self _ _ _ | (rw [qset_ne _ _ (by omega)]; first | assumption | exact qset_self _ _ _))))))) rfl ?_
      rw [pk_un (by decide), hT7.2.2.1, ← edl]
      rw [etT]
      refine v_iret i_M_start_159 rfl (by decide) (by decide) ⟨Or.inr ⟨rfl, rfl, _, I7, J7, h8, by rw [pk_un (by decide), hs7 0 (by decide)]; exact hz5, ?_, ?_⟩, ⟨_, rfl⟩, ((((((f1.trans f2).trans hf3).trans f4).trans f5).trans hf6).trans hf7).trans f8⟩
      · rw [edl]
        exact hT7.keep (mK.rf [] _ _) ((sK.rf [20] s7).set (by decide)) (by decide) (by decide)
      · have hlen := dup_len D
        refine ⟨⟨?_, a2, fun p hp => hsn7 _ _ (by omega) (by omega) (hsn6 p hp)⟩, ⟨?_, ?_, ?_, ?_, ?_, ?_⟩, ⟨by rw [hlen]; omega, fun t ht => (nomatch ht), Nat.le_refl _⟩, fun b hb => ?_, fun _ i hi => by omega⟩
        · rw [pk_un (by decide), hs7 11 (by decide), hs5 11 (by decide)]; exact a1
        · rw [pk_un (by decide), hs7 13 (by decide), hs5 13 (by decide)]; exact b1
        · rw [pk_us, hlen]
        · rw [pk_un (by decide), hs7 21 (by decide), hs5 21 (by decide), b3, Nat.sub_self]; rfl
        · rw [pk_un (by decide), hs7 25 (by decide), hz5']; rfl
        · rw [pk_un (by decide), hs7 26 (by decide), hs5 26 (by decide), b5]; rfl
        · rw [pk_un (by decide), hs7 27 (by decide), hs5 27 (by decide)]; exact b6
        · rw [hlen] at hb
          show I7 11 b = nI (lg (D.1.take (dgd D.1 D.1.length 0)) b).1 ∧ (lg (D.1.take (dgd D.1 D.1.length 0)) b).1 ≤ 4 ∧ I7 12 b = bI (lg (D.1.take (dgd D.1 D.1.length 0)) b).2 ∧ ∀ i, i < (lg (D.1.take (dgd D.1 D.1.length 0)) b).1 → mrc (I7 13 (4 * b + i)) (I7 14 (4 * b + i)) (J7 15 (4 * b + i)) (op (D.2.2.1 + dsn (D.1.take (dgd D.1 D.1.length 0)) b + i))
          rw [lg_take _ _ _ hb, dsn_take _ _ _ (by omega), (hk7 11 (by decide)).1, (hk7 12 (by decide)).1, (hk7 13 (by decide)).1, (hk7 14 (by decide)).1, (hk7 15 (by decide)).2, (hk6' 11 (by decide)).1, (hk6' 12 (by decide)).1, (hk6' 13 (by decide)).1, (hk6' 14 (by decide)).1, (hk6' 15 (by decide)).2]
          exact d b (by omega)
end MT2
