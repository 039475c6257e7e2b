/-! the reference: sync -/
theorem dsn_app (L : Lg) (x : Nat × Bool) : ∀ n, n ≤ L.length → dsn (L ++ [x]) n = dsn L n
  | 0, _ => rfl
  | n + 1, h => by rw [dsn, dsn, dsn_app L x n (by omega), lg_app, if_pos (by omega)]
theorem dsn_app1 (L : Lg) (x : Nat × Bool) : dsn (L ++ [x]) (L.length + 1) = dsn L L.length + x.1 := by
  rw [dsn, dsn_app L x _ (Nat.le_refl _), lg_app, if_neg (by omega), if_pos rfl]
/-- the log behind its end may be written -/
theorem MG.log {s : Nat → Int32} {I I' : Nat → Nat → Int32} {J J' : Nat → Nat → Int64} {pgK : Nat → Pg} {madeK : Nat} {D : Dk} {op : Nat → Int32 × Int64 × Bool} (h : MG s I J pgK madeK D op) (hk : mK [11, 12, 13, 14, 15] I J I' J') (h1 : ∀ x, x < D.1.length → I' 11 x = I 11 x ∧ I' 12 x = I 12 x) (h2 : ∀ y, y < 4 * D.1.length → I' 13 y = I 13 y ∧ I' 14 y = I 14 y ∧ J' 15 y = J 15 y) : MG s I' J' pgK madeK D op := by
  obtain ⟨⟨a1, a2, a3⟩, b, c, d⟩ := h
  refine ⟨⟨a1, a2, fun p hp => (a3 p hp).keep hk (by decide)⟩, b, c, fun x hx => ?_⟩
  obtain ⟨d1, d2, d3, d4⟩ := d x hx
  rw [(h1 x hx).1, (h1 x hx).2]
  refine ⟨d1, d2, d3, fun i hi => ?_⟩
  obtain ⟨e1, e2, e3⟩ := h2 (4 * x + i) (by omega)
  rw [e1, e2, e3]
  exact d4 i hi
/-- a block more -/
theorem MG.block {s : Nat → Int32} {I : Nat → Nat → Int32} {J : Nat → Nat → Int64} {pgK : Nat → Pg} {madeK : Nat} {D : Dk} {op : Nat → Int32 × Int64 × Bool} (h : MG s I J pgK madeK D op) {c : Nat} (hl : D.1.length < 40) (hc : c ≤ 4) (h11 : I 11 D.1.length = nI c) (h12 : I 12 D.1.length = 0) (hr : ∀ i, i < c → mrc (I 13 (4 * D.1.length + i)) (I 14 (4 * D.1.length + i)) (J 15 (4 * D.1.length + i)) (op (dlat D + i))) :
    MG (upd s 20 (nI (D.1.length + 1))) I J pgK madeK (D.1 ++ [(c, false)], D.2) op := by
  obtain ⟨⟨a1, a2, a3⟩, ⟨b1, b2, b4, b5, b6⟩, ⟨c1, c2⟩, d⟩ := h
  refine ⟨⟨by rw [pk_un (by decide)]; exact a1, a2, a3⟩, ⟨by rw [pk_un (by decide)]; exact b1, by rw [pk_us]; show _ = nI (D.1 ++ [(c, false)]).length; rw [List.length_append]; rfl, by rw [pk_un (by decide)]; exact b4, by rw [pk_un (by decide)]; exact b5, by rw [pk_un (by decide)]; exact b6⟩, ⟨by show (D.1 ++ [(c, false)]).length ≤ 40; rw [List.length_append, List.length_singleton]; omega, c2⟩, fun b hb => ?_⟩
  have hb' : b < D.1.length + 1 := by have : b < (D.1 ++ [(c, false)]).length := hb; rw [List.length_append, List.length_singleton] at this; exact this
  show I 11 b = nI (lg (D.1 ++ [(c, false)]) b).1 ∧ (lg (D.1 ++ [(c, false)]) b).1 ≤ 4 ∧ I 12 b = bI (lg (D.1 ++ [(c, false)]) b).2 ∧ ∀ i, i < (lg (D.1 ++ [(c, false)]) b).1 → mrc (I 13 (4 * b + i)) (I 14 (4 * b + i)) (J 15 (4 * b + i)) (op (D.2.2.1 + dsn (D.1 ++ [(c, false)]) b + i))
  rw [dsn_app _ _ _ (by omega)]
  by_cases q : b < D.1.length
  · rw [lg_app, if_pos q]; exact d b q
  · obtain rfl : b = D.1.length := by omega
    rw [lg_app, if_neg q, if_pos rfl]
    exact ⟨h11, hc, h12, hr⟩
section MY
variable {X X' : qX} {m : Nat} {s : Nat → Int32} {I : Nat → Nat → Int32} {J : Nat → Nat → Int64} {cd : Int32}
variable {pg : Nat → Pg} {made lat : Nat} {ro : Nat → Nat} {pgK : Nat → Pg} {madeK : Nat} {D : Dk} {op : Nat → Int32 × Int64 × Bool}
variable {l : Launch} {s0 : State} {C : qC}
/-- the records of one block -/
theorem c_M_sync_r (B : qB l s0 C) {L w a0 d0 : Nat} (z1 z4 : Int32) (hL : L < 40) (hw : w ≤ 5000) (e20 : s 20 = nI L) (hwt : ∀ i, i < w → mrc (I 16 i) (I 17 i) (J 18 i) (op (d0 + i))) (ha0 : a0 ≤ w) {Qp : Option Value → qX → Prop}
    (K : ∀ (X2 : qX) (I2 : Nat → Nat → Int32) (J2 : Nat → Nat → Int64) (c : Nat), MAt X2 m s I2 J2 → c = min 4 (w - a0) → I2 11 L = nI c → I2 12 L = 0 → (∀ i, i < c → mrc (I2 13 (4 * L + i)) (I2 14 (4 * L + i)) (J2 15 (4 * L + i)) (op (d0 + a0 + i))) → mK [11, 12, 13, 14, 15] I J I2 J2 → (∀ x, x < L → I2 11 x = I 11 x ∧ I2 12 x = I 12 x) → (∀ y, y < 4 * L → I2 13 y = I 13 y ∧ I2 14 y = I 14 y ∧ J2 15 y = J 15 y) → qSame X X2 m (m + 30) →
      qV l s0 C m_M_sync rm_M_sync Qp (fun _ _ => False) 0 0 X2 191 [(0, .ref m), (1, .int z1), (2, .int (nI (a0 + c))), (3, .int (nI w)), (4, .int z4)] []) :
    ∀ (j c : Nat) (z5 : List (Nat × Value)) (X' : qX) (I' : Nat → Nat → Int32) (J' : Nat → Nat → Int64), c + j = min 4 (w - a0) → MAt X' m s I' J' → I' 11 L = nI c → I' 12 L = 0 → (∀ i, i < c → mrc (I' 13 (4 * L + i)) (I' 14 (4 * L + i)) (J' 15 (4 * L + i)) (op (d0 + a0 + i))) → mK [11, 12, 13, 14, 15] I J I' J' → (∀ x, x < L → I' 11 x = I 11 x ∧ I' 12 x = I 12 x) → (∀ y, y < 4 * L → I' 13 y = I 13 y ∧ I' 14 y = I 14 y ∧ J' 15 y = J 15 y) → qSame X X' m (m + 30) →
      qV l s0 C m_M_sync rm_M_sync Qp (fun _ _ => False) 0 0 X' 97 [(0, .ref m), (1, .int z1), (2, .int (nI (a0 + c))), (3, .int (nI w)), (4, .int z4)] [] := by
  intro j
  induction j with
  | zero =>
    intro c z5 X' I' J' hj h h11 h12 hr hk hx hy hf
    have KK := K X' I' J' c h (by omega) h11 h12 hr hk hx hy hf
    obtain ⟨h0, a1, a2, a3, a4, a5, a6, a7, a8, a9, a10, a11, a12, a13, a14, a15, a16, a17, a18, a19, a20, a21, a22, a23, a24, a25, a26, a27, a28, a29⟩ := h.all
    refine v_aload_n i_M_sync_97 rfl ?_
    refine v_get B i_M_sync_98 (by first | assumption | exact qset_self _ _ _ | (rw [qset_ne _ _ (by omega)]; first | assumption | exact qset_self _ _ _ | (rw [qset_ne _ _ (by omega)]; first | assumption | exact qset_self _ _ _ | (rw [qset_ne _ _ (by omega)]; first | assumption | exact qset_self _ _ _ | (rw [qset_ne _ _ (by omega)]; first | assumption | exact qset_self _ _ _ | (rw [qset_ne _ _ (by omega)]; first | assumption | exact qset_self _ _ _ | (rw [qset_ne _ _ (by omega)]; first | assumption | exact qset_self _ _ _))))))) rfl ?_
    refine v_aload_n i_M_sync_101 rfl ?_
    refine v_get B i_M_sync_102 (by first | assumption | exact qset_self _ _ _ | (rw [qset_ne _ _ (by omega)]; first | assumption | exact qset_self _ _ _ | (rw [qset_ne _ _ (by omega)]; first | assumption | exact qset_self _ _ _ | (rw [qset_ne _ _ (by omega)]; first | assumption | exact qset_self _ _ _ | (rw [qset_ne _ _ (by omega)]; first | assumption | exact qset_self _ _ _ | (rw [qset_ne _ _ (by omega)]; first | assumption | exact qset_self _ _ _ | (rw [qset_ne _ _ (by omega)]; first | assumption | exact qset_self _ _ _))))))) rfl ?_
    rw [e20]
    refine v_iald (j := L) B a11 rfl (by omega) (by omega) i_M_sync_105 ?_
    rw [h11]
    refine v_iconst (v := 4) i_M_sync_106 rfl ?_
    refine v_icmp_ge (tgt := 191) i_M_sync_107 rfl (fun _ => KK) (fun q107 => ?_)
    have : ¬ 4 ≤ c := fun z => q107 (nI_le (a := 4) z (by omega))
    refine v_iload_n i_M_sync_110 rfl ?_
    refine v_iload_n i_M_sync_111 rfl ?_
    refine v_icmp_ge (tgt := 191) i_M_sync_112 rfl (fun _ => KK) (fun q112 => absurd (nI_le (by omega) (by omega)) q112)
  | succ j ih =>
    intro c z5 X' I' J' hj h h11 h12 hr hk hx hy hf
    have hc4 : c < 4 := by omega
    have hat : a0 + c < w := by omega
    obtain ⟨w1, w2, w3⟩ := hwt (a0 + c) hat
    obtain ⟨h0, a1, a2, a3, a4, a5, a6, a7, a8, a9, a10, a11, a12, a13, a14, a15, a16, a17, a18, a19, a20, a21, a22, a23, a24, a25, a26, a27, a28, a29⟩ := h.all
    refine v_aload_n i_M_sync_97 rfl ?_
    refine v_get B i_M_sync_98 (by first | assumption | exact qset_self _ _ _ | (rw [qset_ne _ _ (by omega)]; first | assumption | exact qset_self _ _ _ | (rw [qset_ne _ _ (by omega)]; first | assumption | exact qset_self _ _ _ | (rw [qset_ne _ _ (by omega)]; first | assumption | exact qset_self _ _ _ | (rw [qset_ne _ _ (by omega)]; first | assumption | exact qset_self _ _ _ | (rw [qset_ne _ _ (by omega)]; first | assumption | exact qset_self _ _ _ | (rw [qset_ne _ _ (by omega)]; first | assumption | exact qset_self _ _ _))))))) rfl ?_
    refine v_aload_n i_M_sync_101 rfl ?_
    refine v_get B i_M_sync_102 (by first | assumption | exact qset_self _ _ _ | (rw [qset_ne _ _ (by omega)]; first | assumption | exact qset_self _ _ _ | (rw [qset_ne _ _ (by omega)]; first | assumption | exact qset_self _ _ _ | (rw [qset_ne _ _ (by omega)]; first | assumption | exact qset_self _ _ _ | (rw [qset_ne _ _ (by omega)]; first | assumption | exact qset_self _ _ _ | (rw [qset_ne _ _ (by omega)]; first | assumption | exact qset_self _ _ _ | (rw [qset_ne _ _ (by omega)]; first | assumption | exact qset_self _ _ _))))))) rfl ?_
    rw [e20]
    refine v_iald (j := L) B a11 rfl (by omega) (by omega) i_M_sync_105 ?_
    rw [h11]
    refine v_iconst (v := 4) i_M_sync_106 rfl ?_
    refine v_icmp_ge (tgt := 191) i_M_sync_107 rfl (fun q => absurd q (nI_ge (b := 4) (by omega) (by omega))) (fun _ => ?_)
    refine v_iload_n i_M_sync_110 rfl ?_
    refine v_iload_n i_M_sync_111 rfl ?_
    refine v_icmp_ge (tgt := 191) i_M_sync_112 rfl (fun q => absurd q (nI_ge (by omega) (by omega))) (fun _ => ?_)
    refine v_iconst (v := 4) i_M_sync_115 rfl ?_
    refine v_aload_n i_M_sync_116 rfl ?_
    refine v_get B i_M_sync_117 (by first | assumption | exact qset_self _ _ _ | (rw [qset_ne _ _ (by omega)]; first | assumption | exact qset_self _ _ _ | (rw [qset_ne _ _ (by omega)]; first | assumption | exact qset_self _ _ _ | (rw [qset_ne _ _ (by omega)]; first | assumption | exact qset_self _ _ _ | (rw [qset_ne _ _ (by omega)]; first | assumption | exact qset_self _ _ _ | (rw [qset_ne _ _ (by omega)]; first | assumption | exact qset_self _ _ _ | (rw [qset_ne _ _ (by omega)]; first | assumption | exact qset_self _ _ _))))))) rfl ?_
    rw [e20]
    refine v_imul i_M_sync_120 ?_
    refine v_aload_n i_M_sync_121 rfl ?_
    refine v_get B i_M_sync_122 (by first | assumption | exact qset_self _ _ _ | (rw [qset_ne _ _ (by omega)]; first | assumption | exact qset_self _ _ _ | (rw [qset_ne _ _ (by omega)]; first | assumption | exact qset_self _ _ _ | (rw [qset_ne _ _ (by omega)]; first | assumption | exact qset_self _ _ _ | (rw [qset_ne _ _ (by omega)]; first | assumption | exact qset_self _ _ _ | (rw [qset_ne _ _ (by omega)]; first | assumption | exact qset_self _ _ _ | (rw [qset_ne _ _ (by omega)]; first | assumption | exact qset_self _ _ _))))))) rfl ?_
    refine v_aload_n i_M_sync_125 rfl ?_
    refine v_get B i_M_sync_126 (by first | assumption | exact qset_self _ _ _ | (rw [qset_ne _ _ (by omega)]; first | assumption | exact qset_self _ _ _ | (rw [qset_ne _ _ (by omega)]; first | assumption | exact qset_self _ _ _ | (rw [qset_ne _ _ (by omega)]; first | assumption | exact qset_self _ _ _ | (rw [qset_ne _ _ (by omega)]; first | assumption | exact qset_self _ _ _ | (rw [qset_ne _ _ (by omega)]; first | assumption | exact qset_self _ _ _ | (rw [qset_ne _ _ (by omega)]; first | assumption | exact qset_self _ _ _))))))) rfl ?_
    rw [e20]
    refine v_iald (j := L) B a11 rfl (by omega) (by omega) i_M_sync_129 ?_
    rw [h11, show (4 : Int32) * nI L = nI (4 * L) from nI_mul 4 L]
    refine v_iadd i_M_sync_130 ?_
    rw [nI_add]
    refine v_istore i_M_sync_131 (by decide) rfl ?_
    refine v_aload_n i_M_sync_133 rfl ?_
    refine v_get B i_M_sync_134 (by first | assumption | exact qset_self _ _ _ | (rw [qset_ne _ _ (by omega)]; first | assumption | exact qset_self _ _ _ | (rw [qset_ne _ _ (by omega)]; first | assumption | exact qset_self _ _ _ | (rw [qset_ne _ _ (by omega)]; first | assumption | exact qset_self _ _ _ | (rw [qset_ne _ _ (by omega)]; first | assumption | exact qset_self _ _ _ | (rw [qset_ne _ _ (by omega)]; first | assumption | exact qset_self _ _ _ | (rw [qset_ne _ _ (by omega)]; first | assumption | exact qset_self _ _ _))))))) rfl ?_
    refine v_iload i_M_sync_137 rfl ?_
    refine v_aload_n i_M_sync_139 rfl ?_
    refine v_get B i_M_sync_140 (by first | assumption | exact qset_self _ _ _ | (rw [qset_ne _ _ (by omega)]; first | assumption | exact qset_self _ _ _ | (rw [qset_ne _ _ (by omega)]; first | assumption | exact qset_self _ _ _ | (rw [qset_ne _ _ (by omega)]; first | assumption | exact qset_self _ _ _ | (rw [qset_ne _ _ (by omega)]; first | assumption | exact qset_self _ _ _ | (rw [qset_ne _ _ (by omega)]; first | assumption | exact qset_self _ _ _ | (rw [qset_ne _ _ (by omega)]; first | assumption | exact qset_self _ _ _))))))) rfl ?_
    refine v_iload_n i_M_sync_143 rfl ?_
    refine v_zald B (by first | assumption | exact qset_self _ _ _ | (rw [qset_ne _ _ (by omega)]; first | assumption | exact qset_self _ _ _ | (rw [qset_ne _ _ (by omega)]; first | assumption | exact qset_self _ _ _ | (rw [qset_ne _ _ (by omega)]; first | assumption | exact qset_self _ _ _ | (rw [qset_ne _ _ (by omega)]; first | assumption | exact qset_self _ _ _ | (rw [qset_ne _ _ (by omega)]; first | assumption | exact qset_self _ _ _ | (rw [qset_ne _ _ (by omega)]; first | assumption | exact qset_self _ _ _))))))) rfl (by omega) (by omega) i_M_sync_144 ?_
    rw [(hk 16 (by decide)).1, w1]
    refine v_mzst B h (a := 13) (N := 160) (j := 4 * L + c) rfl rfl (by decide) (by decide) (rfl) (by omega) (by omega) (by first | exact Or.inl rfl | exact Or.inr rfl | assumption | exact bI_01 _) i_M_sync_145 (fun X2 h2 f2 => ?_)
    obtain ⟨b0, b1, b2, b3, b4, b5, b6, b7, b8, b9, b10, b11, b12, b13, b14, b15, b16, b17, b18, -⟩ := h2.all
    refine v_aload_n i_M_sync_146 rfl ?_
    refine v_get B i_M_sync_147 (by first | assumption | exact qset_self _ _ _ | (rw [qset_ne _ _ (by omega)]; first | assumption | exact qset_self _ _ _ | (rw [qset_ne _ _ (by omega)]; first | assumption | exact qset_self _ _ _ | (rw [qset_ne _ _ (by omega)]; first | assumption | exact qset_self _ _ _ | (rw [qset_ne _ _ (by omega)]; first | assumption | exact qset_self _ _ _ | (rw [qset_ne _ _ (by omega)]; first | assumption | exact qset_self _ _ _ | (rw [qset_ne _ _ (by omega)]; first | assumption | exact qset_self _ _ _))))))) rfl ?_
    refine v_iload i_M_sync_150 rfl ?_
    refine v_aload_n i_M_sync_152 rfl ?_
    refine v_get B i_M_sync_153 (by first | assumption | exact qset_self _ _ _ | (rw [qset_ne _ _ (by omega)]; first | assumption | exact qset_self _ _ _ | (rw [qset_ne _ _ (by omega)]; first | assumption | exact qset_self _ _ _ | (rw [qset_ne _ _ (by omega)]; first | assumption | exact qset_self _ _ _ | (rw [qset_ne _ _ (by omega)]; first | assumption | exact qset_self _ _ _ | (rw [qset_ne _ _ (by omega)]; first | assumption | exact qset_self _ _ _ | (rw [qset_ne _ _ (by omega)]; first | assumption | exact qset_self _ _ _))))))) rfl ?_
    refine v_iload_n i_M_sync_156 rfl ?_
    refine v_iald B (by first | assumption | exact qset_self _ _ _ | (rw [qset_ne _ _ (by omega)]; first | assumption | exact qset_self _ _ _ | (rw [qset_ne _ _ (by omega)]; first | assumption | exact qset_self _ _ _ | (rw [qset_ne _ _ (by omega)]; first | assumption | exact qset_self _ _ _ | (rw [qset_ne _ _ (by omega)]; first | assumption | exact qset_self _ _ _ | (rw [qset_ne _ _ (by omega)]; first | assumption | exact qset_self _ _ _ | (rw [qset_ne _ _ (by omega)]; first | assumption | exact qset_self _ _ _))))))) rfl (by omega) (by omega) i_M_sync_157 ?_
    rw [mIu_ne (by decide), (hk 17 (by decide)).1, w2]
    refine v_mist B h2 (a := 14) (N := 160) (j := 4 * L + c) rfl rfl (by decide) (by decide) (rfl) (by omega) (by omega) i_M_sync_158 (fun X3 h3 f3 => ?_)
    obtain ⟨c0, c1, c2, c3, c4, c5, c6, c7, c8, c9, c10, c11, c12, c13, c14, c15, c16, c17, c18, -⟩ := h3.all
    refine v_aload_n i_M_sync_159 rfl ?_
    refine v_get B i_M_sync_160 (by first | assumption | exact qset_self _ _ _ | (rw [qset_ne _ _ (by omega)]; first | assumption | exact qset_self _ _ _ | (rw [qset_ne _ _ (by omega)]; first | assumption | exact qset_self _ _ _ | (rw [qset_ne _ _ (by omega)]; first | assumption | exact qset_self _ _ _ | (rw [qset_ne _ _ (by omega)]; first | assumption | exact qset_self _ _ _ | (rw [qset_ne _ _ (by omega)]; first | assumption | exact qset_self _ _ _ | (rw [qset_ne _ _ (by omega)]; first | assumption | exact qset_self _ _ _))))))) rfl ?_
    refine v_iload i_M_sync_163 rfl ?_
    refine v_aload_n i_M_sync_165 rfl ?_
    refine v_get B i_M_sync_166 (by first | assumption | exact qset_self _ _ _ | (rw [qset_ne _ _ (by omega)]; first | assumption | exact qset_self _ _ _ | (rw [qset_ne _ _ (by omega)]; first | assumption | exact qset_self _ _ _ | (rw [qset_ne _ _ (by omega)]; first | assumption | exact qset_self _ _ _ | (rw [qset_ne _ _ (by omega)]; first | assumption | exact qset_self _ _ _ | (rw [qset_ne _ _ (by omega)]; first | assumption | exact qset_self _ _ _ | (rw [qset_ne _ _ (by omega)]; first | assumption | exact qset_self _ _ _))))))) rfl ?_
    refine v_iload_n i_M_sync_169 rfl ?_
    refine v_lald B (by first | assumption | exact qset_self _ _ _ | (rw [qset_ne _ _ (by omega)]; first | assumption | exact qset_self _ _ _ | (rw [qset_ne _ _ (by omega)]; first | assumption | exact qset_self _ _ _ | (rw [qset_ne _ _ (by omega)]; first | assumption | exact qset_self _ _ _ | (rw [qset_ne _ _ (by omega)]; first | assumption | exact qset_self _ _ _ | (rw [qset_ne _ _ (by omega)]; first | assumption | exact qset_self _ _ _ | (rw [qset_ne _ _ (by omega)]; first | assumption | exact qset_self _ _ _))))))) rfl (by omega) (by omega) i_M_sync_170 ?_
    rw [(hk 18 (by decide)).2, w3]
    refine v_mlst B h3 (a := 15) (N := 160) (j := 4 * L + c) rfl rfl (by decide) (by decide) (rfl) (by omega) (by omega) i_M_sync_171 (fun X4 h4 f4 => ?_)
    obtain ⟨d0', d1, d2, d3, d4, d5, d6, d7, d8, d9, d10, d11, -⟩ := h4.all
    refine v_aload_n i_M_sync_172 rfl ?_
    refine v_get B i_M_sync_173 (by first | assumption | exact qset_self _ _ _ | (rw [qset_ne _ _ (by omega)]; first | assumption | exact qset_self _ _ _ | (rw [qset_ne _ _ (by omega)]; first | assumption | exact qset_self _ _ _ | (rw [qset_ne _ _ (by omega)]; first | assumption | exact qset_self _ _ _ | (rw [qset_ne _ _ (by omega)]; first | assumption | exact qset_self _ _ _ | (rw [qset_ne _ _ (by omega)]; first | assumption | exact qset_self _ _ _ | (rw [qset_ne _ _ (by omega)]; first | assumption | exact qset_self _ _ _))))))) rfl ?_
    refine v_aload_n i_M_sync_176 rfl ?_
    refine v_get B i_M_sync_177 (by first | assumption | exact qset_self _ _ _ | (rw [qset_ne _ _ (by omega)]; first | assumption | exact qset_self _ _ _ | (rw [qset_ne _ _ (by omega)]; first | assumption | exact qset_self _ _ _ | (rw [qset_ne _ _ (by omega)]; first | assumption | exact qset_self _ _ _ | (rw [qset_ne _ _ (by omega)]; first | assumption | exact qset_self _ _ _ | (rw [qset_ne _ _ (by omega)]; first | assumption | exact qset_self _ _ _ | (rw [qset_ne _ _ (by omega)]; first | assumption | exact qset_self _ _ _))))))) rfl ?_
    rw [e20]
    refine v_dup2 i_M_sync_180 rfl rfl ?_
    refine v_iald (j := L) B d11 rfl (by omega) (by omega) i_M_sync_181 ?_
    rw [mIu_ne (by decide), mIu_ne (by decide), h11]
    refine v_iconst (v := 1) i_M_sync_182 rfl ?_
    refine v_iadd i_M_sync_183 ?_
    rw [nI_1]
    refine v_mist B h4 (a := 11) (N := 40) (j := L) rfl rfl (by decide) (by decide) (rfl) (by omega) (by omega) i_M_sync_184 (fun X5 h5 f5 => ?_)
    refine v_iinc (v := nI (a0 + (c + 1))) i_M_sync_185 rfl (nI_1 _) (by decide) rfl ?_
    refine v_goto (tgt := 97) i_M_sync_188 rfl ?_
    refine v_loc [(0, .ref m), (1, .int z1), (2, .int (nI (a0 + (c + 1)))), (3, .int (nI w)), (4, .int z4)] rfl ?_
    refine ih (c + 1) [] X5 _ _ (by omega) h5 ?_ ?_ (fun i hi => ?_) ((((hk.int (by decide)).int (by decide)).long (by decide)).int (by decide)) (fun x hxl => ?_) (fun y hyl => ?_) ((((hf.trans f2).trans f3).trans f4).trans f5)
    · rw [mIu_self, pk_us]
    · rw [mIu_ne (by decide), mIu_ne (by decide), mIu_ne (by decide)]; exact h12
    · rw [mIu_ne (by decide), mIu_ne (by decide), mIu_self, mIu_ne (by decide), mIu_self, mIu_ne (by decide), mJu_self]
      by_cases q : i = c
      · subst q
        rw [pk_us, pk_us]
        refine ⟨?_, ?_, (if_pos rfl).trans ?_⟩
        · rw [show d0 + a0 + i = d0 + (a0 + i) by omega]
        · rw [show d0 + a0 + i = d0 + (a0 + i) by omega]
        · rw [show d0 + a0 + i = d0 + (a0 + i) by omega]
      · rw [pk_un (by omega), pk_un (by omega)]
        have := hr i (by omega)
        exact ⟨this.1, this.2.1, (if_neg (by omega)).trans this.2.2⟩
    · rw [mIu_self, pk_un (by omega), mIu_ne (by decide), mIu_ne (by decide), mIu_ne (by decide), mIu_ne (by decide), mIu_ne (by decide)]
      exact hx x hxl
    · rw [mIu_ne (by decide), mIu_ne (by decide), mIu_self, pk_un (by omega), mIu_ne (by decide), mIu_self, pk_un (by omega), mIu_ne (by decide), mJu_self]
      have := hy y hyl
      exact ⟨this.1, this.2.1, (if_neg (by omega)).trans this.2.2⟩
theorem c_M_sync_b (B : qB l s0 C) {w d0 N : Nat} (hw : w ≤ 5000) (hN : N = (w + 3) / 4) (hwt : ∀ i, i < w → mrc (I 16 i) (I 17 i) (J 18 i) (op (d0 + i))) {Qp : Option Value → qX → Prop}
    (Kt : ∀ (X2 : qX) (s2 : Nat → Int32) (I2 : Nat → Nat → Int32) (J2 : Nat → Nat → Int64), (dws w N 0 D).2.2.2.2.2 = false → (dws w N 0 D).1 = N → MAt X2 m s2 I2 J2 → MG s2 I2 J2 pgK madeK (dws w N 0 D).2 op → dlat (dws w N 0 D).2 = d0 + w → (dws w N 0 D).2.2.2.1 = D.2.2.1 → mK [11, 12, 13, 14, 15] I J I2 J2 → sK [20, 21, 25, 26, 27] s s2 → qSame X X2 m (m + 30) → qV l s0 C m_M_sync rm_M_sync Qp (fun _ _ => False) 0 0 X2 207 [(0, .ref m), (1, .int (nI N))] [])
    (Kf : ∀ (X2 : qX) (s2 : Nat → Int32) (I2 : Nat → Nat → Int32) (J2 : Nat → Nat → Int64), (dws w N 0 D).2.2.2.2.2 = true → MAt X2 m s2 I2 J2 → MG s2 I2 J2 pgK madeK (dws w N 0 D).2 op → dlat (dws w N 0 D).2 ≤ d0 + w → (dws w N 0 D).2.2.2.1 = D.2.2.1 → mK [11, 12, 13, 14, 15] I J I2 J2 → sK [0, 20, 21, 25, 26, 27] s s2 → s2 21 = 0 → s2 0 = 1 → qSame X X2 m (m + 30) → Qp (some (.int 0)) X2) :
    ∀ (j b : Nat) (D' : Dk) (X' : qX) (s' : Nat → Int32) (I' : Nat → Nat → Int32) (J' : Nat → Nat → Int64), b + j = N → D'.1.length + j ≤ 40 → MAt X' m s' I' J' → MG s' I' J' pgK madeK D' op → D'.2.2.2.2 = false → dlat D' = d0 + min (4 * b) w → D'.2.2.1 = D.2.2.1 → dws w N 0 D = dws w j b D' → mK [11, 12, 13, 14, 15] I J I' J' → sK [20, 21, 25, 26, 27] s s' → qSame X X' m (m + 30) →
      qV l s0 C m_M_sync rm_M_sync Qp (fun _ _ => False) 0 0 X' 57 [(0, .ref m), (1, .int (nI N)), (2, .int (nI (min (4 * b) w))), (3, .int (nI w)), (4, .int (nI b))] [] := by
  intro j
  induction j with
  | zero =>
    intro b D' X' s' I' J' hj hl h hG hd hdl hkp hw' hk hs hf
    refine v_iload i_M_sync_57 rfl ?_
    refine v_iload_n i_M_sync_59 rfl ?_
    refine v_icmp_ge (tgt := 207) i_M_sync_60 rfl (fun _ => ?_) (fun q => absurd (nI_le (by omega) (by omega)) q)
    have e : dws w N 0 D = (b, D') := hw'
    exact v_loc [(0, .ref m), (1, .int (nI N))] rfl (Kt X' s' I' J' (by rw [e]; exact hd) (by rw [e]; show b = N; omega) h (by rw [e]; exact hG) (by rw [e]; show dlat D' = _; rw [hdl]; omega) (by rw [e]; exact hkp) hk hs hf)
  | succ j ih =>
    intro b D' X' s' I' J' hj hl h hG hd hdl hkp hw' hk hs hf
    obtain ⟨h0, -⟩ := id h
    refine v_iload i_M_sync_57 rfl ?_
    refine v_iload_n i_M_sync_59 rfl ?_
    refine v_icmp_ge (tgt := 207) i_M_sync_60 rfl (fun q => absurd q (nI_ge (by omega) (by omega))) (fun _ => ?_)
    refine v_aload_n i_M_sync_63 rfl ?_
    refine v_inv B i_M_sync_64 kn_m_M_writes (c_M_writesG B h hG hd) h0 rfl rfl (Nat.le_of_ble_eq_true rfl) ⟨by decide, by decide, by first | decide | (simp; omega), by first | decide | (simp; omega)⟩ rfl (fun r X' hq => ?_) (fun _ _ h => False.elim h)
    obtain ⟨rfl, s2, h2, hG2, hs2, h21, h21', f2⟩ := hq
    obtain ⟨b0, -⟩ := id h2
    rcases dwr_cases D' with ⟨e1, e2⟩ | ⟨e1, e2⟩
    · rw [e2] at h21' hG2 ⊢
      have ew : dws w N 0 D = (b, D'.1, D'.2.1, D'.2.2.1, D'.2.2.2.1, true) := by rw [hw', dws, e2, if_neg (fun q => (nomatch q))]
      refine v_if_ne (tgt := 77) i_M_sync_67 rfl (fun q => absurd rfl q) (fun _ => ?_)
      refine v_aload_n i_M_sync_70 rfl ?_
      refine v_iconst (v := 1) i_M_sync_71 rfl ?_
      refine v_mput B h2 (j := 0) i_M_sync_72 (Nat.le_of_ble_eq_true rfl) rfl rfl rfl (fun X3 h3 f3 => ?_)
      refine v_iconst (v := 0) i_M_sync_75 rfl ?_
      refine v_iret i_M_sync_76 rfl (by decide) (by decide) (Kf X3 _ I' J' (by rw [ew]) h3 (by rw [ew]; exact hG2.keep (mSn.rf _ _) (mK.rf [] _ _) ((sK.rf [0] s2).set (by decide)) (by decide) (by decide)) (by rw [ew]; show dlat D' ≤ _; rw [hdl]; omega) (by rw [ew]; exact hkp) hk (((hs.trans (hs2.mono (by decide))).mono (by decide)).set (by decide)) (by rw [pk_un (by decide)]; exact h21' rfl) pk_us ((hf.trans f2).trans f3))
    · have e20 : s2 20 = nI D'.1.length := by rw [hG2.2.1.2.1, e2]
      rw [e2] at h21 hG2 ⊢
      refine v_if_ne (tgt := 77) i_M_sync_67 rfl (fun _ => ?_) (fun q => absurd q (show ¬ bI true = 0 by decide))
      refine v_aload_n i_M_sync_77 rfl ?_
      refine v_get B i_M_sync_78 (by first | assumption | exact qset_self _ _ _ | (rw [qset_ne _ _ (by omega)]; first | assumption | exact qset_self _ _ _ | (rw [qset_ne _ _ (by omega)]; first | assumption | exact qset_self _ _ _ | (rw [qset_ne _ _ (by omega)]; first | assumption | exact qset_self _ _ _ | (rw [qset_ne _ _ (by omega)]; first | assumption | exact qset_self _ _ _ | (rw [qset_ne _ _ (by omega)]; first | assumption | exact qset_self _ _ _ | (rw [qset_ne _ _ (by omega)]; first | assumption | exact qset_self _ _ _))))))) rfl ?_
      refine v_aload_n i_M_sync_81 rfl ?_
      refine v_get B i_M_sync_82 (by first | assumption | exact qset_self _ _ _ | (rw [qset_ne _ _ (by omega)]; first | assumption | exact qset_self _ _ _ | (rw [qset_ne _ _ (by omega)]; first | assumption | exact qset_self _ _ _ | (rw [qset_ne _ _ (by omega)]; first | assumption | exact qset_self _ _ _ | (rw [qset_ne _ _ (by omega)]; first | assumption | exact qset_self _ _ _ | (rw [qset_ne _ _ (by omega)]; first | assumption | exact qset_self _ _ _ | (rw [qset_ne _ _ (by omega)]; first | assumption | exact qset_self _ _ _))))))) rfl ?_
      refine v_iconst (v := 0) i_M_sync_85 rfl ?_
      rw [e20]
      refine v_mist B h2 (a := 11) (N := 40) (j := D'.1.length) rfl rfl (by decide) (by decide) (rfl) (by omega) (by omega) i_M_sync_86 (fun X3 h3 f3 => ?_)
      obtain ⟨c0, -⟩ := id h3
      refine v_aload_n i_M_sync_87 rfl ?_
      refine v_get B i_M_sync_88 (by first | assumption | exact qset_self _ _ _ | (rw [qset_ne _ _ (by omega)]; first | assumption | exact qset_self _ _ _ | (rw [qset_ne _ _ (by omega)]; first | assumption | exact qset_self _ _ _ | (rw [qset_ne _ _ (by omega)]; first | assumption | exact qset_self _ _ _ | (rw [qset_ne _ _ (by omega)]; first | assumption | exact qset_self _ _ _ | (rw [qset_ne _ _ (by omega)]; first | assumption | exact qset_self _ _ _ | (rw [qset_ne _ _ (by omega)]; first | assumption | exact qset_self _ _ _))))))) rfl ?_
      refine v_aload_n i_M_sync_91 rfl ?_
      refine v_get B i_M_sync_92 (by first | assumption | exact qset_self _ _ _ | (rw [qset_ne _ _ (by omega)]; first | assumption | exact qset_self _ _ _ | (rw [qset_ne _ _ (by omega)]; first | assumption | exact qset_self _ _ _ | (rw [qset_ne _ _ (by omega)]; first | assumption | exact qset_self _ _ _ | (rw [qset_ne _ _ (by omega)]; first | assumption | exact qset_self _ _ _ | (rw [qset_ne _ _ (by omega)]; first | assumption | exact qset_self _ _ _ | (rw [qset_ne _ _ (by omega)]; first | assumption | exact qset_self _ _ _))))))) rfl ?_
      refine v_iconst (v := 0) i_M_sync_95 rfl ?_
      rw [e20]
      refine v_mzst B h3 (a := 12) (N := 40) (j := D'.1.length) rfl rfl (by decide) (by decide) (rfl) (by omega) (by omega) (by first | exact Or.inl rfl | exact Or.inr rfl | assumption | exact bI_01 _) i_M_sync_96 (fun X4 h4 f4 => ?_)
      have hk4 : mK [11, 12, 13, 14, 15] I' J' (mIu (mIu I' 11 D'.1.length 0) 12 D'.1.length 0) J' := ((mK.rf _ _ _).int (by decide)).int (by decide)
      have hwt4 : ∀ i, i < w → mrc (mIu (mIu I' 11 D'.1.length 0) 12 D'.1.length 0 16 i) (mIu (mIu I' 11 D'.1.length 0) 12 D'.1.length 0 17 i) (J' 18 i) (op (d0 + i)) := fun i hi => by
        rw [(hk4 16 (by decide)).1, (hk4 17 (by decide)).1, (hk 16 (by decide)).1, (hk 17 (by decide)).1, (hk 18 (by decide)).2]; exact hwt i hi
      have hb4 : 4 * b < w := by omega
      have emin : min (4 * b) w = 4 * b := by omega
      rw [emin] at hdl ⊢
      refine v_loc [(0, .ref m), (1, .int (nI N)), (2, .int (nI (4 * b + 0))), (3, .int (nI w)), (4, .int (nI b))] rfl ?_
      refine c_M_sync_r (X := X4) (s := s2) (I := mIu (mIu I' 11 D'.1.length 0) 12 D'.1.length 0) (J := J') B (d0 := d0) (nI N) (nI b) (by omega) hw e20 hwt4 (by omega) (fun X5 I5 J5 c h5 hc h11 h12 hr hk5 hx hy hf5 => ?_) (min 4 (w - 4 * b)) 0 [] X4 _ _ (by omega) h4 ?_ ?_ (fun i hi => by omega) (mK.rf _ _ _) (fun _ _ => ⟨rfl, rfl⟩) (fun _ _ => ⟨rfl, rfl, rfl⟩) (qSame.rf _ _ _)
      · obtain ⟨x0, -⟩ := id h5
        refine v_aload_n i_M_sync_191 rfl ?_
        refine v_dup i_M_sync_192 rfl ?_
        refine v_get B i_M_sync_193 (by first | assumption | exact qset_self _ _ _ | (rw [qset_ne _ _ (by omega)]; first | assumption | exact qset_self _ _ _ | (rw [qset_ne _ _ (by omega)]; first | assumption | exact qset_self _ _ _ | (rw [qset_ne _ _ (by omega)]; first | assumption | exact qset_self _ _ _ | (rw [qset_ne _ _ (by omega)]; first | assumption | exact qset_self _ _ _ | (rw [qset_ne _ _ (by omega)]; first | assumption | exact qset_self _ _ _ | (rw [qset_ne _ _ (by omega)]; first | assumption | exact qset_self _ _ _))))))) rfl ?_
        refine v_iconst (v := 1) i_M_sync_196 rfl ?_
        refine v_iadd i_M_sync_197 ?_
        rw [e20, nI_1]
        refine v_mput B h5 (j := 20) i_M_sync_198 (Nat.le_of_ble_eq_true rfl) rfl rfl rfl (fun X6 h6 f6 => ?_)
        refine v_iinc (v := nI (b + 1)) i_M_sync_201 rfl (nI_1 _) (by decide) rfl ?_
        refine v_goto (tgt := 57) i_M_sync_204 rfl ?_
        have hc4 : c ≤ 4 := by omega
        have ec : nI (4 * b + c) = nI (min (4 * (b + 1)) w) := by rw [show 4 * b + c = min (4 * (b + 1)) w by omega]
        rw [ec]
        have hkk := hk.trans (hk4.trans hk5)
        have hG5 : MG s2 I5 J5 pgK madeK (D'.1, D'.2.1 + 1, D'.2.2.1, D'.2.2.2.1.map (fun t => t - 1), D'.2.2.2.2) op := by
          refine hG2.log (hk4.trans hk5) (fun x hx' => ?_) (fun y hy' => ?_)
          · have hx'' : x < D'.1.length := hx'
            have := hx x hx''
            rw [this.1, this.2, mIu_ne (by decide), mIu_self, pk_un (by omega), mIu_self, pk_un (by omega), mIu_ne (by decide)]
            exact ⟨rfl, rfl⟩
          · have hy'' : y < 4 * D'.1.length := hy'
            have := hy y hy''
            rw [this.1, this.2.1, this.2.2, mIu_ne (by decide), mIu_ne (by decide), mIu_ne (by decide), mIu_ne (by decide)]
            exact ⟨rfl, rfl, rfl⟩
        have hdl' : dlat (D'.1, D'.2.1 + 1, D'.2.2.1, D'.2.2.2.1.map (fun t => t - 1), D'.2.2.2.2) = d0 + 4 * b := hdl
        have hG6 := hG5.block (c := c) (by show D'.1.length < 40; omega) hc4 h11 h12 (fun i hi => by
          rw [hdl']
          exact hr i hi)
        refine v_loc [(0, .ref m), (1, .int (nI N)), (2, .int (nI (min (4 * (b + 1)) w))), (3, .int (nI w)), (4, .int (nI (b + 1)))] rfl ?_
        refine ih (b + 1) (D'.1 ++ [(c, false)], D'.2.1 + 1, D'.2.2.1, D'.2.2.2.1.map (fun t => t - 1), D'.2.2.2.2) X6 _ I5 J5 (by omega) (by show (D'.1 ++ [(c, false)]).length + j ≤ 40; rw [List.length_append, List.length_singleton]; omega) h6 hG6 hd ?_ hkp ?_ hkk ((hs.trans (hs2.mono (by decide))).set (by decide)) (((((hf.trans f2).trans f3).trans f4).trans hf5).trans f6)
        · show D'.2.2.1 + dsn (D'.1 ++ [(c, false)]) (D'.1 ++ [(c, false)]).length = d0 + min (4 * (b + 1)) w
          rw [List.length_append, List.length_singleton, dsn_app1]
          have : D'.2.2.1 + dsn D'.1 D'.1.length = d0 + 4 * b := hdl
          show D'.2.2.1 + (dsn D'.1 D'.1.length + c) = _
          omega
        · rw [hw', dws, e2, if_pos rfl, ← hc]
      · rw [mIu_ne (by decide), mIu_self, pk_us]; rfl
      · rw [mIu_self, pk_us]
theorem c_M_sync (B : qB l s0 C) (h : MR X m cd pg made lat ro pgK madeK D op) : qMet l s0 C m_M_sync rm_M_sync [.ref m] X (fun r X' => (D.2.2.2.2 = true ∧ MR X' m 1 pg made lat ro pgK madeK D op ∨ D.2.2.2.2 = false ∧ ¬ D.1.length + ((lat - dlat D) + 3) / 4 ≤ 40 ∧ MR X' m 2 pg made lat ro pgK madeK D op ∨ D.2.2.2.2 = false ∧ D.1.length + ((lat - dlat D) + 3) / 4 ≤ 40 ∧ (dws (lat - dlat D) (((lat - dlat D) + 3) / 4) 0 D).2.2.2.2.2 = true ∧ MR X' m 1 pg made lat ro pgK madeK (dws (lat - dlat D) (((lat - dlat D) + 3) / 4) 0 D).2 op ∨ D.2.2.2.2 = false ∧ D.1.length + ((lat - dlat D) + 3) / 4 ≤ 40 ∧ (dws (lat - dlat D) (((lat - dlat D) + 3) / 4) 0 D).2.2.2.2.2 = false ∧ r = some (.int (nI (dws (lat - dlat D) (((lat - dlat D) + 3) / 4) 0 D).1)) ∧ MR X' m 0 pg made lat ro pgK madeK (dws (lat - dlat D) (((lat - dlat D) + 3) / 4) 0 D).2 op) ∧ (∃ z, r = some (.int z)) ∧ qSame X X' m (m + 30)) (fun _ _ => False) := by
  obtain ⟨s, I, J, h, hcd, hT, hD⟩ := h
  obtain ⟨⟨a1, a2, a3⟩, ⟨b1, b2, b3, b4, b5, b6⟩, ⟨c1, c2, c3⟩, d, e⟩ := id hD
  obtain ⟨t1, ⟨t2, t2b, t2c, t2d⟩, t3, t4, t5, t6⟩ := id hT
  obtain ⟨h0, -⟩ := id h
  refine q_of (by decide +kernel) (Nat.le_of_ble_eq_true rfl) ?_
  refine v_L (L' := [(0, .ref m)]) rfl ?_
  refine v_aload_n i_M_sync_0 rfl ?_
  refine v_get B i_M_sync_1 (by first | assumption | exact qset_self _ _ _ | (rw [qset_ne _ _ (by omega)]; first | assumption | exact qset_self _ _ _ | (rw [qset_ne _ _ (by omega)]; first | assumption | exact qset_self _ _ _ | (rw [qset_ne _ _ (by omega)]; first | assumption | exact qset_self _ _ _ | (rw [qset_ne _ _ (by omega)]; first | assumption | exact qset_self _ _ _ | (rw [qset_ne _ _ (by omega)]; first | assumption | exact qset_self _ _ _ | (rw [qset_ne _ _ (by omega)]; first | assumption | exact qset_self _ _ _))))))) rfl ?_
  rw [b3]
  refine v_iconst (v := 3) i_M_sync_4 rfl ?_
  refine v_iadd i_M_sync_5 ?_
  refine v_iconst (v := 4) i_M_sync_6 rfl ?_
  refine v_idiv i_M_sync_7 (by decide) ?_
  generalize hww : (if D.2.2.2.2 = true then 0 else lat - dlat D) = w at b3 ⊢
  have hw : w < 4000 := by rw [← hww]; split <;> omega
  rw [show nI w + 3 = nI (w + 3) from nI_add w 3, show (4 : Int32) = nI 4 from rfl, pk_div (by omega) (by omega) (by omega)]
  have main : ∀ f : Bool, f = (!D.2.2.2.2 && decide (40 < D.1.length + (w + 3) / 4)) → qV l s0 C m_M_sync rm_M_sync (fun r X' => (D.2.2.2.2 = true ∧ MR X' m 1 pg made lat ro pgK madeK D op ∨ D.2.2.2.2 = false ∧ ¬ D.1.length + ((lat - dlat D) + 3) / 4 ≤ 40 ∧ MR X' m 2 pg made lat ro pgK madeK D op ∨ D.2.2.2.2 = false ∧ D.1.length + ((lat - dlat D) + 3) / 4 ≤ 40 ∧ (dws (lat - dlat D) (((lat - dlat D) + 3) / 4) 0 D).2.2.2.2.2 = true ∧ MR X' m 1 pg made lat ro pgK madeK (dws (lat - dlat D) (((lat - dlat D) + 3) / 4) 0 D).2 op ∨ D.2.2.2.2 = false ∧ D.1.length + ((lat - dlat D) + 3) / 4 ≤ 40 ∧ (dws (lat - dlat D) (((lat - dlat D) + 3) / 4) 0 D).2.2.2.2.2 = false ∧ r = some (.int (nI (dws (lat - dlat D) (((lat - dlat D) + 3) / 4) 0 D).1)) ∧ MR X' m 0 pg made lat ro pgK madeK (dws (lat - dlat D) (((lat - dlat D) + 3) / 4) 0 D).2 op) ∧ (∃ z, r = some (.int z)) ∧ qSame X X' m (m + 30)) (fun _ _ => False) 0 0 X 37 [(0, .ref m), (1, .int (nI ((w + 3) / 4)))] [.int (bI f), .int (bI D.2.2.2.2), .ref m] := by
    intro f hfe
    refine v_iconst (v := 0) i_M_sync_37 rfl ?_
    refine v_iconst (v := 0) i_M_sync_38 rfl ?_
    refine v_inv B i_M_sync_39 kn_m_M_fails (c_M_fails B h D.2.2.2.2 f false false) h0 rfl rfl (Nat.le_of_ble_eq_true rfl) ⟨by decide, by decide, by first | decide | (simp; omega), by first | decide | (simp; omega)⟩ rfl (fun r X' hq => ?_) (fun _ _ h => False.elim h)
    obtain ⟨rfl, h1, f1⟩ := hq
    have ho := mRO.of h1 f1
    cases hdn : D.2.2.2.2 with
    | true =>
      rw [hdn] at ho
      refine v_if_eq (tgt := 47) i_M_sync_42 rfl (fun q => absurd q (by simp [bI])) (fun _ => ?_)
      refine v_iconst (v := 0) i_M_sync_45 rfl ?_
      exact v_iret i_M_sync_46 rfl (by decide) (by decide) ⟨Or.inl ⟨rfl, MR.rd hT hD ho⟩, ⟨_, rfl⟩, f1⟩
    | false =>
      rw [hdn, if_neg (by decide)] at hww
      subst hww
      rw [hdn, Bool.not_false, Bool.true_and] at hfe
      rw [hdn] at ho h1
      by_cases hroom : 40 < D.1.length + (lat - dlat D + 3) / 4
      · rw [decide_eq_true hroom] at hfe
        subst hfe
        refine v_if_eq (tgt := 47) i_M_sync_42 rfl (fun q => absurd q (by decide)) (fun _ => ?_)
        refine v_iconst (v := 0) i_M_sync_45 rfl ?_
        exact v_iret i_M_sync_46 rfl (by decide) (by decide) ⟨Or.inr (Or.inl ⟨rfl, by omega, MR.rd hT hD ho⟩), ⟨_, rfl⟩, f1⟩
      · rw [decide_eq_false hroom] at hfe
        subst hfe
        refine v_if_eq (tgt := 47) i_M_sync_42 rfl (fun _ => ?_) (fun q => absurd rfl q)
        have hs1 : sK [0] s (upd s 0 (mcode false false false false)) := (sK.rf _ _).set (by decide)
        have hT1 := hT.keep (A := []) (mK.rf _ _ _) hs1 (by decide) (by decide)
        have hD1 := hD.keep (mSn.rf _ _) (mK.rf [] _ _) hs1 (by decide) (by decide)
        have hc1 : upd s 0 (mcode false false false false) 0 = 0 := by rw [pk_us]; rfl
        generalize upd s 0 (mcode false false false false) = s1 at h1 hs1 hT1 hD1 hc1
        obtain ⟨k0, -⟩ := id h1
        have e21 : s1 21 = nI (lat - dlat D) := by rw [hD1.2.1.2.2.1, hdn, if_neg (by decide)]
        refine v_iconst (v := 0) i_M_sync_47 rfl ?_
        refine v_istore_n i_M_sync_48 (by decide) rfl ?_
        refine v_aload_n i_M_sync_49 rfl ?_
        refine v_get B i_M_sync_50 (by first | assumption | exact qset_self _ _ _ | (rw [qset_ne _ _ (by omega)]; first | assumption | exact qset_self _ _ _ | (rw [qset_ne _ _ (by omega)]; first | assumption | exact qset_self _ _ _ | (rw [qset_ne _ _ (by omega)]; first | assumption | exact qset_self _ _ _ | (rw [qset_ne _ _ (by omega)]; first | assumption | exact qset_self _ _ _ | (rw [qset_ne _ _ (by omega)]; first | assumption | exact qset_self _ _ _ | (rw [qset_ne _ _ (by omega)]; first | assumption | exact qset_self _ _ _))))))) rfl ?_
        refine v_istore_n i_M_sync_53 (by decide) rfl ?_
        refine v_iconst (v := 0) i_M_sync_54 rfl ?_
        refine v_istore i_M_sync_55 (by decide) rfl ?_
        rw [e21]
        refine v_loc [(0, .ref m), (1, .int (nI ((lat - dlat D + 3) / 4))), (2, .int (nI (min (4 * 0) (lat - dlat D)))), (3, .int (nI (lat - dlat D))), (4, .int (nI 0))] (by rw [show min (4 * 0) (lat - dlat D) = 0 by omega]; rfl) ?_
        refine c_M_sync_b (X := X') (s := s1) (I := I) (J := J) (D := D) (pgK := pgK) (madeK := madeK) (op := op) B (w := lat - dlat D) (d0 := dlat D) (by omega) rfl (e hdn) (fun X2 s2 I2 J2 hf2 hn2 h2 hG2 hdl2 hkp2 hk2 hs2 hfr2 => ?_) (fun X2 s2 I2 J2 hf2 h2 hG2 hdl2 hkp2 hk2 hs2 h21 h20 hfr2 => ?_) ((lat - dlat D + 3) / 4) 0 D X' s1 I J (by omega) (by omega) h1 hD1.toG hdn (by rw [show min (4 * 0) (lat - dlat D) = 0 by omega]; rfl) rfl rfl (mK.rf _ _ _) (sK.rf _ _) (qSame.rf _ _ _)
        · refine v_aload_n i_M_sync_207 rfl ?_
          refine v_iconst (v := 0) i_M_sync_208 rfl ?_
          refine v_mput B h2 (j := 21) i_M_sync_209 (Nat.le_of_ble_eq_true rfl) rfl rfl rfl (fun X3 h3 f3 => ?_)
          refine v_iload_n i_M_sync_212 rfl ?_
          have hs3 : sK [20, 21, 25, 26, 27] s1 (upd s2 21 0) := hs2.set (by decide)
          have hG3 := hG2.keep (mSn.rf _ _) (mK.rf [] _ _) ((sK.rf [21] s2).set (j := 21) (x := 0) (by decide)) (by decide) (by decide)
          refine v_iret i_M_sync_213 rfl (by decide) (by decide) ⟨Or.inr (Or.inr (Or.inr ⟨rfl, by omega, hf2, by rw [hn2], _, I2, J2, h3, by rw [pk_un (by decide), hs2 0 (by decide)]; exact hc1, ?_, hG3.toD ?_ (by rw [hdl2]; omega) (fun _ i hi => ?_)⟩)), ⟨_, rfl⟩, (f1.trans hfr2).trans f3⟩
          · rw [hkp2]; exact hT1.keep hk2 hs3 (by decide) (by decide)
          · rw [pk_us, hdl2, show lat - (dlat D + (lat - dlat D)) = 0 by omega]; split <;> rfl
          · rw [hdl2] at hi; omega
        · refine ⟨Or.inr (Or.inr (Or.inl ⟨rfl, by omega, hf2, s2, I2, J2, h2, h20, ?_, hG2.toD ?_ (by omega) (fun q => by rw [hf2] at q; cases q)⟩)), ⟨_, rfl⟩, f1.trans hfr2⟩
          · rw [hkp2]; exact hT1.keep hk2 hs2 (by decide) (by decide)
          · rw [h21, hf2, if_pos rfl]; rfl
  refine v_istore_n i_M_sync_8 (by decide) rfl ?_
  refine v_aload_n i_M_sync_9 rfl ?_
  refine v_aload_n i_M_sync_10 rfl ?_
  refine v_get B i_M_sync_11 (by first | assumption | exact qset_self _ _ _ | (rw [qset_ne _ _ (by omega)]; first | assumption | exact qset_self _ _ _ | (rw [qset_ne _ _ (by omega)]; first | assumption | exact qset_self _ _ _ | (rw [qset_ne _ _ (by omega)]; first | assumption | exact qset_self _ _ _ | (rw [qset_ne _ _ (by omega)]; first | assumption | exact qset_self _ _ _ | (rw [qset_ne _ _ (by omega)]; first | assumption | exact qset_self _ _ _ | (rw [qset_ne _ _ (by omega)]; first | assumption | exact qset_self _ _ _))))))) rfl ?_
  refine v_aload_n i_M_sync_14 rfl ?_
  refine v_get B i_M_sync_15 (by first | assumption | exact qset_self _ _ _ | (rw [qset_ne _ _ (by omega)]; first | assumption | exact qset_self _ _ _ | (rw [qset_ne _ _ (by omega)]; first | assumption | exact qset_self _ _ _ | (rw [qset_ne _ _ (by omega)]; first | assumption | exact qset_self _ _ _ | (rw [qset_ne _ _ (by omega)]; first | assumption | exact qset_self _ _ _ | (rw [qset_ne _ _ (by omega)]; first | assumption | exact qset_self _ _ _ | (rw [qset_ne _ _ (by omega)]; first | assumption | exact qset_self _ _ _))))))) rfl ?_
  rw [b4]
  refine v_if_ne (tgt := 36) i_M_sync_18 rfl (fun q18 => ?_) (fun q18 => ?_)
  · have hdn := bI_ne q18
    refine v_iconst (v := 0) i_M_sync_36 rfl ?_
    exact v_loc [(0, .ref m), (1, .int (nI ((w + 3) / 4)))] rfl (main false (by rw [hdn]; rfl))
  · have hdn := bI_0.mp q18
    refine v_aload_n i_M_sync_21 rfl ?_
    refine v_get B i_M_sync_22 (by first | assumption | exact qset_self _ _ _ | (rw [qset_ne _ _ (by omega)]; first | assumption | exact qset_self _ _ _ | (rw [qset_ne _ _ (by omega)]; first | assumption | exact qset_self _ _ _ | (rw [qset_ne _ _ (by omega)]; first | assumption | exact qset_self _ _ _ | (rw [qset_ne _ _ (by omega)]; first | assumption | exact qset_self _ _ _ | (rw [qset_ne _ _ (by omega)]; first | assumption | exact qset_self _ _ _ | (rw [qset_ne _ _ (by omega)]; first | assumption | exact qset_self _ _ _))))))) rfl ?_
    refine v_iload_n i_M_sync_25 rfl ?_
    refine v_iadd i_M_sync_26 ?_
    rw [b2, nI_add]
    refine v_bipush (v := 40) i_M_sync_27 rfl ?_
    refine v_icmp_le (tgt := 36) i_M_sync_29 rfl (fun q29 => ?_) (fun q29 => ?_)
    · refine v_iconst (v := 0) i_M_sync_36 rfl ?_
      have q : D.1.length + (w + 3) / 4 ≤ 40 := (nI_leI (b := 40) (by omega) (by omega)).mp q29
      exact v_loc [(0, .ref m), (1, .int (nI ((w + 3) / 4)))] rfl (main false (by rw [decide_eq_false (by omega), Bool.and_false]))
    · refine v_iconst (v := 1) i_M_sync_32 rfl ?_
      refine v_goto (tgt := 37) i_M_sync_33 rfl ?_
      have q : ¬ D.1.length + (w + 3) / 4 ≤ 40 := fun z => q29 ((nI_leI (b := 40) (by omega) (by omega)).mpr z)
      exact v_loc [(0, .ref m), (1, .int (nI ((w + 3) / 4)))] rfl (main true (by rw [decide_eq_true (by omega), hdn]; rfl))
end MY
