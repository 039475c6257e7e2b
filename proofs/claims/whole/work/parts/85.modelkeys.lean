/-! the reference: all keys of a version -/
def mOne (s : Nat → Int32) (I : Nat → Nat → Int32) (J : Nat → Nat → Int64) (K : qRw) : Prop := s 39 = nI K.length ∧ K.length ≤ 4200 ∧ ∀ i, i < K.length → I 24 i = rk K i ∧ J 25 i = rv K i
theorem rk_app1 {A : qRw} {x : Int32 × Int64} {i : Nat} (h : i < A.length) : rk (A ++ [x]) i = rk A i ∧ rv (A ++ [x]) i = rv A i := by
  unfold rk rv
  rw [List.getD_eq_getElem?_getD, List.getD_eq_getElem?_getD, List.getElem?_append_left h]
  exact ⟨rfl, rfl⟩
theorem rk_app2 {A : qRw} {x : Int32 × Int64} : rk (A ++ [x]) A.length = x.1 ∧ rv (A ++ [x]) A.length = x.2 := by
  unfold rk rv
  rw [List.getD_eq_getElem?_getD, List.getElem?_append_right (Nat.le_refl _), Nat.sub_self]
  exact ⟨rfl, rfl⟩
theorem yWk_wo {V : yV} {made : Nat} (hm : made ≤ 256) : ∀ {l : Nat} {W : List Nat} {n : Nat}, yWo V made l W n → yWo V made 0 (yWk V l W) n ∧ (W ≠ [] → yWk V l W ≠ []) ∧ ((∀ c ∈ W, 3 ≤ (V c).2.2.length) ∨ 0 < l → ∀ c ∈ yWk V l W, 3 ≤ (V c).2.2.length)
  | 0, W, n, h => ⟨h, fun q => q, fun q => by rcases q with q | q; exact q; omega⟩
  | l + 1, W, n, h => by
    obtain ⟨s1, s2⟩ := yWo_step hm h
    obtain ⟨i1, i2, i3⟩ := yWk_wo hm s1
    refine ⟨i1, fun hW => i2 ?_, fun _ => i3 (Or.inl s2)⟩
    obtain ⟨p, t, rfl⟩ := List.exists_cons_of_ne_nil hW
    obtain ⟨a, b, n1, g1, g2, g3⟩ := yWo_mem h p List.mem_cons_self
    rw [List.flatMap_cons]
    intro q
    have q1 := (List.append_eq_nil_iff.mp q).1
    have q2 : (V p).2.2 = [] := by unfold yKid at q1; simpa using q1
    exact yNB_ne g3 g2.2 q2
/-- the leaves of a version -/
def yLvs (pg : Nat → Pg) (r v : Nat) : List Nat := yWk (yVw pg v) (pg r).1 [r]
theorem yLvs_spec {pg : Nat → Pg} {made r v : Nat} (hm : made ≤ 256) (h : yGd pg made r v) : (yLvs pg r v).flatMap (fun p => yal (pg p).2.2.2 v) = yKs pg r v ∧ (∀ c ∈ yLvs pg r v, c < made) ∧ (yLvs pg r v).length ≤ v + 1 := by
  obtain ⟨l, n, h1, h2, h3, h4, h5, h6⟩ := h
  have hwo : yWo (yVw pg v) made l [r] n := ⟨yMn, yMx, n, 0, h1, ⟨h2, by decide⟩, h5, rfl, rfl⟩
  have hk := yWk_wo hm hwo
  unfold yLvs yKs
  rw [h2]
  refine ⟨?_, fun c hc => ?_, ?_⟩
  · have := yWk_col (yVw pg v) l [r]
    rw [List.flatMap_singleton] at this
    exact this
  · obtain ⟨a, b, n1, g1, -⟩ := yWo_mem hk.1 c hc
    exact g1
  · rcases Nat.eq_zero_or_pos l with q | q
    · subst q; show [r].length ≤ v + 1; simp
    · have := yWo_len hk.1 (hk.2.2 (Or.inr q))
      omega
section MC2
variable {X X' : qX} {m : Nat} {s : Nat → Int32} {I : Nat → Nat → Int32} {J : Nat → Nat → Int64}
variable {pg : Nat → Pg} {made lat rb : Nat} {dt : Nat → Bool} {ro : Nat → Nat}
variable {l : Launch} {s0 : State} {C : qC}
theorem c_M_leaves (B : qB l s0 C) (h : MAt X m s I J) {v r : Nat} (hv : v < 4000) (hpg : ∀ p, p < made → mPg I J p (pg p)) (hm : made ≤ 256) (hr : I 10 v = nI r) (hg : yGd pg made r v) : qMet l s0 C m_M_leaves rm_M_leaves [.ref m, .int (nI v)] X (fun z X' => z = some (.int (nI (yLvs pg r v).length)) ∧ ∃ s' I' J', MAt X' m s' I' J' ∧ mArr (I' 28) (yLvs pg r v) ∧ mK [21, 22, 28, 29] I J I' J' ∧ sK [28, 29, 33] s s' ∧ qSame X X' m (m + 30)) (fun _ _ => False) := by
  have hls := yLvs_spec hm hg
  obtain ⟨lv, n, h1, h2, h3, h4, h5, h6⟩ := hg
  have hwo : yWo (yVw pg v) made lv [r] n := ⟨yMn, yMx, n, 0, h1, ⟨h2, by decide⟩, h5, rfl, rfl⟩
  obtain ⟨h0, a1, a2, a3, a4, a5, a6, a7, a8, a9, a10, a11, a12, a13, a14, a15, a16, a17, a18, a19, a20, a21, a22, a23, a24, a25, a26, a27, a28, a29⟩ := h.all
  refine q_of (by decide +kernel) (Nat.le_of_ble_eq_true rfl) ?_
  refine v_L (L' := [(0, .ref m), (1, .int (nI v))]) rfl ?_
  refine v_iconst (v := 1) i_M_leaves_0 rfl ?_
  refine v_istore_n i_M_leaves_1 (by decide) rfl ?_
  refine v_aload_n i_M_leaves_2 rfl ?_
  refine v_get B i_M_leaves_3 (by first | assumption | exact qset_self _ _ _ | (rw [qset_ne _ _ (by omega)]; first | assumption | exact qset_self _ _ _ | (rw [qset_ne _ _ (by omega)]; first | assumption | exact qset_self _ _ _ | (rw [qset_ne _ _ (by omega)]; first | assumption | exact qset_self _ _ _ | (rw [qset_ne _ _ (by omega)]; first | assumption | exact qset_self _ _ _ | (rw [qset_ne _ _ (by omega)]; first | assumption | exact qset_self _ _ _ | (rw [qset_ne _ _ (by omega)]; first | assumption | exact qset_self _ _ _))))))) rfl ?_
  refine v_iconst (v := 0) i_M_leaves_6 rfl ?_
  refine v_aload_n i_M_leaves_7 rfl ?_
  refine v_get B i_M_leaves_8 (by first | assumption | exact qset_self _ _ _ | (rw [qset_ne _ _ (by omega)]; first | assumption | exact qset_self _ _ _ | (rw [qset_ne _ _ (by omega)]; first | assumption | exact qset_self _ _ _ | (rw [qset_ne _ _ (by omega)]; first | assumption | exact qset_self _ _ _ | (rw [qset_ne _ _ (by omega)]; first | assumption | exact qset_self _ _ _ | (rw [qset_ne _ _ (by omega)]; first | assumption | exact qset_self _ _ _ | (rw [qset_ne _ _ (by omega)]; first | assumption | exact qset_self _ _ _))))))) rfl ?_
  refine v_iload_n i_M_leaves_11 rfl ?_
  refine v_iald B (by first | assumption | exact qset_self _ _ _ | (rw [qset_ne _ _ (by omega)]; first | assumption | exact qset_self _ _ _ | (rw [qset_ne _ _ (by omega)]; first | assumption | exact qset_self _ _ _ | (rw [qset_ne _ _ (by omega)]; first | assumption | exact qset_self _ _ _ | (rw [qset_ne _ _ (by omega)]; first | assumption | exact qset_self _ _ _ | (rw [qset_ne _ _ (by omega)]; first | assumption | exact qset_self _ _ _ | (rw [qset_ne _ _ (by omega)]; first | assumption | exact qset_self _ _ _))))))) rfl (by omega) (by omega) i_M_leaves_12 ?_
  rw [hr]
  refine v_mist B h (a := 28) (N := 4200) (j := 0) rfl rfl (by decide) (by decide) (rfl) (by omega) (by omega) i_M_leaves_13 (fun X1 g1 f1 => ?_)
  have e : yLvs pg r v = yWk (yVw pg v) lv [r] := by unfold yLvs; rw [h2]
  rw [e] at hls ⊢
  refine v_loc [(0, .ref m), (1, .int (nI v)), (2, .int (nI [r].length))] rfl ?_
  refine c_M_leaves_l (s := s) (I := I) (J := J) (X := X) B (by omega) hpg hm n (by omega) lv [r] X1 s _ J (List.cons_ne_nil _ _) (by simp) hwo hls.2.1 g1 ?_ ((mK.rf _ _ _).int (by decide)) (sK.rf _ _) f1
  intro i hi
  have hi0 : i = 0 := by simp at hi; omega
  subst hi0
  rw [mIu_self, pk_us]; rfl
theorem c_M_collect_k (B : qB l s0 C) (Lp : qRw) (z1 z2 z3 : Int32) (base : qRw) (hb : base.length + Lp.length ≤ 4200) {Qp : Option Value → qX → Prop}
    (K : ∀ (X2 : qX) (s2 : Nat → Int32) (I2 : Nat → Nat → Int32) (J2 : Nat → Nat → Int64), MAt X2 m s2 I2 J2 → mOne s2 I2 J2 (base ++ Lp) → mK [24, 25] I J I2 J2 → sK [39] s s2 → qSame X X2 m (m + 30) → qV l s0 C m_M_collect rm_M_collect Qp (fun _ _ => False) 0 0 X2 104 [(0, .ref m), (1, .int z1), (2, .int z2), (3, .int z3)] []) :
    ∀ (j q : Nat) (X' : qX) (s' : Nat → Int32) (I' : Nat → Nat → Int32) (J' : Nat → Nat → Int64), q + j = Lp.length → MAt X' m s' I' J' → mRw s' I' J' Lp → mOne s' I' J' (base ++ Lp.take q) → mK [24, 25] I J I' J' → sK [39] s s' → qSame X X' m (m + 30) →
      qV l s0 C m_M_collect rm_M_collect Qp (fun _ _ => False) 0 0 X' 47 [(0, .ref m), (1, .int z1), (2, .int z2), (3, .int z3), (4, .int (nI q))] [] := by
  intro j
  induction j with
  | zero =>
    intro q X' s' I' J' hj h hR ho hk hs hf
    obtain ⟨r1, r2, r3⟩ := id hR
    obtain ⟨h0, -⟩ := id h
    have hq : q = Lp.length := by omega
    refine v_iload i_M_collect_47 rfl ?_
    refine v_aload_n i_M_collect_49 rfl ?_
    refine v_get B i_M_collect_50 (by first | assumption | exact qset_self _ _ _ | (rw [qset_ne _ _ (by omega)]; first | assumption | exact qset_self _ _ _ | (rw [qset_ne _ _ (by omega)]; first | assumption | exact qset_self _ _ _ | (rw [qset_ne _ _ (by omega)]; first | assumption | exact qset_self _ _ _ | (rw [qset_ne _ _ (by omega)]; first | assumption | exact qset_self _ _ _ | (rw [qset_ne _ _ (by omega)]; first | assumption | exact qset_self _ _ _ | (rw [qset_ne _ _ (by omega)]; first | assumption | exact qset_self _ _ _))))))) rfl ?_
    rw [r1]
    refine v_icmp_ge (tgt := 104) i_M_collect_53 rfl (fun _ => ?_) (fun q53 => absurd (nI_le (by omega) (by omega)) q53)
    rw [hq, List.take_length] at ho
    exact v_loc [(0, .ref m), (1, .int z1), (2, .int z2), (3, .int z3)] rfl (K X' s' I' J' h ho hk hs hf)
  | succ j ih =>
    intro q X' s' I' J' hj h hR ho hk hs hf
    obtain ⟨r1, r2, r3⟩ := id hR
    obtain ⟨o1, o2, o3⟩ := id ho
    obtain ⟨h0, a1, a2, a3, a4, a5, a6, a7, a8, a9, a10, a11, a12, a13, a14, a15, a16, a17, a18, a19, a20, a21, a22, a23, a24, a25, a26, a27, a28, a29⟩ := h.all
    have hq : q < Lp.length := by omega
    have hbl : (base ++ Lp.take q).length = base.length + q := by rw [List.length_append, List.length_take]; omega
    rw [hbl] at o1
    have e2 : (rk Lp q, rv Lp q) = Lp[q] := by
      unfold rk rv
      rw [List.getD_eq_getElem?_getD, List.getElem?_eq_getElem hq]
      rfl
    refine v_iload i_M_collect_47 rfl ?_
    refine v_aload_n i_M_collect_49 rfl ?_
    refine v_get B i_M_collect_50 (by first | assumption | exact qset_self _ _ _ | (rw [qset_ne _ _ (by omega)]; first | assumption | exact qset_self _ _ _ | (rw [qset_ne _ _ (by omega)]; first | assumption | exact qset_self _ _ _ | (rw [qset_ne _ _ (by omega)]; first | assumption | exact qset_self _ _ _ | (rw [qset_ne _ _ (by omega)]; first | assumption | exact qset_self _ _ _ | (rw [qset_ne _ _ (by omega)]; first | assumption | exact qset_self _ _ _ | (rw [qset_ne _ _ (by omega)]; first | assumption | exact qset_self _ _ _))))))) rfl ?_
    rw [r1]
    refine v_icmp_ge (tgt := 104) i_M_collect_53 rfl (fun q53 => absurd q53 (nI_ge (by omega) (by omega))) (fun _ => ?_)
    refine v_aload_n i_M_collect_56 rfl ?_
    refine v_get B i_M_collect_57 (by first | assumption | exact qset_self _ _ _ | (rw [qset_ne _ _ (by omega)]; first | assumption | exact qset_self _ _ _ | (rw [qset_ne _ _ (by omega)]; first | assumption | exact qset_self _ _ _ | (rw [qset_ne _ _ (by omega)]; first | assumption | exact qset_self _ _ _ | (rw [qset_ne _ _ (by omega)]; first | assumption | exact qset_self _ _ _ | (rw [qset_ne _ _ (by omega)]; first | assumption | exact qset_self _ _ _ | (rw [qset_ne _ _ (by omega)]; first | assumption | exact qset_self _ _ _))))))) rfl ?_
    refine v_aload_n i_M_collect_60 rfl ?_
    refine v_get B i_M_collect_61 (by first | assumption | exact qset_self _ _ _ | (rw [qset_ne _ _ (by omega)]; first | assumption | exact qset_self _ _ _ | (rw [qset_ne _ _ (by omega)]; first | assumption | exact qset_self _ _ _ | (rw [qset_ne _ _ (by omega)]; first | assumption | exact qset_self _ _ _ | (rw [qset_ne _ _ (by omega)]; first | assumption | exact qset_self _ _ _ | (rw [qset_ne _ _ (by omega)]; first | assumption | exact qset_self _ _ _ | (rw [qset_ne _ _ (by omega)]; first | assumption | exact qset_self _ _ _))))))) rfl ?_
    refine v_aload_n i_M_collect_64 rfl ?_
    refine v_get B i_M_collect_65 (by first | assumption | exact qset_self _ _ _ | (rw [qset_ne _ _ (by omega)]; first | assumption | exact qset_self _ _ _ | (rw [qset_ne _ _ (by omega)]; first | assumption | exact qset_self _ _ _ | (rw [qset_ne _ _ (by omega)]; first | assumption | exact qset_self _ _ _ | (rw [qset_ne _ _ (by omega)]; first | assumption | exact qset_self _ _ _ | (rw [qset_ne _ _ (by omega)]; first | assumption | exact qset_self _ _ _ | (rw [qset_ne _ _ (by omega)]; first | assumption | exact qset_self _ _ _))))))) rfl ?_
    refine v_iload i_M_collect_68 rfl ?_
    refine v_iald B (by first | assumption | exact qset_self _ _ _ | (rw [qset_ne _ _ (by omega)]; first | assumption | exact qset_self _ _ _ | (rw [qset_ne _ _ (by omega)]; first | assumption | exact qset_self _ _ _ | (rw [qset_ne _ _ (by omega)]; first | assumption | exact qset_self _ _ _ | (rw [qset_ne _ _ (by omega)]; first | assumption | exact qset_self _ _ _ | (rw [qset_ne _ _ (by omega)]; first | assumption | exact qset_self _ _ _ | (rw [qset_ne _ _ (by omega)]; first | assumption | exact qset_self _ _ _))))))) rfl (by omega) (by omega) i_M_collect_70 ?_
    rw [o1, (r3 q hq).1]
    refine v_mist B h (a := 24) (N := 4200) (j := base.length + q) rfl rfl (by decide) (by decide) (rfl) (by omega) (by omega) i_M_collect_71 (fun X2 h2 f2 => ?_)
    obtain ⟨b0, b1, b2, b3, b4, b5, b6, b7, b8, b9, b10, b11, b12, b13, b14, b15, b16, b17, b18, b19, b20, b21, b22, b23, b24, b25, -⟩ := h2.all
    refine v_aload_n i_M_collect_72 rfl ?_
    refine v_get B i_M_collect_73 (by first | assumption | exact qset_self _ _ _ | (rw [qset_ne _ _ (by omega)]; first | assumption | exact qset_self _ _ _ | (rw [qset_ne _ _ (by omega)]; first | assumption | exact qset_self _ _ _ | (rw [qset_ne _ _ (by omega)]; first | assumption | exact qset_self _ _ _ | (rw [qset_ne _ _ (by omega)]; first | assumption | exact qset_self _ _ _ | (rw [qset_ne _ _ (by omega)]; first | assumption | exact qset_self _ _ _ | (rw [qset_ne _ _ (by omega)]; first | assumption | exact qset_self _ _ _))))))) rfl ?_
    refine v_aload_n i_M_collect_76 rfl ?_
    refine v_get B i_M_collect_77 (by first | assumption | exact qset_self _ _ _ | (rw [qset_ne _ _ (by omega)]; first | assumption | exact qset_self _ _ _ | (rw [qset_ne _ _ (by omega)]; first | assumption | exact qset_self _ _ _ | (rw [qset_ne _ _ (by omega)]; first | assumption | exact qset_self _ _ _ | (rw [qset_ne _ _ (by omega)]; first | assumption | exact qset_self _ _ _ | (rw [qset_ne _ _ (by omega)]; first | assumption | exact qset_self _ _ _ | (rw [qset_ne _ _ (by omega)]; first | assumption | exact qset_self _ _ _))))))) rfl ?_
    refine v_aload_n i_M_collect_80 rfl ?_
    refine v_get B i_M_collect_81 (by first | assumption | exact qset_self _ _ _ | (rw [qset_ne _ _ (by omega)]; first | assumption | exact qset_self _ _ _ | (rw [qset_ne _ _ (by omega)]; first | assumption | exact qset_self _ _ _ | (rw [qset_ne _ _ (by omega)]; first | assumption | exact qset_self _ _ _ | (rw [qset_ne _ _ (by omega)]; first | assumption | exact qset_self _ _ _ | (rw [qset_ne _ _ (by omega)]; first | assumption | exact qset_self _ _ _ | (rw [qset_ne _ _ (by omega)]; first | assumption | exact qset_self _ _ _))))))) rfl ?_
    refine v_iload i_M_collect_84 rfl ?_
    refine v_lald B (by first | assumption | exact qset_self _ _ _ | (rw [qset_ne _ _ (by omega)]; first | assumption | exact qset_self _ _ _ | (rw [qset_ne _ _ (by omega)]; first | assumption | exact qset_self _ _ _ | (rw [qset_ne _ _ (by omega)]; first | assumption | exact qset_self _ _ _ | (rw [qset_ne _ _ (by omega)]; first | assumption | exact qset_self _ _ _ | (rw [qset_ne _ _ (by omega)]; first | assumption | exact qset_self _ _ _ | (rw [qset_ne _ _ (by omega)]; first | assumption | exact qset_self _ _ _))))))) rfl (by omega) (by omega) i_M_collect_86 ?_
    rw [o1, (r3 q hq).2]
    refine v_mlst B h2 (a := 25) (N := 4200) (j := base.length + q) rfl rfl (by decide) (by decide) (rfl) (by omega) (by omega) i_M_collect_87 (fun X3 h3 f3 => ?_)
    obtain ⟨c0, -⟩ := id h3
    refine v_aload_n i_M_collect_88 rfl ?_
    refine v_dup i_M_collect_89 rfl ?_
    refine v_get B i_M_collect_90 (by first | assumption | exact qset_self _ _ _ | (rw [qset_ne _ _ (by omega)]; first | assumption | exact qset_self _ _ _ | (rw [qset_ne _ _ (by omega)]; first | assumption | exact qset_self _ _ _ | (rw [qset_ne _ _ (by omega)]; first | assumption | exact qset_self _ _ _ | (rw [qset_ne _ _ (by omega)]; first | assumption | exact qset_self _ _ _ | (rw [qset_ne _ _ (by omega)]; first | assumption | exact qset_self _ _ _ | (rw [qset_ne _ _ (by omega)]; first | assumption | exact qset_self _ _ _))))))) rfl ?_
    refine v_iconst (v := 1) i_M_collect_93 rfl ?_
    refine v_iadd i_M_collect_94 ?_
    rw [o1, nI_1]
    refine v_mput B h3 (j := 39) i_M_collect_95 (Nat.le_of_ble_eq_true rfl) rfl rfl rfl (fun X4 h4 f4 => ?_)
    refine v_iinc (v := nI (q + 1)) i_M_collect_98 rfl (nI_1 _) (by decide) rfl ?_
    refine v_goto (tgt := 47) i_M_collect_101 rfl ?_
    have hk4 : mK [24, 25] I' J' (mIu I' 24 (base.length + q) (rk Lp q)) (mJu J' 25 (base.length + q) (rv Lp q)) := ((mK.rf _ _ _).int (by decide)).long (by decide)
    refine v_loc [(0, .ref m), (1, .int z1), (2, .int z2), (3, .int z3), (4, .int (nI (q + 1)))] rfl ?_
    refine ih (q + 1) X4 _ _ _ (by omega) h4 ⟨by rw [pk_un (by decide)]; exact r1, r2, fun i hi => by rw [(hk4 21 (by decide)).1, (hk4 22 (by decide)).2]; exact r3 i hi⟩ ?_ (hk.trans hk4) (hs.set (by decide)) (((hf.trans f2).trans f3).trans f4)
    have htk : base ++ Lp.take (q + 1) = (base ++ Lp.take q) ++ [Lp[q]] := by rw [List.take_succ_eq_append_getElem hq, List.append_assoc]
    rw [htk]
    refine ⟨by rw [pk_us, List.length_append, hbl]; rfl, by rw [List.length_append, hbl, List.length_singleton]; omega, fun i hi => ?_⟩
    rw [List.length_append, hbl, List.length_singleton] at hi
    rw [mIu_self, mJu_self]
    by_cases hiq : i = base.length + q
    · subst hiq
      have := rk_app2 (A := base ++ Lp.take q) (x := Lp[q])
      rw [hbl] at this
      rw [pk_us, this.1, this.2, ← e2]
      exact ⟨rfl, if_pos rfl⟩
    · have := rk_app1 (A := base ++ Lp.take q) (x := Lp[q]) (i := i) (by omega)
      have o3' := o3 i (by omega)
      rw [pk_un hiq, this.1, this.2]
      exact ⟨o3'.1, (if_neg hiq).trans o3'.2⟩
theorem c_M_collect_i (B : qB l s0 C) {v : Nat} (hv : v < 2 ^ 30) (hpg : ∀ p, p < made → mPg I J p (pg p)) (hm : made ≤ 256) (W : List Nat) (hW : ∀ p ∈ W, p < made) (hA : mArr (I 28) W) (hWl : W.length ≤ 4200) (hb : (W.flatMap (fun p => yal (pg p).2.2.2 v)).length ≤ 4200) {Qp : Option Value → qX → Prop}
    (K : ∀ (X2 : qX) (s2 : Nat → Int32) (I2 : Nat → Nat → Int32) (J2 : Nat → Nat → Int64), MAt X2 m s2 I2 J2 → mOne s2 I2 J2 (W.flatMap (fun p => yal (pg p).2.2.2 v)) → mK [21, 22, 24, 25] I J I2 J2 → sK [28, 29, 33, 39] s s2 → qSame X X2 m (m + 30) → qV l s0 C m_M_collect rm_M_collect Qp (fun _ _ => False) 0 0 X2 110 [(0, .ref m), (1, .int (nI v)), (2, .int (nI W.length))] []) :
    ∀ (j i : Nat) (X' : qX) (s' : Nat → Int32) (I' : Nat → Nat → Int32) (J' : Nat → Nat → Int64), i + j = W.length → MAt X' m s' I' J' → mOne s' I' J' ((W.take i).flatMap (fun p => yal (pg p).2.2.2 v)) → mK [21, 22, 24, 25] I J I' J' → sK [28, 29, 33, 39] s s' → qSame X X' m (m + 30) →
      qV l s0 C m_M_collect rm_M_collect Qp (fun _ _ => False) 0 0 X' 13 [(0, .ref m), (1, .int (nI v)), (2, .int (nI W.length)), (3, .int (nI i))] [] := by
  intro j
  induction j with
  | zero =>
    intro i X' s' I' J' hj h ho hk hs hf
    have hi : i = W.length := by omega
    refine v_iload_n i_M_collect_13 rfl ?_
    refine v_iload_n i_M_collect_14 rfl ?_
    refine v_icmp_ge (tgt := 110) i_M_collect_15 rfl (fun _ => ?_) (fun q15 => absurd (nI_le (by omega) (by omega)) q15)
    rw [hi, List.take_length] at ho
    exact v_loc [(0, .ref m), (1, .int (nI v)), (2, .int (nI W.length))] rfl (K X' s' I' J' h ho hk hs hf)
  | succ j ih =>
    intro i X' s' I' J' hj h ho hk hs hf
    have hi : i < W.length := by omega
    have w1 := hW W[i] (List.getElem_mem hi)
    have hP : mPg I' J' W[i] (pg W[i]) := (hpg _ w1).keep hk (by decide)
    have hwi : I' 28 i = nI W[i] := by
      rw [(hk 28 (by decide)).1, hA i hi, List.getD_eq_getElem?_getD, List.getElem?_eq_getElem hi]; rfl
    have o4 := hP.1.2.2.2.1
    refine v_iload_n i_M_collect_13 rfl ?_
    refine v_iload_n i_M_collect_14 rfl ?_
    refine v_icmp_ge (tgt := 110) i_M_collect_15 rfl (fun q15 => absurd q15 (nI_ge (by omega) (by omega))) (fun _ => ?_)
    refine v_aload_n i_M_collect_18 rfl ?_
    refine v_iconst (v := 0) i_M_collect_19 rfl ?_
    refine v_mput B h (j := 33) i_M_collect_20 (Nat.le_of_ble_eq_true rfl) rfl rfl rfl (fun X1 h1 f1 => ?_)
    refine v_aload_n i_M_collect_23 rfl ?_
    refine v_iconst (v := (-1)) i_M_collect_24 rfl ?_
    refine v_mput B h1 (j := 28) i_M_collect_25 (Nat.le_of_ble_eq_true rfl) rfl rfl rfl (fun X2 h2 f2 => ?_)
    refine v_aload_n i_M_collect_28 rfl ?_
    refine v_iconst (v := (-1)) i_M_collect_29 rfl ?_
    refine v_mput B h2 (j := 29) i_M_collect_30 (Nat.le_of_ble_eq_true rfl) rfl rfl rfl (fun X3 h3 f3 => ?_)
    have hs3 : sK [28, 29, 33] s' (upd (upd (upd s' 33 0) 28 (-1)) 29 (-1)) := (((sK.rf _ _).set (by decide)).set (by decide)).set (by decide)
    have hR3 : mRw (upd (upd (upd s' 33 0) 28 (-1)) 29 (-1)) I' J' [] := ⟨by rw [pk_un (by decide), pk_un (by decide), pk_us]; rfl, by decide, fun i hi => by simp at hi⟩
    have g1 : upd (upd (upd s' 33 0) 28 (-1)) 29 (-1) 28 = vA W[i] none := by rw [pk_un (by decide), pk_us]; rfl
    have g2 : upd (upd (upd s' 33 0) 28 (-1)) 29 (-1) 29 = vA W[i] none := by rw [pk_us]; rfl
    generalize upd (upd (upd s' 33 0) 28 (-1)) 29 (-1) = s3 at h3 hs3 hR3 g1 g2
    obtain ⟨h0, a1, a2, a3, a4, a5, a6, a7, a8, a9, a10, a11, a12, a13, a14, a15, a16, a17, a18, a19, a20, a21, a22, a23, a24, a25, a26, a27, a28, a29⟩ := h3.all
    refine v_aload_n i_M_collect_33 rfl ?_
    refine v_aload_n i_M_collect_34 rfl ?_
    refine v_get B i_M_collect_35 (by first | assumption | exact qset_self _ _ _ | (rw [qset_ne _ _ (by omega)]; first | assumption | exact qset_self _ _ _ | (rw [qset_ne _ _ (by omega)]; first | assumption | exact qset_self _ _ _ | (rw [qset_ne _ _ (by omega)]; first | assumption | exact qset_self _ _ _ | (rw [qset_ne _ _ (by omega)]; first | assumption | exact qset_self _ _ _ | (rw [qset_ne _ _ (by omega)]; first | assumption | exact qset_self _ _ _ | (rw [qset_ne _ _ (by omega)]; first | assumption | exact qset_self _ _ _))))))) rfl ?_
    refine v_iload_n i_M_collect_38 rfl ?_
    refine v_iald B (by first | assumption | exact qset_self _ _ _ | (rw [qset_ne _ _ (by omega)]; first | assumption | exact qset_self _ _ _ | (rw [qset_ne _ _ (by omega)]; first | assumption | exact qset_self _ _ _ | (rw [qset_ne _ _ (by omega)]; first | assumption | exact qset_self _ _ _ | (rw [qset_ne _ _ (by omega)]; first | assumption | exact qset_self _ _ _ | (rw [qset_ne _ _ (by omega)]; first | assumption | exact qset_self _ _ _ | (rw [qset_ne _ _ (by omega)]; first | assumption | exact qset_self _ _ _))))))) rfl (by omega) (by omega) i_M_collect_39 ?_
    rw [hwi]
    refine v_iload_n i_M_collect_40 rfl ?_
    refine v_inv B i_M_collect_41 kn_m_M_listAlive (c_M_listAlive B h3 hP (by omega) hv (o1 := none) (o2 := none) (fun t ht => (nomatch ht)) (fun t ht => (nomatch ht)) hR3 (by show 0 + _ ≤ 40; omega) g1 g2) h0 rfl rfl (Nat.le_of_ble_eq_true rfl) ⟨by decide, by decide, by first | decide | (simp; omega), by first | decide | (simp; omega)⟩ rfl (fun r X' hq => ?_) (fun _ _ h => False.elim h)
    obtain ⟨rfl, s4, I4, J4, h4, hR4, hk4, hs4, hf4⟩ := hq
    have hyal : mls (pg W[i]).2.2.2 v none none [] (pg W[i]).2.2.2.length = yal (pg W[i]).2.2.2 v := rfl
    rw [hyal] at hR4
    have htk : (W.take (i + 1)).flatMap (fun p => yal (pg p).2.2.2 v) = (W.take i).flatMap (fun p => yal (pg p).2.2.2 v) ++ yal (pg W[i]).2.2.2 v := by
      rw [List.take_succ_eq_append_getElem hi, List.flatMap_append]; simp
    have hsub : ((W.take (i + 1)).flatMap (fun p => yal (pg p).2.2.2 v)).length ≤ (W.flatMap (fun p => yal (pg p).2.2.2 v)).length := by
      have e : W = W.take (i + 1) ++ W.drop (i + 1) := (List.take_append_drop _ _).symm
      have e2 : W.flatMap (fun p => yal (pg p).2.2.2 v) = (W.take (i + 1)).flatMap (fun p => yal (pg p).2.2.2 v) ++ (W.drop (i + 1)).flatMap (fun p => yal (pg p).2.2.2 v) := by rw [← List.flatMap_append, ← e]
      rw [e2, List.length_append]; omega
    rw [htk, List.length_append] at hsub
    have hk4' := hk.trans (hk4.mono (A' := [21, 22, 24, 25]) (by decide))
    have ho4 : mOne s4 I4 J4 ((W.take i).flatMap (fun p => yal (pg p).2.2.2 v)) := by
      obtain ⟨o1, o2, o3⟩ := ho
      exact ⟨by rw [hs4 39 (by decide), hs3 39 (by decide)]; exact o1, o2, fun t ht => by rw [(hk4 24 (by decide)).1, (hk4 25 (by decide)).2]; exact o3 t ht⟩
    refine v_iconst (v := 0) i_M_collect_44 rfl ?_
    refine v_istore i_M_collect_45 (by decide) rfl ?_
    refine v_loc [(0, .ref m), (1, .int (nI v)), (2, .int (nI W.length)), (3, .int (nI i)), (4, .int (nI 0))] rfl ?_
    refine c_M_collect_k (X := X') (s := s4) (I := I4) (J := J4) B (yal (pg W[i]).2.2.2 v) (nI v) (nI W.length) (nI i) ((W.take i).flatMap (fun p => yal (pg p).2.2.2 v)) (by omega) (fun X5 s5 I5 J5 h5 ho5 hk5 hs5 hf5 => ?_) (yal (pg W[i]).2.2.2 v).length 0 _ s4 I4 J4 (by omega) h4 hR4 (by rw [List.take_zero, List.append_nil]; exact ho4) (mK.rf _ _ _) (sK.rf _ _) (qSame.rf _ _ _)
    refine v_iinc (v := nI (i + 1)) i_M_collect_104 rfl (nI_1 _) (by decide) rfl ?_
    refine v_goto (tgt := 13) i_M_collect_107 rfl ?_
    refine v_loc [(0, .ref m), (1, .int (nI v)), (2, .int (nI W.length)), (3, .int (nI (i + 1)))] rfl ?_
    refine ih (i + 1) X5 s5 I5 J5 (by omega) h5 (by rw [htk]; exact ho5) (hk4'.trans (hk5.mono (by decide))) (((hs.trans (hs3.mono (by decide))).trans (hs4.mono (by decide))).trans (hs5.mono (by decide))) ((((((hf.trans f1).trans f2).trans f3).trans hf4)).trans hf5)
/-- all keys of a version, collected -/
theorem c_M_collect (B : qB l s0 C) (h : MAt X m s I J) {v r : Nat} (hv : v < 4000) (hpg : ∀ p, p < made → mPg I J p (pg p)) (hm : made ≤ 256) (hr : I 10 v = nI r) (hg : yGd pg made r v) : qMet l s0 C m_M_collect rm_M_collect [.ref m, .int (nI v)] X (fun z X' => z = none ∧ ∃ s' I' J', MAt X' m s' I' J' ∧ mOne s' I' J' (yKs pg r v) ∧ mK [21, 22, 24, 25, 28, 29] I J I' J' ∧ sK [28, 29, 33, 39] s s' ∧ qSame X X' m (m + 30)) (fun _ _ => False) := by
  obtain ⟨l1, l2, l3⟩ := yLvs_spec hm hg
  have hks := (yKs_spec hm hg).2
  obtain ⟨h0, -⟩ := id h
  refine q_of (by decide +kernel) (Nat.le_of_ble_eq_true rfl) ?_
  refine v_L (L' := [(0, .ref m), (1, .int (nI v))]) rfl ?_
  refine v_aload_n i_M_collect_0 rfl ?_
  refine v_iload_n i_M_collect_1 rfl ?_
  refine v_inv B i_M_collect_2 kn_m_M_leaves (c_M_leaves B h hv hpg hm hr hg) h0 rfl rfl (Nat.le_of_ble_eq_true rfl) ⟨by decide, by decide, by first | decide | (simp; omega), by first | decide | (simp; omega)⟩ rfl (fun r X' hq => ?_) (fun _ _ h => False.elim h)
  obtain ⟨rfl, s1, I1, J1, h1, ha1, hk1, hs1, hf1⟩ := hq
  refine v_istore_n i_M_collect_5 (by decide) rfl ?_
  refine v_aload_n i_M_collect_6 rfl ?_
  refine v_iconst (v := 0) i_M_collect_7 rfl ?_
  refine v_mput B h1 (j := 39) i_M_collect_8 (Nat.le_of_ble_eq_true rfl) rfl rfl rfl (fun X2 h2 f2 => ?_)
  refine v_iconst (v := 0) i_M_collect_11 rfl ?_
  refine v_istore_n i_M_collect_12 (by decide) rfl ?_
  refine v_loc [(0, .ref m), (1, .int (nI v)), (2, .int (nI (yLvs pg r v).length)), (3, .int (nI 0))] rfl ?_
  refine c_M_collect_i (X := X2) (s := upd s1 39 0) (I := I1) (J := J1) (pg := pg) (made := made) B (by omega) (fun p hp => (hpg p hp).keep hk1 (by decide)) hm (yLvs pg r v) l2 ha1 (by omega) (by rw [l1]; omega) (fun X3 s3 I3 J3 h3 ho3 hk3 hs3 hf3 => ?_) (yLvs pg r v).length 0 X2 _ I1 J1 (by omega) h2 ⟨pk_us, by simp, fun i hi => by simp at hi⟩ (mK.rf _ _ _) (sK.rf _ _) (qSame.rf _ _ _)
  rw [l1] at ho3
  refine v_vret i_M_collect_110 rfl (by decide) (by decide) ⟨rfl, s3, I3, J3, h3, ho3, (hk1.mono (by decide)).trans (hk3.mono (by decide)), ((hs1.mono (A' := [28, 29, 33, 39]) (by decide)).set (j := 39) (x := 0) (by decide)).trans hs3, (hf1.trans f2).trans hf3⟩
end MC2
