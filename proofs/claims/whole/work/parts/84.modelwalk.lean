/-! the reference: leaves and keys of a version, collected -/
def mArr (f : Nat → Int32) (W : List Nat) : Prop := ∀ i, i < W.length → f i = nI (W.getD i 0)
/-- level by level -/
def yKid (V : yV) (p : Nat) : List Nat := (V p).2.2.map (fun e => ychd e.2)
def yWk (V : yV) : Nat → List Nat → List Nat
  | 0, W => W
  | l + 1, W => yWk V l (W.flatMap (yKid V))
theorem yWk_col (V : yV) : ∀ (l : Nat) (W : List Nat), (yWk V l W).flatMap (fun p => (V p).2.2) = W.flatMap (fun p => yCol V l (V p).2.2)
  | 0, W => rfl
  | l + 1, W => by
    rw [yWk, yWk_col V l, List.flatMap_assoc]
    congr 1
    funext p
    unfold yKid
    rw [List.flatMap_map]
    rfl
/-- pages of one level, with all that stands below them -/
def yWo (V : yV) (made l : Nat) : List Nat → Nat → Prop
  | [], n => n = 0
  | p :: t, n => ∃ a b n1 n2, p < made ∧ ((V p).1 = l ∧ a < b) ∧ yNB V made l (V p).2.2 a b n1 ∧ yWo V made l t n2 ∧ n = n1 + n2
theorem yWo_app {V : yV} {made l : Nat} {T : List Nat} {n2 : Nat} (hT : yWo V made l T n2) : ∀ {W : List Nat} {n1 : Nat}, yWo V made l W n1 → yWo V made l (W ++ T) (n1 + n2)
  | [], n1, h => by have h' : n1 = 0 := h; rw [h', Nat.zero_add]; exact hT
  | p :: t, n1, h => by
    obtain ⟨a, b, k1, k2, g1, g2, g3, g4, rfl⟩ := h
    exact ⟨a, b, k1, k2 + n2, g1, g2, g3, yWo_app hT g4, by omega⟩
theorem yWo_kid {V : yV} {made l : Nat} (hm : made ≤ 256) : ∀ {L : qRw} {lo hi : Int} {n : Nat}, ySg (yCh V made l) L lo hi n → yWo V made l (L.map (fun e => ychd e.2)) n ∧ (∀ c ∈ L.map (fun e => ychd e.2), 3 ≤ (V c).2.2.length) ∧ ∀ e ∈ L, ∃ c, c < made ∧ e.2 = lN c
  | [], lo, hi, n, h => ⟨h.2, fun c hc => (nomatch hc), fun e he => (nomatch he)⟩
  | e :: t, lo, hi, n, h => by
    obtain ⟨c, m, n1, n2, h1, h2, h3, h4, rfl⟩ := h
    obtain ⟨i1, i2, i3⟩ := yWo_kid hm h4
    have hc : ychd e.2 = c := by rw [h1]; exact ychd_lN (by have := h2.1; omega)
    refine ⟨?_, fun x hx => ?_, fun x hx => ?_⟩
    · rw [List.map_cons, hc]
      exact ⟨lo, m, n1, n2, h2.1, ⟨h2.2.1, h2.lt⟩, h2.2.2.2.2, i1, rfl⟩
    · rw [List.map_cons, hc] at hx
      rcases List.mem_cons.mp hx with q | q
      · rw [q]; exact h2.2.2.2.1
      · exact i2 x q
    · rcases List.mem_cons.mp hx with q | q
      · rw [q]; exact ⟨c, h2.1, h1⟩
      · exact i3 x q
theorem yWo_step {V : yV} {made l : Nat} (hm : made ≤ 256) : ∀ {W : List Nat} {n : Nat}, yWo V made (l + 1) W n → yWo V made l (W.flatMap (yKid V)) n ∧ (∀ c ∈ W.flatMap (yKid V), 3 ≤ (V c).2.2.length)
  | [], n, h => ⟨h, fun c hc => (nomatch hc)⟩
  | p :: t, n, h => by
    obtain ⟨a, b, n1, n2, g1, g2, g3, g4, rfl⟩ := h
    obtain ⟨i1, i2⟩ := yWo_step hm g4
    obtain ⟨k1, k2, k3⟩ := yWo_kid hm g3.2.2.2
    rw [List.flatMap_cons]
    refine ⟨yWo_app i1 k1, fun c hc => ?_⟩
    rcases List.mem_append.mp hc with q | q
    · exact k2 c q
    · exact i2 c q
theorem yWo_mem {V : yV} {made l : Nat} : ∀ {W : List Nat} {n : Nat}, yWo V made l W n → ∀ p ∈ W, ∃ a b n1, p < made ∧ ((V p).1 = l ∧ a < b) ∧ yNB V made l (V p).2.2 a b n1
  | [], n, h, p, hp => (nomatch hp)
  | q :: t, n, h, p, hp => by
    obtain ⟨a, b, n1, n2, g1, g2, g3, g4, rfl⟩ := h
    rcases List.mem_cons.mp hp with z | z
    · rw [z]; exact ⟨a, b, n1, g1, g2, g3⟩
    · exact yWo_mem g4 p z
theorem yWo_len {V : yV} {made l : Nat} : ∀ {W : List Nat} {n : Nat}, yWo V made l W n → (∀ c ∈ W, 3 ≤ (V c).2.2.length) → W.length ≤ n
  | [], n, h, _ => by simp
  | p :: t, n, h, h3 => by
    obtain ⟨a, b, n1, n2, g1, g2, g3, g4, rfl⟩ := h
    have i1 := yWo_len g4 (fun c hc => h3 c (List.mem_cons_of_mem _ hc))
    have := yNB_many g3
    have h3' := h3 p List.mem_cons_self
    have h1 : 1 ≤ 3 ^ l := Nat.one_le_pow _ _ (by omega)
    have : 3 * 1 ≤ (V p).2.2.length * 3 ^ l := Nat.mul_le_mul h3' h1
    rw [List.length_cons]; omega
theorem mArr_put {f : Nat → Int32} {W : List Nat} {c : Nat} (h : mArr f W) : mArr (upd f W.length (nI c)) (W ++ [c]) := by
  intro i hi
  rw [List.length_append, List.length_singleton] at hi
  by_cases q : i = W.length
  · subst q
    rw [pk_us, List.getD_eq_getElem?_getD, List.getElem?_append_right (Nat.le_refl _), Nat.sub_self]; rfl
  · rw [pk_un q, h i (by omega), List.getD_eq_getElem?_getD, List.getD_eq_getElem?_getD, List.getElem?_append_left (by omega)]
section ML
variable {X X' : qX} {m : Nat} {s : Nat → Int32} {I : Nat → Nat → Int32} {J : Nat → Nat → Int64}
variable {pg : Nat → Pg} {made lat rb : Nat} {dt : Nat → Bool} {ro : Nat → Nat}
variable {l : Launch} {s0 : State} {C : qC}
theorem c_M_leaves_k (B : qB l s0 C) (Lp : qRw) (hc : ∀ e ∈ Lp, ∃ c, c < 256 ∧ e.2 = lN c) (zv zn zi : Int32) (base : List Nat) (hb : base.length + Lp.length ≤ 4200) {Qp : Option Value → qX → Prop}
    (K : ∀ (X2 : qX) (I2 : Nat → Nat → Int32), MAt X2 m s I2 J → mArr (I2 29) (base ++ Lp.map (fun e => ychd e.2)) → mK [29] I J I2 J → qSame X X2 m (m + 30) → qV l s0 C m_M_leaves rm_M_leaves Qp (fun _ _ => False) 0 0 X2 101 [(0, .ref m), (1, .int zv), (2, .int zn), (3, .int (nI (base.length + Lp.length))), (4, .int zi)] []) :
    ∀ (j q : Nat) (X' : qX) (I' : Nat → Nat → Int32), q + j = Lp.length → MAt X' m s I' J → mRw s I' J Lp → mArr (I' 29) (base ++ (Lp.take q).map (fun e => ychd e.2)) → mK [29] I J I' J → qSame X X' m (m + 30) →
      qV l s0 C m_M_leaves rm_M_leaves Qp (fun _ _ => False) 0 0 X' 69 [(0, .ref m), (1, .int zv), (2, .int zn), (3, .int (nI (base.length + q))), (4, .int zi), (5, .int (nI q))] [] := by
  intro j
  induction j with
  | zero =>
    intro q X' I' hj h hR ha hk hf
    obtain ⟨r1, r2, r3⟩ := id hR
    obtain ⟨h0, -⟩ := id h
    have hq : q = Lp.length := by omega
    refine v_iload i_M_leaves_69 rfl ?_
    refine v_aload_n i_M_leaves_71 rfl ?_
    refine v_get B i_M_leaves_72 (by first | assumption | exact qset_self _ _ _ | (rw [qset_ne _ _ (by omega)]; first | assumption | exact qset_self _ _ _ | (rw [qset_ne _ _ (by omega)]; first | assumption | exact qset_self _ _ _ | (rw [qset_ne _ _ (by omega)]; first | assumption | exact qset_self _ _ _ | (rw [qset_ne _ _ (by omega)]; first | assumption | exact qset_self _ _ _ | (rw [qset_ne _ _ (by omega)]; first | assumption | exact qset_self _ _ _ | (rw [qset_ne _ _ (by omega)]; first | assumption | exact qset_self _ _ _))))))) rfl ?_
    rw [r1]
    refine v_icmp_ge (tgt := 101) i_M_leaves_75 rfl (fun _ => ?_) (fun q75 => absurd (nI_le (by omega) (by omega)) q75)
    rw [hq] at ha ⊢
    rw [List.take_length] at ha
    exact v_loc [(0, .ref m), (1, .int zv), (2, .int zn), (3, .int (nI (base.length + Lp.length))), (4, .int zi)] rfl (K X' I' h ha hk hf)
  | succ j ih =>
    intro q X' I' hj h hR ha hk hf
    obtain ⟨r1, r2, r3⟩ := id hR
    obtain ⟨h0, a1, a2, a3, a4, a5, a6, a7, a8, a9, a10, a11, a12, a13, a14, a15, a16, a17, a18, a19, a20, a21, a22, a23, a24, a25, a26, a27, a28, a29⟩ := h.all
    have hq : q < Lp.length := by omega
    refine v_iload i_M_leaves_69 rfl ?_
    refine v_aload_n i_M_leaves_71 rfl ?_
    refine v_get B i_M_leaves_72 (by first | assumption | exact qset_self _ _ _ | (rw [qset_ne _ _ (by omega)]; first | assumption | exact qset_self _ _ _ | (rw [qset_ne _ _ (by omega)]; first | assumption | exact qset_self _ _ _ | (rw [qset_ne _ _ (by omega)]; first | assumption | exact qset_self _ _ _ | (rw [qset_ne _ _ (by omega)]; first | assumption | exact qset_self _ _ _ | (rw [qset_ne _ _ (by omega)]; first | assumption | exact qset_self _ _ _ | (rw [qset_ne _ _ (by omega)]; first | assumption | exact qset_self _ _ _))))))) rfl ?_
    rw [r1]
    refine v_icmp_ge (tgt := 101) i_M_leaves_75 rfl (fun q75 => absurd q75 (nI_ge (by omega) (by omega))) (fun _ => ?_)
    have e2 : (rk Lp q, rv Lp q) = Lp[q] := by
      unfold rk rv
      rw [List.getD_eq_getElem?_getD, List.getElem?_eq_getElem hq]
      rfl
    obtain ⟨c, c1, c2⟩ := hc Lp[q] (List.getElem_mem hq)
    have c3 : rv Lp q = lN c := by rw [← e2] at c2; exact c2
    refine v_aload_n i_M_leaves_78 rfl ?_
    refine v_get B i_M_leaves_79 (by first | assumption | exact qset_self _ _ _ | (rw [qset_ne _ _ (by omega)]; first | assumption | exact qset_self _ _ _ | (rw [qset_ne _ _ (by omega)]; first | assumption | exact qset_self _ _ _ | (rw [qset_ne _ _ (by omega)]; first | assumption | exact qset_self _ _ _ | (rw [qset_ne _ _ (by omega)]; first | assumption | exact qset_self _ _ _ | (rw [qset_ne _ _ (by omega)]; first | assumption | exact qset_self _ _ _ | (rw [qset_ne _ _ (by omega)]; first | assumption | exact qset_self _ _ _))))))) rfl ?_
    refine v_iload_n i_M_leaves_82 rfl ?_
    refine v_aload_n i_M_leaves_83 rfl ?_
    refine v_get B i_M_leaves_84 (by first | assumption | exact qset_self _ _ _ | (rw [qset_ne _ _ (by omega)]; first | assumption | exact qset_self _ _ _ | (rw [qset_ne _ _ (by omega)]; first | assumption | exact qset_self _ _ _ | (rw [qset_ne _ _ (by omega)]; first | assumption | exact qset_self _ _ _ | (rw [qset_ne _ _ (by omega)]; first | assumption | exact qset_self _ _ _ | (rw [qset_ne _ _ (by omega)]; first | assumption | exact qset_self _ _ _ | (rw [qset_ne _ _ (by omega)]; first | assumption | exact qset_self _ _ _))))))) rfl ?_
    refine v_iload i_M_leaves_87 rfl ?_
    refine v_lald B (by first | assumption | exact qset_self _ _ _ | (rw [qset_ne _ _ (by omega)]; first | assumption | exact qset_self _ _ _ | (rw [qset_ne _ _ (by omega)]; first | assumption | exact qset_self _ _ _ | (rw [qset_ne _ _ (by omega)]; first | assumption | exact qset_self _ _ _ | (rw [qset_ne _ _ (by omega)]; first | assumption | exact qset_self _ _ _ | (rw [qset_ne _ _ (by omega)]; first | assumption | exact qset_self _ _ _ | (rw [qset_ne _ _ (by omega)]; first | assumption | exact qset_self _ _ _))))))) rfl (by omega) (by omega) i_M_leaves_89 ?_
    rw [(r3 q hq).2, c3]
    refine v_l2i i_M_leaves_90 ?_
    rw [lN_i]
    refine v_mist B h (a := 29) (N := 4200) (j := base.length + q) rfl rfl (by decide) (by decide) (rfl) (by omega) (by omega) i_M_leaves_91 (fun X2 h2 f2 => ?_)
    refine v_iinc (v := nI (base.length + (q + 1))) i_M_leaves_92 rfl (nI_1 _) (by decide) rfl ?_
    refine v_iinc (v := nI (q + 1)) i_M_leaves_95 rfl (nI_1 _) (by decide) rfl ?_
    refine v_goto (tgt := 69) i_M_leaves_98 rfl ?_
    have hk2 : mK [29] I' J (mIu I' 29 (base.length + q) (nI c)) J := (mK.rf _ _ _).int (by decide)
    refine v_loc [(0, .ref m), (1, .int zv), (2, .int zn), (3, .int (nI (base.length + (q + 1)))), (4, .int zi), (5, .int (nI (q + 1)))] rfl ?_
    refine ih (q + 1) X2 _ (by omega) h2 ⟨r1, r2, fun i hi => by rw [(hk2 21 (by decide)).1]; exact r3 i hi⟩ ?_ (hk.trans hk2) (hf.trans f2)
    have hl : (base ++ (Lp.take q).map (fun e => ychd e.2)).length = base.length + q := by rw [List.length_append, List.length_map, List.length_take]; omega
    have := mArr_put (c := c) ha
    rw [hl] at this
    rw [mIu_self, List.take_succ_eq_append_getElem hq, List.map_append, ← List.append_assoc]
    have e3 : ([Lp[q]].map (fun e => ychd e.2)) = [c] := by
      rw [List.map_singleton, c2, ychd_lN (by omega)]
    rw [e3]; exact this
theorem c_M_leaves_i (B : qB l s0 C) {v : Nat} (hv : v < 2 ^ 30) (hpg : ∀ p, p < made → mPg I J p (pg p)) (hm : made ≤ 256) (W : List Nat) (hW : ∀ p ∈ W, p < made ∧ ∀ e ∈ yal (pg p).2.2.2 v, ∃ c, c < 256 ∧ e.2 = lN c) (hA : mArr (I 28) W) (hWl : W.length ≤ 4200) (hb : (W.flatMap (yKid (yVw pg v))).length ≤ 4200) {Qp : Option Value → qX → Prop}
    (K : ∀ (X2 : qX) (s2 : Nat → Int32) (I2 : Nat → Nat → Int32) (J2 : Nat → Nat → Int64), MAt X2 m s2 I2 J2 → mArr (I2 29) (W.flatMap (yKid (yVw pg v))) → mK [21, 22, 29] I J I2 J2 → sK [28, 29, 33] s s2 → qSame X X2 m (m + 30) → qV l s0 C m_M_leaves rm_M_leaves Qp (fun _ _ => False) 0 0 X2 107 [(0, .ref m), (1, .int (nI v)), (2, .int (nI W.length)), (3, .int (nI (W.flatMap (yKid (yVw pg v))).length))] []) :
    ∀ (j i : Nat) (X' : qX) (s' : Nat → Int32) (I' : Nat → Nat → Int32) (J' : Nat → Nat → Int64), i + j = W.length → MAt X' m s' I' J' → mArr (I' 29) ((W.take i).flatMap (yKid (yVw pg v))) → mK [21, 22, 29] I J I' J' → sK [28, 29, 33] s s' → qSame X X' m (m + 30) →
      qV l s0 C m_M_leaves rm_M_leaves Qp (fun _ _ => False) 0 0 X' 33 [(0, .ref m), (1, .int (nI v)), (2, .int (nI W.length)), (3, .int (nI ((W.take i).flatMap (yKid (yVw pg v))).length)), (4, .int (nI i))] [] := by
  intro j
  induction j with
  | zero =>
    intro i X' s' I' J' hj h ha hk hs hf
    have hi : i = W.length := by omega
    refine v_iload i_M_leaves_33 rfl ?_
    refine v_iload_n i_M_leaves_35 rfl ?_
    refine v_icmp_ge (tgt := 107) i_M_leaves_36 rfl (fun _ => ?_) (fun q36 => absurd (nI_le (by omega) (by omega)) q36)
    rw [hi] at ha ⊢
    rw [List.take_length] at ha ⊢
    exact v_loc [(0, .ref m), (1, .int (nI v)), (2, .int (nI W.length)), (3, .int (nI (W.flatMap (yKid (yVw pg v))).length))] rfl (K X' s' I' J' h ha hk hs hf)
  | succ j ih =>
    intro i X' s' I' J' hj h ha hk hs hf
    have hi : i < W.length := by omega
    obtain ⟨w1, w2⟩ := hW W[i] (List.getElem_mem hi)
    have hP : mPg I' J' W[i] (pg W[i]) := (hpg _ w1).keep hk (by decide)
    have hwi : I' 28 i = nI W[i] := by
      rw [(hk 28 (by decide)).1, hA i hi, List.getD_eq_getElem?_getD, List.getElem?_eq_getElem hi]; rfl
    have o4 := hP.1.2.2.2.1
    refine v_iload i_M_leaves_33 rfl ?_
    refine v_iload_n i_M_leaves_35 rfl ?_
    refine v_icmp_ge (tgt := 107) i_M_leaves_36 rfl (fun q36 => absurd q36 (nI_ge (by omega) (by omega))) (fun _ => ?_)
    refine v_aload_n i_M_leaves_39 rfl ?_
    refine v_iconst (v := 0) i_M_leaves_40 rfl ?_
    refine v_mput B h (j := 33) i_M_leaves_41 (Nat.le_of_ble_eq_true rfl) rfl rfl rfl (fun X1 h1 f1 => ?_)
    refine v_aload_n i_M_leaves_44 rfl ?_
    refine v_iconst (v := (-1)) i_M_leaves_45 rfl ?_
    refine v_mput B h1 (j := 28) i_M_leaves_46 (Nat.le_of_ble_eq_true rfl) rfl rfl rfl (fun X2 h2 f2 => ?_)
    refine v_aload_n i_M_leaves_49 rfl ?_
    refine v_iconst (v := (-1)) i_M_leaves_50 rfl ?_
    refine v_mput B h2 (j := 29) i_M_leaves_51 (Nat.le_of_ble_eq_true rfl) rfl rfl rfl (fun X3 h3 f3 => ?_)
    have hs3 : sK [28, 29, 33] s' (upd (upd (upd s' 33 0) 28 (-1)) 29 (-1)) := (((sK.rf _ _).set (by decide)).set (by decide)).set (by decide)
    have hR3 : mRw (upd (upd (upd s' 33 0) 28 (-1)) 29 (-1)) I' J' [] := ⟨by rw [pk_un (by decide), pk_un (by decide), pk_us]; rfl, by decide, fun i hi => by simp at hi⟩
    have g1 : upd (upd (upd s' 33 0) 28 (-1)) 29 (-1) 28 = vA W[i] none := by rw [pk_un (by decide), pk_us]; rfl
    have g2 : upd (upd (upd s' 33 0) 28 (-1)) 29 (-1) 29 = vA W[i] none := by rw [pk_us]; rfl
    generalize upd (upd (upd s' 33 0) 28 (-1)) 29 (-1) = s3 at h3 hs3 hR3 g1 g2
    obtain ⟨h0, a1, a2, a3, a4, a5, a6, a7, a8, a9, a10, a11, a12, a13, a14, a15, a16, a17, a18, a19, a20, a21, a22, a23, a24, a25, a26, a27, a28, a29⟩ := h3.all
    refine v_aload_n i_M_leaves_54 rfl ?_
    refine v_aload_n i_M_leaves_55 rfl ?_
    refine v_get B i_M_leaves_56 (by first | assumption | exact qset_self _ _ _ | (rw [qset_ne _ _ (by omega)]; first | assumption | exact qset_self _ _ _ | (rw [qset_ne _ _ (by omega)]; first | assumption | exact qset_self _ _ _ | (rw [qset_ne _ _ (by omega)]; first | assumption | exact qset_self _ _ _ | (rw [qset_ne _ _ (by omega)]; first | assumption | exact qset_self _ _ _ | (rw [qset_ne _ _ (by omega)]; first | assumption | exact qset_self _ _ _ | (rw [qset_ne _ _ (by omega)]; first | assumption | exact qset_self _ _ _))))))) rfl ?_
    refine v_iload i_M_leaves_59 rfl ?_
    refine v_iald B (by first | assumption | exact qset_self _ _ _ | (rw [qset_ne _ _ (by omega)]; first | assumption | exact qset_self _ _ _ | (rw [qset_ne _ _ (by omega)]; first | assumption | exact qset_self _ _ _ | (rw [qset_ne _ _ (by omega)]; first | assumption | exact qset_self _ _ _ | (rw [qset_ne _ _ (by omega)]; first | assumption | exact qset_self _ _ _ | (rw [qset_ne _ _ (by omega)]; first | assumption | exact qset_self _ _ _ | (rw [qset_ne _ _ (by omega)]; first | assumption | exact qset_self _ _ _))))))) rfl (by omega) (by omega) i_M_leaves_61 ?_
    rw [hwi]
    refine v_iload_n i_M_leaves_62 rfl ?_
    refine v_inv B i_M_leaves_63 kn_m_M_listAlive (c_M_listAlive B h3 hP (by omega) hv (o1 := none) (o2 := none) (fun t ht => (nomatch ht)) (fun t ht => (nomatch ht)) hR3 (by show 0 + _ ≤ 40; omega) g1 g2) h0 rfl rfl (Nat.le_of_ble_eq_true rfl) ⟨by decide, by decide, by first | decide | (simp; omega), by first | decide | (simp; omega)⟩ rfl (fun r X' hq => ?_) (fun _ _ h => False.elim h)
    obtain ⟨rfl, s4, I4, J4, h4, hR4, hk4, hs4, hf4⟩ := hq
    have hyal : mls (pg W[i]).2.2.2 v none none [] (pg W[i]).2.2.2.length = yal (pg W[i]).2.2.2 v := rfl
    rw [hyal] at hR4
    have hyl := mls_len (pg W[i]).2.2.2 v none none [] (pg W[i]).2.2.2.length
    rw [hyal] at hyl
    have hyl' : (yal (pg W[i]).2.2.2 v).length ≤ 16 := by have : ([] : qRw).length = 0 := rfl; omega
    have hkid : yKid (yVw pg v) W[i] = (yal (pg W[i]).2.2.2 v).map (fun e => ychd e.2) := rfl
    have hkl : (yKid (yVw pg v) W[i]).length = (yal (pg W[i]).2.2.2 v).length := by rw [hkid, List.length_map]
    have htk : (W.take (i + 1)).flatMap (yKid (yVw pg v)) = (W.take i).flatMap (yKid (yVw pg v)) ++ yKid (yVw pg v) W[i] := by
      rw [List.take_succ_eq_append_getElem hi, List.flatMap_append]; simp
    have hsub : ((W.take (i + 1)).flatMap (yKid (yVw pg v))).length ≤ (W.flatMap (yKid (yVw pg v))).length := by
      have e : W = W.take (i + 1) ++ W.drop (i + 1) := (List.take_append_drop _ _).symm
      have e2 : W.flatMap (yKid (yVw pg v)) = (W.take (i + 1)).flatMap (yKid (yVw pg v)) ++ (W.drop (i + 1)).flatMap (yKid (yVw pg v)) := by rw [← List.flatMap_append, ← e]
      rw [e2, List.length_append]; omega
    rw [htk, List.length_append, hkl] at hsub
    have hk4' := hk.trans (hk4.mono (A' := [21, 22, 29]) (by decide))
    have ha4 : mArr (I4 29) ((W.take i).flatMap (yKid (yVw pg v))) := by rw [(hk4 29 (by decide)).1]; exact ha
    refine v_iconst (v := 0) i_M_leaves_66 rfl ?_
    refine v_istore i_M_leaves_67 (by decide) rfl ?_
    refine v_loc [(0, .ref m), (1, .int (nI v)), (2, .int (nI W.length)), (3, .int (nI (((W.take i).flatMap (yKid (yVw pg v))).length + 0))), (4, .int (nI i)), (5, .int (nI 0))] rfl ?_
    refine c_M_leaves_k (X := X') (s := s4) (I := I4) (J := J4) B (yal (pg W[i]).2.2.2 v) w2 (nI v) (nI W.length) (nI i) ((W.take i).flatMap (yKid (yVw pg v))) (by omega) (fun X5 I5 h5 ha5 hk5 hf5 => ?_) (yal (pg W[i]).2.2.2 v).length 0 _ I4 (by omega) h4 hR4 (by rw [List.take_zero, List.map_nil, List.append_nil]; exact ha4) (mK.rf _ _ _) (qSame.rf _ _ _)
    refine v_iinc (v := nI (i + 1)) i_M_leaves_101 rfl (nI_1 _) (by decide) rfl ?_
    refine v_goto (tgt := 33) i_M_leaves_104 rfl ?_
    have e3 : nI (((W.take i).flatMap (yKid (yVw pg v))).length + (yal (pg W[i]).2.2.2 v).length) = nI ((W.take (i + 1)).flatMap (yKid (yVw pg v))).length := by rw [htk, List.length_append, hkl]
    rw [e3]
    refine v_loc [(0, .ref m), (1, .int (nI v)), (2, .int (nI W.length)), (3, .int (nI ((W.take (i + 1)).flatMap (yKid (yVw pg v))).length)), (4, .int (nI (i + 1)))] rfl ?_
    refine ih (i + 1) X5 s4 I5 J4 (by omega) h5 (by rw [htk]; exact ha5) (hk4'.trans (hk5.mono (by decide))) ((hs.trans hs3).trans (hs4.mono (by decide))) ((((((hf.trans f1).trans f2).trans f3).trans hf4)).trans hf5)
theorem c_M_leaves_c (B : qB l s0 C) (zv : Int32) (W : List Nat) (hA : mArr (I 29) W) (hWl : W.length ≤ 4200) {Qp : Option Value → qX → Prop}
    (K : ∀ (X2 : qX) (I2 : Nat → Nat → Int32), MAt X2 m s I2 J → mArr (I2 28) W → mK [28] I J I2 J → qSame X X2 m (m + 30) → qV l s0 C m_M_leaves rm_M_leaves Qp (fun _ _ => False) 0 0 X2 138 [(0, .ref m), (1, .int zv), (2, .int (nI W.length))] []) (z3 : Int32) :
    ∀ (j i : Nat) (X' : qX) (I' : Nat → Nat → Int32), i + j = W.length → MAt X' m s I' J → (∀ t, t < i → I' 28 t = nI (W.getD t 0)) → mK [28] I J I' J → qSame X X' m (m + 30) →
      qV l s0 C m_M_leaves rm_M_leaves Qp (fun _ _ => False) 0 0 X' 112 [(0, .ref m), (1, .int zv), (2, .int (nI W.length)), (3, .int z3), (4, .int (nI i))] [] := by
  intro j
  induction j with
  | zero =>
    intro i X' I' hj h ha hk hf
    refine v_iload i_M_leaves_112 rfl ?_
    refine v_iload_n i_M_leaves_114 rfl ?_
    refine v_icmp_ge (tgt := 138) i_M_leaves_115 rfl (fun _ => ?_) (fun q115 => absurd (nI_le (by omega) (by omega)) q115)
    exact v_loc [(0, .ref m), (1, .int zv), (2, .int (nI W.length))] rfl (K X' I' h (fun t ht => ha t (by omega)) hk hf)
  | succ j ih =>
    intro i X' I' hj h ha hk hf
    obtain ⟨h0, a1, a2, a3, a4, a5, a6, a7, a8, a9, a10, a11, a12, a13, a14, a15, a16, a17, a18, a19, a20, a21, a22, a23, a24, a25, a26, a27, a28, a29⟩ := h.all
    refine v_iload i_M_leaves_112 rfl ?_
    refine v_iload_n i_M_leaves_114 rfl ?_
    refine v_icmp_ge (tgt := 138) i_M_leaves_115 rfl (fun q115 => absurd q115 (nI_ge (by omega) (by omega))) (fun _ => ?_)
    refine v_aload_n i_M_leaves_118 rfl ?_
    refine v_get B i_M_leaves_119 (by first | assumption | exact qset_self _ _ _ | (rw [qset_ne _ _ (by omega)]; first | assumption | exact qset_self _ _ _ | (rw [qset_ne _ _ (by omega)]; first | assumption | exact qset_self _ _ _ | (rw [qset_ne _ _ (by omega)]; first | assumption | exact qset_self _ _ _ | (rw [qset_ne _ _ (by omega)]; first | assumption | exact qset_self _ _ _ | (rw [qset_ne _ _ (by omega)]; first | assumption | exact qset_self _ _ _ | (rw [qset_ne _ _ (by omega)]; first | assumption | exact qset_self _ _ _))))))) rfl ?_
    refine v_iload i_M_leaves_122 rfl ?_
    refine v_aload_n i_M_leaves_124 rfl ?_
    refine v_get B i_M_leaves_125 (by first | assumption | exact qset_self _ _ _ | (rw [qset_ne _ _ (by omega)]; first | assumption | exact qset_self _ _ _ | (rw [qset_ne _ _ (by omega)]; first | assumption | exact qset_self _ _ _ | (rw [qset_ne _ _ (by omega)]; first | assumption | exact qset_self _ _ _ | (rw [qset_ne _ _ (by omega)]; first | assumption | exact qset_self _ _ _ | (rw [qset_ne _ _ (by omega)]; first | assumption | exact qset_self _ _ _ | (rw [qset_ne _ _ (by omega)]; first | assumption | exact qset_self _ _ _))))))) rfl ?_
    refine v_iload i_M_leaves_128 rfl ?_
    refine v_iald B (by first | assumption | exact qset_self _ _ _ | (rw [qset_ne _ _ (by omega)]; first | assumption | exact qset_self _ _ _ | (rw [qset_ne _ _ (by omega)]; first | assumption | exact qset_self _ _ _ | (rw [qset_ne _ _ (by omega)]; first | assumption | exact qset_self _ _ _ | (rw [qset_ne _ _ (by omega)]; first | assumption | exact qset_self _ _ _ | (rw [qset_ne _ _ (by omega)]; first | assumption | exact qset_self _ _ _ | (rw [qset_ne _ _ (by omega)]; first | assumption | exact qset_self _ _ _))))))) rfl (by omega) (by omega) i_M_leaves_130 ?_
    rw [(hk 29 (by decide)).1, hA i (by omega)]
    refine v_mist B h (a := 28) (N := 4200) (j := i) rfl rfl (by decide) (by decide) (rfl) (by omega) (by omega) i_M_leaves_131 (fun X2 h2 f2 => ?_)
    refine v_iinc (v := nI (i + 1)) i_M_leaves_132 rfl (nI_1 _) (by decide) rfl ?_
    refine v_goto (tgt := 112) i_M_leaves_135 rfl ?_
    refine v_loc [(0, .ref m), (1, .int zv), (2, .int (nI W.length)), (3, .int z3), (4, .int (nI (i + 1)))] rfl ?_
    refine ih (i + 1) X2 _ (by omega) h2 (fun t ht => ?_) (hk.int (by decide)) (hf.trans f2)
    rw [mIu_self]
    by_cases q : t = i
    · subst q; exact pk_us
    · rw [pk_un q]; exact ha t (by omega)
/-- the leaves, level by level -/
theorem c_M_leaves_l (B : qB l s0 C) {v : Nat} (hv : v < 2 ^ 30) (hpg : ∀ p, p < made → mPg I J p (pg p)) (hm : made ≤ 256) (nK : Nat) (hnK : nK ≤ 4000) : ∀ (lv : Nat) (W : List Nat) (X' : qX) (s' : Nat → Int32) (I' : Nat → Nat → Int32) (J' : Nat → Nat → Int64), W ≠ [] → W.length ≤ 4200 → yWo (yVw pg v) made lv W nK → (∀ c ∈ yWk (yVw pg v) lv W, c < made) → MAt X' m s' I' J' → mArr (I' 28) W → mK [21, 22, 28, 29] I J I' J' → sK [28, 29, 33] s s' → qSame X X' m (m + 30) →
    qV l s0 C m_M_leaves rm_M_leaves (fun r X'' => r = some (.int (nI (yWk (yVw pg v) lv W).length)) ∧ ∃ s'' I'' J'', MAt X'' m s'' I'' J'' ∧ mArr (I'' 28) (yWk (yVw pg v) lv W) ∧ mK [21, 22, 28, 29] I J I'' J'' ∧ sK [28, 29, 33] s s'' ∧ qSame X X'' m (m + 30)) (fun _ _ => False) 0 0 X' 14 [(0, .ref m), (1, .int (nI v)), (2, .int (nI W.length))] [] := by
  intro lv
  induction lv with
  | zero =>
    intro W X' s' I' J' hW0 hWl hWo hWk h ha hk hs hf
    obtain ⟨h0, a1, a2, a3, a4, a5, a6, a7, a8, a9, a10, a11, a12, a13, a14, a15, a16, a17, a18, a19, a20, a21, a22, a23, a24, a25, a26, a27, a28, a29⟩ := h.all
    obtain ⟨p, t, rfl⟩ := List.exists_cons_of_ne_nil hW0
    obtain ⟨a, b, n1, g1, g2, g3⟩ := yWo_mem hWo p List.mem_cons_self
    have e28 : I' 28 0 = nI p := ha 0 (by simp)
    have e1 : I' 1 p = nI 0 := by rw [(hk 1 (by decide)).1, (hpg p g1).2.1]; exact congrArg nI g2.1
    refine v_aload_n i_M_leaves_14 rfl ?_
    refine v_get B i_M_leaves_15 (by first | assumption | exact qset_self _ _ _ | (rw [qset_ne _ _ (by omega)]; first | assumption | exact qset_self _ _ _ | (rw [qset_ne _ _ (by omega)]; first | assumption | exact qset_self _ _ _ | (rw [qset_ne _ _ (by omega)]; first | assumption | exact qset_self _ _ _ | (rw [qset_ne _ _ (by omega)]; first | assumption | exact qset_self _ _ _ | (rw [qset_ne _ _ (by omega)]; first | assumption | exact qset_self _ _ _ | (rw [qset_ne _ _ (by omega)]; first | assumption | exact qset_self _ _ _))))))) rfl ?_
    refine v_aload_n i_M_leaves_18 rfl ?_
    refine v_get B i_M_leaves_19 (by first | assumption | exact qset_self _ _ _ | (rw [qset_ne _ _ (by omega)]; first | assumption | exact qset_self _ _ _ | (rw [qset_ne _ _ (by omega)]; first | assumption | exact qset_self _ _ _ | (rw [qset_ne _ _ (by omega)]; first | assumption | exact qset_self _ _ _ | (rw [qset_ne _ _ (by omega)]; first | assumption | exact qset_self _ _ _ | (rw [qset_ne _ _ (by omega)]; first | assumption | exact qset_self _ _ _ | (rw [qset_ne _ _ (by omega)]; first | assumption | exact qset_self _ _ _))))))) rfl ?_
    refine v_iconst (v := 0) i_M_leaves_22 rfl ?_
    refine v_iald (j := 0) B a28 rfl (by decide) (by decide) i_M_leaves_23 ?_
    rw [e28]
    refine v_iald B (by first | assumption | exact qset_self _ _ _ | (rw [qset_ne _ _ (by omega)]; first | assumption | exact qset_self _ _ _ | (rw [qset_ne _ _ (by omega)]; first | assumption | exact qset_self _ _ _ | (rw [qset_ne _ _ (by omega)]; first | assumption | exact qset_self _ _ _ | (rw [qset_ne _ _ (by omega)]; first | assumption | exact qset_self _ _ _ | (rw [qset_ne _ _ (by omega)]; first | assumption | exact qset_self _ _ _ | (rw [qset_ne _ _ (by omega)]; first | assumption | exact qset_self _ _ _))))))) rfl (by omega) (by omega) i_M_leaves_24 ?_
    rw [e1]
    refine v_if_le (tgt := 141) i_M_leaves_25 rfl (fun _ => ?_) (fun q25 => absurd (by decide) q25)
    refine v_iload_n i_M_leaves_141 rfl ?_
    exact v_iret i_M_leaves_142 rfl (by decide) (by decide) ⟨rfl, s', I', J', h, ha, hk, hs, hf⟩
  | succ lv ih =>
    intro W X' s' I' J' hW0 hWl hWo hWk h ha hk hs hf
    obtain ⟨h0, a1, a2, a3, a4, a5, a6, a7, a8, a9, a10, a11, a12, a13, a14, a15, a16, a17, a18, a19, a20, a21, a22, a23, a24, a25, a26, a27, a28, a29⟩ := h.all
    have hmem := yWo_mem hWo
    obtain ⟨hst, h3⟩ := yWo_step hm hWo
    have hlen := yWo_len hst h3
    have hne : W.flatMap (yKid (yVw pg v)) ≠ [] := by
      obtain ⟨p, t, rfl⟩ := List.exists_cons_of_ne_nil hW0
      obtain ⟨a, b, n1, g1, g2, g3⟩ := hmem p List.mem_cons_self
      rw [List.flatMap_cons]
      intro q
      have q1 := (List.append_eq_nil_iff.mp q).1
      have q2 : (yVw pg v p).2.2 = [] := by unfold yKid at q1; simpa using q1
      exact yNB_ne g3 g2.2 q2
    obtain ⟨p, t, hpt⟩ := List.exists_cons_of_ne_nil hW0
    obtain ⟨a, b, n1, g1, g2, g3⟩ := hmem p (by rw [hpt]; exact List.mem_cons_self)
    have e28 : I' 28 0 = nI p := by rw [ha 0 (by rw [hpt]; simp), hpt]; rfl
    have e1 : I' 1 p = nI (lv + 1) := by rw [(hk 1 (by decide)).1, (hpg p g1).2.1]; exact congrArg nI g2.1
    have hl1 : lv + 1 < 1000 := by have := (hpg p g1).1.1; have e : (pg p).1 = lv + 1 := g2.1; omega
    refine v_aload_n i_M_leaves_14 rfl ?_
    refine v_get B i_M_leaves_15 (by first | assumption | exact qset_self _ _ _ | (rw [qset_ne _ _ (by omega)]; first | assumption | exact qset_self _ _ _ | (rw [qset_ne _ _ (by omega)]; first | assumption | exact qset_self _ _ _ | (rw [qset_ne _ _ (by omega)]; first | assumption | exact qset_self _ _ _ | (rw [qset_ne _ _ (by omega)]; first | assumption | exact qset_self _ _ _ | (rw [qset_ne _ _ (by omega)]; first | assumption | exact qset_self _ _ _ | (rw [qset_ne _ _ (by omega)]; first | assumption | exact qset_self _ _ _))))))) rfl ?_
    refine v_aload_n i_M_leaves_18 rfl ?_
    refine v_get B i_M_leaves_19 (by first | assumption | exact qset_self _ _ _ | (rw [qset_ne _ _ (by omega)]; first | assumption | exact qset_self _ _ _ | (rw [qset_ne _ _ (by omega)]; first | assumption | exact qset_self _ _ _ | (rw [qset_ne _ _ (by omega)]; first | assumption | exact qset_self _ _ _ | (rw [qset_ne _ _ (by omega)]; first | assumption | exact qset_self _ _ _ | (rw [qset_ne _ _ (by omega)]; first | assumption | exact qset_self _ _ _ | (rw [qset_ne _ _ (by omega)]; first | assumption | exact qset_self _ _ _))))))) rfl ?_
    refine v_iconst (v := 0) i_M_leaves_22 rfl ?_
    refine v_iald (j := 0) B a28 rfl (by decide) (by decide) i_M_leaves_23 ?_
    rw [e28]
    refine v_iald B (by first | assumption | exact qset_self _ _ _ | (rw [qset_ne _ _ (by omega)]; first | assumption | exact qset_self _ _ _ | (rw [qset_ne _ _ (by omega)]; first | assumption | exact qset_self _ _ _ | (rw [qset_ne _ _ (by omega)]; first | assumption | exact qset_self _ _ _ | (rw [qset_ne _ _ (by omega)]; first | assumption | exact qset_self _ _ _ | (rw [qset_ne _ _ (by omega)]; first | assumption | exact qset_self _ _ _ | (rw [qset_ne _ _ (by omega)]; first | assumption | exact qset_self _ _ _))))))) rfl (by omega) (by omega) i_M_leaves_24 ?_
    rw [e1]
    refine v_if_le (tgt := 141) i_M_leaves_25 rfl (fun q25 => absurd q25 (nI_nle (by omega) (by omega))) (fun _ => ?_)
    refine v_iconst (v := 0) i_M_leaves_28 rfl ?_
    refine v_istore_n i_M_leaves_29 (by decide) rfl ?_
    refine v_iconst (v := 0) i_M_leaves_30 rfl ?_
    refine v_istore i_M_leaves_31 (by decide) rfl ?_
    refine v_loc [(0, .ref m), (1, .int (nI v)), (2, .int (nI W.length)), (3, .int (nI ((W.take 0).flatMap (yKid (yVw pg v))).length)), (4, .int (nI 0))] rfl ?_
    refine c_M_leaves_i (X := X') (s := s') (I := I') (J := J') (pg := pg) (made := made) B hv (fun p hp => (hpg p hp).keep hk (by decide)) hm W (fun p hp => ?_) ha hWl (by omega) (fun X2 s2 I2 J2 h2 ha2 hk2 hs2 hf2 => ?_) W.length 0 X' s' I' J' (by omega) h (fun i hi => by simp at hi) (mK.rf _ _ _) (sK.rf _ _) (qSame.rf _ _ _)
    · obtain ⟨a, b, n1, g1, g2, g3⟩ := hmem p hp
      obtain ⟨-, -, k3⟩ := yWo_kid hm g3.2.2.2
      exact ⟨g1, fun e he => by obtain ⟨c, c1, c2⟩ := k3 e he; exact ⟨c, by omega, c2⟩⟩
    · refine v_iload_n i_M_leaves_107 rfl ?_
      refine v_istore_n i_M_leaves_108 (by decide) rfl ?_
      refine v_iconst (v := 0) i_M_leaves_109 rfl ?_
      refine v_istore i_M_leaves_110 (by decide) rfl ?_
      refine v_loc [(0, .ref m), (1, .int (nI v)), (2, .int (nI (W.flatMap (yKid (yVw pg v))).length)), (3, .int (nI (W.flatMap (yKid (yVw pg v))).length)), (4, .int (nI 0))] rfl ?_
      refine c_M_leaves_c (X := X2) (s := s2) (I := I2) (J := J2) B (nI v) (W.flatMap (yKid (yVw pg v))) ha2 (by omega) (fun X3 I3 h3' ha3 hk3 hf3 => ?_) _ (W.flatMap (yKid (yVw pg v))).length 0 X2 I2 (by omega) h2 (fun t ht => by omega) (mK.rf _ _ _) (qSame.rf _ _ _)
      refine v_goto (tgt := 14) i_M_leaves_138 rfl ?_
      refine ih (W.flatMap (yKid (yVw pg v))) X3 s2 I3 J2 hne (by omega) hst hWk h3' ha3 ((hk.trans (hk2.mono (by decide))).trans (hk3.mono (by decide))) (hs.trans hs2) ((hf.trans hf2).trans hf3)
end ML
