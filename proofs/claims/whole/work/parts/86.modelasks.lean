/-! the reference: next, count, sum -/
theorem mRO.one {X X' X2 : qX} {m : Nat} {s s2 : Nat → Int32} {I I2 : Nat → Nat → Int32} {J J2 : Nat → Nat → Int64} {c : Int32} (h : MAt X2 m s2 I2 J2) (hc : s2 0 = c) (hk : mK [21, 22, 24, 25, 28, 29] I J I2 J2) (hs : sK [0, 28, 29, 33, 39] s s2) (f : qSame X X2 m (m + 30)) : mRO X X2 m s I J c := ⟨s2, I2, J2, h, hc, hk.mono (by decide), hs, f⟩
theorem rsum_app (A : qRw) (x : Int32 × Int64) : rsum (A ++ [x]) = rsum A + x.2 := by
  induction A with
  | nil => show x.2 + 0 = 0 + x.2; rw [Int64.add_zero, Int64.zero_add]
  | cons y t ih => show y.2 + rsum (t ++ [x]) = y.2 + rsum t + x.2; rw [ih, Int64.add_assoc]
theorem filter_take {K : qRw} {p : Int32 × Int64 → Bool} {i : Nat} (h : i < K.length) : (K.take (i + 1)).filter p = (K.take i).filter p ++ (if p (rk K i, rv K i) = true then [(rk K i, rv K i)] else []) := by
  have e2 : (rk K i, rv K i) = K[i] := by
    unfold rk rv
    rw [List.getD_eq_getElem?_getD, List.getElem?_eq_getElem h]
    rfl
  rw [List.take_succ_eq_append_getElem h, List.filter_append, e2, List.filter_cons, List.filter_nil]
section MO
variable {X X' : qX} {m : Nat} {s : Nat → Int32} {I : Nat → Nat → Int32} {J : Nat → Nat → Int64}
variable {pg : Nat → Pg} {made lat rb : Nat} {dt : Nat → Bool} {ro : Nat → Nat}
variable {l : Launch} {s0 : State} {C : qC}
theorem yBt_max {k : Int32} {e : Int32 × Int64} : yBt k 2147483647 e = decide (k ≤ e.1) := by
  unfold yBt
  refine decide_eq_decide.mpr ⟨fun q => Int32.le_iff_toInt_le.mpr q.1, fun q => ⟨Int32.le_iff_toInt_le.mp q, ?_⟩⟩
  have := Int32.toInt_lt e.1
  have e2 : (2147483647 : Int32).toInt = 2147483647 := by decide
  omega
theorem next_split {K : qRw} {k : Int32} {i : Nat} (hi : i < K.length) (ha : ∀ t, t < i → rk K t < k) (hk : k ≤ rk K i) : ∃ t, K.filter (yBt k 2147483647) = (rk K i, rv K i) :: t := by
  have e2 : (rk K i, rv K i) = K[i] := by
    unfold rk rv
    rw [List.getD_eq_getElem?_getD, List.getElem?_eq_getElem hi]
    rfl
  have e : K = K.take i ++ K[i] :: K.drop (i + 1) := by rw [← List.drop_eq_getElem_cons hi, List.take_append_drop]
  have h1 : (K.take i).filter (yBt k 2147483647) = [] := filter_none (fun x hx => by
    obtain ⟨t, t1, t2⟩ := List.getElem_of_mem hx
    rw [List.length_take] at t1
    have : x = K[t]'(by omega) := by rw [← t2, List.getElem_take]
    have hr : rk K t = x.1 := by
      rw [this]
      unfold rk
      rw [List.getD_eq_getElem?_getD, List.getElem?_eq_getElem (by omega)]; rfl
    rw [yBt_max, ← hr]
    exact decide_eq_false (fun q => absurd (Int32.lt_of_le_of_lt q (ha t (by omega))) Int32.lt_irrefl))
  refine ⟨(K.drop (i + 1)).filter (yBt k 2147483647), ?_⟩
  rw [e2]
  conv => lhs; rw [e]
  rw [List.filter_append, h1, List.nil_append, List.filter_cons, if_pos]
  rw [yBt_max, ← e2]; exact decide_eq_true hk
theorem next_none {K : qRw} {k : Int32} (ha : ∀ t, t < K.length → rk K t < k) : K.filter (yBt k 2147483647) = [] := filter_none (fun x hx => by
    obtain ⟨t, t1, t2⟩ := List.getElem_of_mem hx
    have hr : rk K t = x.1 := by
      rw [← t2]
      unfold rk
      rw [List.getD_eq_getElem?_getD, List.getElem?_eq_getElem (by omega)]; rfl
    rw [yBt_max, ← hr]
    exact decide_eq_false (fun q => absurd (Int32.lt_of_le_of_lt q (ha t (by omega))) Int32.lt_irrefl))
theorem c_M_next_loop (B : qB l s0 C) (h : MAt X m s I J) {K : qRw} (hO : mOne s I J K) (z1 k : Int32) {Qp : Option Value → qX → Prop}
    (G : ∀ i, i ≤ K.length → (∀ t, t < i → rk K t < k) → (i < K.length → k ≤ rk K i) → qV l s0 C m_M_next rm_M_next Qp (fun _ _ => False) 0 0 X 59 [(0, .ref m), (1, .int z1), (2, .int k), (3, .int (nI i))] []) : ∀ (j i : Nat), i + j = K.length → (∀ t, t < i → rk K t < k) →
      qV l s0 C m_M_next rm_M_next Qp (fun _ _ => False) 0 0 X 35 [(0, .ref m), (1, .int z1), (2, .int k), (3, .int (nI i))] [] := by
  obtain ⟨o1, o2, o3⟩ := id hO
  obtain ⟨h0, a1, a2, a3, a4, a5, a6, a7, a8, a9, a10, a11, a12, a13, a14, a15, a16, a17, a18, a19, a20, a21, a22, a23, a24, a25, a26, a27, a28, a29⟩ := h.all
  intro j
  induction j with
  | zero =>
    intro i hj ha
    refine v_iload_n i_M_next_35 rfl ?_
    refine v_aload_n i_M_next_36 rfl ?_
    refine v_get B i_M_next_37 (by first | assumption | exact qset_self _ _ _ | (rw [qset_ne _ _ (by omega)]; first | assumption | exact qset_self _ _ _ | (rw [qset_ne _ _ (by omega)]; first | assumption | exact qset_self _ _ _ | (rw [qset_ne _ _ (by omega)]; first | assumption | exact qset_self _ _ _ | (rw [qset_ne _ _ (by omega)]; first | assumption | exact qset_self _ _ _ | (rw [qset_ne _ _ (by omega)]; first | assumption | exact qset_self _ _ _ | (rw [qset_ne _ _ (by omega)]; first | assumption | exact qset_self _ _ _))))))) rfl ?_
    rw [o1]
    refine v_icmp_ge (tgt := 59) i_M_next_40 rfl (fun _ => G i (by omega) ha (fun q => by omega)) (fun q40 => absurd (nI_le (by omega) (by omega)) q40)
  | succ j ih =>
    intro i hj ha
    refine v_iload_n i_M_next_35 rfl ?_
    refine v_aload_n i_M_next_36 rfl ?_
    refine v_get B i_M_next_37 (by first | assumption | exact qset_self _ _ _ | (rw [qset_ne _ _ (by omega)]; first | assumption | exact qset_self _ _ _ | (rw [qset_ne _ _ (by omega)]; first | assumption | exact qset_self _ _ _ | (rw [qset_ne _ _ (by omega)]; first | assumption | exact qset_self _ _ _ | (rw [qset_ne _ _ (by omega)]; first | assumption | exact qset_self _ _ _ | (rw [qset_ne _ _ (by omega)]; first | assumption | exact qset_self _ _ _ | (rw [qset_ne _ _ (by omega)]; first | assumption | exact qset_self _ _ _))))))) rfl ?_
    rw [o1]
    refine v_icmp_ge (tgt := 59) i_M_next_40 rfl (fun q40 => absurd q40 (nI_ge (by omega) (by omega))) (fun _ => ?_)
    refine v_aload_n i_M_next_43 rfl ?_
    refine v_get B i_M_next_44 (by first | assumption | exact qset_self _ _ _ | (rw [qset_ne _ _ (by omega)]; first | assumption | exact qset_self _ _ _ | (rw [qset_ne _ _ (by omega)]; first | assumption | exact qset_self _ _ _ | (rw [qset_ne _ _ (by omega)]; first | assumption | exact qset_self _ _ _ | (rw [qset_ne _ _ (by omega)]; first | assumption | exact qset_self _ _ _ | (rw [qset_ne _ _ (by omega)]; first | assumption | exact qset_self _ _ _ | (rw [qset_ne _ _ (by omega)]; first | assumption | exact qset_self _ _ _))))))) rfl ?_
    refine v_iload_n i_M_next_47 rfl ?_
    refine v_iald B (by first | assumption | exact qset_self _ _ _ | (rw [qset_ne _ _ (by omega)]; first | assumption | exact qset_self _ _ _ | (rw [qset_ne _ _ (by omega)]; first | assumption | exact qset_self _ _ _ | (rw [qset_ne _ _ (by omega)]; first | assumption | exact qset_self _ _ _ | (rw [qset_ne _ _ (by omega)]; first | assumption | exact qset_self _ _ _ | (rw [qset_ne _ _ (by omega)]; first | assumption | exact qset_self _ _ _ | (rw [qset_ne _ _ (by omega)]; first | assumption | exact qset_self _ _ _))))))) rfl (by omega) (by omega) i_M_next_48 ?_
    refine v_iload_n i_M_next_49 rfl ?_
    rw [(o3 i (by omega)).1]
    refine v_icmp_ge (tgt := 59) i_M_next_50 rfl (fun q50 => G i (by omega) ha (fun _ => q50)) (fun q50 => ?_)
    refine v_iinc (v := nI (i + 1)) i_M_next_53 rfl (nI_1 _) (by decide) rfl ?_
    refine v_goto (tgt := 35) i_M_next_56 rfl ?_
    refine v_loc [(0, .ref m), (1, .int z1), (2, .int k), (3, .int (nI (i + 1)))] rfl (ih (i + 1) (by omega) (fun t ht => ?_))
    by_cases q : t = i
    · subst q; exact Int32.not_le.mp q50
    · exact ha t (by omega)
theorem c_M_next (B : qB l s0 C) (h : MAt X m s I J) {b : Bool} (hb : s 25 = bI b) (hl : s 12 = nI lat) (hlt : lat < 4000) (hT : MT s I J pg made lat dt ro rb) (hrb : lat ≤ rb) (hg : ∀ j, j ≤ lat → yGd pg made (ro j) j) (v k : Int32) : qMet l s0 C m_M_next rm_M_next [.ref m, .int v, .int k] X (fun r X' => ∃ z cd, r = some (.int z) ∧ (b = false → ∀ j, j ≤ lat → v = nI j → ((yKs pg (ro j) j).filter (yBt k 2147483647) = [] ∧ cd = 3 ∨ ∃ e t, (yKs pg (ro j) j).filter (yBt k 2147483647) = e :: t ∧ cd = 0 ∧ z = e.1)) ∧ ((b || !(ver v lat)) = true → cd = mcode b (!(ver v lat)) false false) ∧ mRO X X' m s I J cd) (fun _ _ => False) := by
  obtain ⟨h0, -⟩ := id h
  refine q_of (by decide +kernel) (Nat.le_of_ble_eq_true rfl) ?_
  refine v_L (L' := [(0, .ref m), (1, .int v), (2, .int k)]) rfl ?_
  refine v_aload_n i_M_next_0 rfl ?_
  refine v_aload_n i_M_next_1 rfl ?_
  refine v_get B i_M_next_2 (by first | assumption | exact qset_self _ _ _ | (rw [qset_ne _ _ (by omega)]; first | assumption | exact qset_self _ _ _ | (rw [qset_ne _ _ (by omega)]; first | assumption | exact qset_self _ _ _ | (rw [qset_ne _ _ (by omega)]; first | assumption | exact qset_self _ _ _ | (rw [qset_ne _ _ (by omega)]; first | assumption | exact qset_self _ _ _ | (rw [qset_ne _ _ (by omega)]; first | assumption | exact qset_self _ _ _ | (rw [qset_ne _ _ (by omega)]; first | assumption | exact qset_self _ _ _))))))) rfl ?_
  refine v_aload_n i_M_next_5 rfl ?_
  refine v_iload_n i_M_next_6 rfl ?_
  rw [hb]
  refine v_inv B i_M_next_7 kn_m_M_isVersion (c_M_isVersion B h hl v) h0 rfl rfl (Nat.le_of_ble_eq_true rfl) ⟨by decide, by decide, by first | decide | (simp; omega), by first | decide | (simp; omega)⟩ rfl (fun r X' hq => ?_) (fun _ _ h => False.elim h)
  obtain ⟨rfl, rfl⟩ := hq
  refine v_neg (tgt := 17) (e := 18) i_M_next_10 rfl i_M_next_13 i_M_next_14 rfl i_M_next_17 rfl ?_
  refine v_iconst (v := 0) i_M_next_18 rfl ?_
  refine v_iconst (v := 0) i_M_next_19 rfl ?_
  refine v_inv B i_M_next_20 kn_m_M_fails (c_M_fails B h b (!(ver v lat)) false false) h0 rfl rfl (Nat.le_of_ble_eq_true rfl) ⟨by decide, by decide, by first | decide | (simp; omega), by first | decide | (simp; omega)⟩ rfl (fun r X' hq => ?_) (fun _ _ h => False.elim h)
  obtain ⟨rfl, h1, f1⟩ := hq
  have ho := mRO.of h1 f1
  obtain ⟨k0, -⟩ := id h1
  obtain ⟨t1, ⟨t2, t2b, t2c, t2d⟩, t3, t4, t5, t6⟩ := id hT
  by_cases hf : (b || !(ver v lat) || false || false) = true
  · rw [hf]
    refine v_if_eq (tgt := 28) i_M_next_23 rfl (fun q23 => absurd q23 (by decide)) (fun _ => ?_)
    refine v_iconst (v := 0) i_M_next_26 rfl ?_
    refine v_iret i_M_next_27 rfl (by decide) (by decide) ⟨0, mcode b (!(ver v lat)) false false, rfl, fun hb0 j hj hvj => ?_, fun _ => rfl, ho⟩
    rw [hb0, hvj, ver_nI hj hlt] at hf; exact absurd hf (by decide)
  · rw [Bool.not_eq_true] at hf
    rw [hf]
    simp only [Bool.or_false, Bool.or_eq_false_iff, Bool.not_eq_false'] at hf
    obtain ⟨hf1, hf2⟩ := hf
    rw [hf1, hf2] at h1
    obtain ⟨j, j1, rfl⟩ := ver_of hf2 hlt
    refine v_if_eq (tgt := 28) i_M_next_23 rfl (fun _ => ?_) (fun q23 => absurd rfl q23)
    refine v_aload_n i_M_next_28 rfl ?_
    refine v_iload_n i_M_next_29 rfl ?_
    refine v_inv B i_M_next_30 kn_m_M_collect (c_M_collect B h1 (by omega) t4 t2b (t5 j (by omega)).1 (hg j j1)) k0 rfl rfl (Nat.le_of_ble_eq_true rfl) ⟨by decide, by decide, by first | decide | (simp; omega), by first | decide | (simp; omega)⟩ rfl (fun r X' hq => ?_) (fun _ _ h => False.elim h)
    obtain ⟨rfl, s2, I2, J2, h2, hO, hk2, hs2, hf2'⟩ := hq
    have hs2' : sK [0, 28, 29, 33, 39] s s2 := ((sK.rf [0, 28, 29, 33, 39] s).set (j := 0) (x := mcode false (!true) false false) (by decide)).trans (hs2.mono (by decide))
    have hc2 : s2 0 = 0 := by rw [hs2 0 (by decide), pk_us]; rfl
    have hff := f1.trans hf2'
    have hlen : (yKs pg (ro j) j).length ≤ 4200 := hO.2.1
    have uni : ∀ j', j' ≤ lat → nI j = nI j' → j = j' := fun j' hj' e => (nI_eq (by omega) (by omega)).mp e
    generalize hKK : yKs pg (ro j) j = K at hO hlen
    refine v_iconst (v := 0) i_M_next_33 rfl ?_
    refine v_istore_n i_M_next_34 (by decide) rfl ?_
    refine v_loc [(0, .ref m), (1, .int (nI j)), (2, .int k), (3, .int (nI 0))] rfl ?_
    refine c_M_next_loop B h2 hO (nI j) k (fun i i1 i2 i3 => ?_) K.length 0 (by omega) (fun t ht => by omega)
    obtain ⟨o1, o2, o3⟩ := id hO
    obtain ⟨k2, -⟩ := id h2
    have main : ∀ f : Bool, f = decide (i = K.length) → qV l s0 C m_M_next rm_M_next (fun r X' => ∃ z cd, r = some (.int z) ∧ (b = false → ∀ j', j' ≤ lat → nI j = nI j' → ((yKs pg (ro j') j').filter (yBt k 2147483647) = [] ∧ cd = 3 ∨ ∃ e t, (yKs pg (ro j') j').filter (yBt k 2147483647) = e :: t ∧ cd = 0 ∧ z = e.1)) ∧ ((b || !(ver (nI j) lat)) = true → cd = mcode b (!(ver (nI j) lat)) false false) ∧ mRO X X' m s I J cd) (fun _ _ => False) 0 0 X' 75 [(0, .ref m), (1, .int (nI j)), (2, .int k), (3, .int (nI i))] [.int (bI f), .int 0, .int 0, .ref m] := by
      intro f hfe
      refine v_iconst (v := 0) i_M_next_75 rfl ?_
      refine v_inv B i_M_next_76 kn_m_M_fails (c_M_fails B h2 false false f false) k2 rfl rfl (Nat.le_of_ble_eq_true rfl) ⟨by decide, by decide, by first | decide | (simp; omega), by first | decide | (simp; omega)⟩ rfl (fun r X' hq => ?_) (fun _ _ h => False.elim h)
      obtain ⟨rfl, h3, f3⟩ := hq
      obtain ⟨k3, -⟩ := id h3
      have hfl : (b || !(ver (nI j) lat)) = true → False := by rw [hf1, hf2]; decide
      cases f with
      | true =>
        have hi := of_decide_eq_true hfe.symm
        refine v_if_eq (tgt := 86) i_M_next_79 rfl (fun q79 => absurd q79 (by decide)) (fun _ => ?_)
        refine v_iconst (v := 0) i_M_next_82 rfl ?_
        refine v_goto (tgt := 92) i_M_next_83 rfl ?_
        refine v_iret i_M_next_92 rfl (by decide) (by decide) ⟨0, 3, rfl, fun _ j' hj' e => Or.inl ⟨?_, rfl⟩, fun q => absurd q (fun z => hfl z), mRO.one (X' := X) h3 pk_us hk2 (hs2'.set (by decide)) (hff.trans f3)⟩
        rw [← uni j' hj' e, hKK]
        exact next_none (fun t ht => i2 t (by omega))
      | false =>
        have hi := of_decide_eq_false hfe.symm
        refine v_if_eq (tgt := 86) i_M_next_79 rfl (fun _ => ?_) (fun q79 => absurd rfl q79)
        obtain ⟨_, _, _, _, _, _, _, _, _, _, _, _, _, _, _, _, _, _, _, _, _, _, _, _, a24, _⟩ := h3.all
        refine v_aload_n i_M_next_86 rfl ?_
        refine v_get B i_M_next_87 (by first | assumption | exact qset_self _ _ _ | (rw [qset_ne _ _ (by omega)]; first | assumption | exact qset_self _ _ _ | (rw [qset_ne _ _ (by omega)]; first | assumption | exact qset_self _ _ _ | (rw [qset_ne _ _ (by omega)]; first | assumption | exact qset_self _ _ _ | (rw [qset_ne _ _ (by omega)]; first | assumption | exact qset_self _ _ _ | (rw [qset_ne _ _ (by omega)]; first | assumption | exact qset_self _ _ _ | (rw [qset_ne _ _ (by omega)]; first | assumption | exact qset_self _ _ _))))))) rfl ?_
        refine v_iload_n i_M_next_90 rfl ?_
        refine v_iald (j := i) B a24 rfl (by omega) (by omega) i_M_next_91 ?_
        rw [(o3 i (by omega)).1]
        refine v_iret i_M_next_92 rfl (by decide) (by decide) ⟨_, 0, rfl, fun _ j' hj' e => Or.inr ?_, fun q => absurd q (fun z => hfl z), mRO.one (X' := X) h3 pk_us hk2 (hs2'.set (by decide)) (hff.trans f3)⟩
        rw [← uni j' hj' e, hKK]
        obtain ⟨t, ht⟩ := next_split (K := K) (k := k) (i := i) (by omega) i2 (i3 (by omega))
        exact ⟨_, t, ht, rfl, rfl⟩
    refine v_aload_n i_M_next_59 rfl ?_
    refine v_iconst (v := 0) i_M_next_60 rfl ?_
    refine v_iconst (v := 0) i_M_next_61 rfl ?_
    refine v_iload_n i_M_next_62 rfl ?_
    refine v_aload_n i_M_next_63 rfl ?_
    refine v_get B i_M_next_64 (by first | assumption | exact qset_self _ _ _ | (rw [qset_ne _ _ (by omega)]; first | assumption | exact qset_self _ _ _ | (rw [qset_ne _ _ (by omega)]; first | assumption | exact qset_self _ _ _ | (rw [qset_ne _ _ (by omega)]; first | assumption | exact qset_self _ _ _ | (rw [qset_ne _ _ (by omega)]; first | assumption | exact qset_self _ _ _ | (rw [qset_ne _ _ (by omega)]; first | assumption | exact qset_self _ _ _ | (rw [qset_ne _ _ (by omega)]; first | assumption | exact qset_self _ _ _))))))) rfl ?_
    rw [o1]
    refine v_icmp_ne (tgt := 74) i_M_next_67 rfl (fun q67 => ?_) (fun q67 => ?_)
    · refine v_iconst (v := 0) i_M_next_74 rfl ?_
      exact main false (decide_eq_false (fun z => q67 (by rw [z]))).symm
    · refine v_iconst (v := 1) i_M_next_70 rfl ?_
      refine v_goto (tgt := 75) i_M_next_71 rfl ?_
      exact main true (decide_eq_true ((nI_eq (by omega) (by omega)).mp q67)).symm
theorem yBt_iff {lo hi : Int32} {x : Int32 × Int64} : yBt lo hi x = true ↔ lo ≤ x.1 ∧ x.1 ≤ hi := by
  unfold yBt
  exact ⟨fun q => by have := of_decide_eq_true q; exact ⟨Int32.le_iff_toInt_le.mpr this.1, Int32.le_iff_toInt_le.mpr this.2⟩, fun q => decide_eq_true ⟨Int32.le_iff_toInt_le.mp q.1, Int32.le_iff_toInt_le.mp q.2⟩⟩
theorem c_M_count_loop (B : qB l s0 C) (h : MAt X m s I J) {K : qRw} (hO : mOne s I J K) (z1 lo hi : Int32) {Qp : Option Value → qX → Prop}
    (G : qV l s0 C m_M_count rm_M_count Qp (fun _ _ => False) 0 0 X 86 [(0, .ref m), (1, .int z1), (2, .int lo), (3, .int hi), (4, .int (nI ((K).filter (yBt lo hi)).length))] []) : ∀ (j i : Nat), i + j = K.length →
      qV l s0 C m_M_count rm_M_count Qp (fun _ _ => False) 0 0 X 39 [(0, .ref m), (1, .int z1), (2, .int lo), (3, .int hi), (4, .int (nI ((K.take i).filter (yBt lo hi)).length)), (5, .int (nI i))] [] := by
  obtain ⟨o1, o2, o3⟩ := id hO
  obtain ⟨h0, a1, a2, a3, a4, a5, a6, a7, a8, a9, a10, a11, a12, a13, a14, a15, a16, a17, a18, a19, a20, a21, a22, a23, a24, a25, a26, a27, a28, a29⟩ := h.all
  intro j
  induction j with
  | zero =>
    intro i hj
    refine v_iload i_M_count_39 rfl ?_
    refine v_aload_n i_M_count_41 rfl ?_
    refine v_get B i_M_count_42 (by first | assumption | exact qset_self _ _ _ | (rw [qset_ne _ _ (by omega)]; first | assumption | exact qset_self _ _ _ | (rw [qset_ne _ _ (by omega)]; first | assumption | exact qset_self _ _ _ | (rw [qset_ne _ _ (by omega)]; first | assumption | exact qset_self _ _ _ | (rw [qset_ne _ _ (by omega)]; first | assumption | exact qset_self _ _ _ | (rw [qset_ne _ _ (by omega)]; first | assumption | exact qset_self _ _ _ | (rw [qset_ne _ _ (by omega)]; first | assumption | exact qset_self _ _ _))))))) rfl ?_
    rw [o1]
    refine v_icmp_ge (tgt := 86) i_M_count_45 rfl (fun _ => ?_) (fun q45 => absurd (nI_le (by omega) (by omega)) q45)
    rw [show i = K.length by omega, List.take_length]
    exact v_loc [(0, .ref m), (1, .int z1), (2, .int lo), (3, .int hi), (4, .int (nI ((K).filter (yBt lo hi)).length))] rfl G
  | succ j ih =>
    intro i hj
    refine v_iload i_M_count_39 rfl ?_
    refine v_aload_n i_M_count_41 rfl ?_
    refine v_get B i_M_count_42 (by first | assumption | exact qset_self _ _ _ | (rw [qset_ne _ _ (by omega)]; first | assumption | exact qset_self _ _ _ | (rw [qset_ne _ _ (by omega)]; first | assumption | exact qset_self _ _ _ | (rw [qset_ne _ _ (by omega)]; first | assumption | exact qset_self _ _ _ | (rw [qset_ne _ _ (by omega)]; first | assumption | exact qset_self _ _ _ | (rw [qset_ne _ _ (by omega)]; first | assumption | exact qset_self _ _ _ | (rw [qset_ne _ _ (by omega)]; first | assumption | exact qset_self _ _ _))))))) rfl ?_
    rw [o1]
    refine v_icmp_ge (tgt := 86) i_M_count_45 rfl (fun q45 => absurd q45 (nI_ge (by omega) (by omega))) (fun _ => ?_)
    have step : ∀ (z : Int32), nI ((K.take i).filter (yBt lo hi)).length + z = nI ((K.take (i + 1)).filter (yBt lo hi)).length → qV l s0 C m_M_count rm_M_count Qp (fun _ _ => False) 0 0 X 77 [(0, .ref m), (1, .int z1), (2, .int lo), (3, .int hi), (4, .int (nI ((K.take i).filter (yBt lo hi)).length)), (5, .int (nI i))] [.int z, .int (nI ((K.take i).filter (yBt lo hi)).length)] := by
      intro z hz
      refine v_iadd i_M_count_77 ?_
      rw [hz]
      refine v_istore i_M_count_78 (by decide) rfl ?_
      refine v_iinc (v := nI (i + 1)) i_M_count_80 rfl (nI_1 _) (by decide) rfl ?_
      refine v_goto (tgt := 39) i_M_count_83 rfl ?_
      exact v_loc [(0, .ref m), (1, .int z1), (2, .int lo), (3, .int hi), (4, .int (nI ((K.take (i + 1)).filter (yBt lo hi)).length)), (5, .int (nI (i + 1)))] rfl (ih (i + 1) (by omega))
    have eT := filter_take (K := K) (p := yBt lo hi) (i := i) (by omega)
    have no : ¬ yBt lo hi (rk K i, rv K i) = true → nI ((K.take i).filter (yBt lo hi)).length + 0 = nI ((K.take (i + 1)).filter (yBt lo hi)).length := by
      intro q; rw [eT, if_neg q, List.append_nil]; exact Int32.add_zero _
    have ys : yBt lo hi (rk K i, rv K i) = true → nI ((K.take i).filter (yBt lo hi)).length + 1 = nI ((K.take (i + 1)).filter (yBt lo hi)).length := by
      intro q; rw [eT, if_pos q, List.length_append]; exact nI_1 _
    refine v_iload i_M_count_48 rfl ?_
    refine v_aload_n i_M_count_50 rfl ?_
    refine v_get B i_M_count_51 (by first | assumption | exact qset_self _ _ _ | (rw [qset_ne _ _ (by omega)]; first | assumption | exact qset_self _ _ _ | (rw [qset_ne _ _ (by omega)]; first | assumption | exact qset_self _ _ _ | (rw [qset_ne _ _ (by omega)]; first | assumption | exact qset_self _ _ _ | (rw [qset_ne _ _ (by omega)]; first | assumption | exact qset_self _ _ _ | (rw [qset_ne _ _ (by omega)]; first | assumption | exact qset_self _ _ _ | (rw [qset_ne _ _ (by omega)]; first | assumption | exact qset_self _ _ _))))))) rfl ?_
    refine v_iload i_M_count_54 rfl ?_
    refine v_iald B (by first | assumption | exact qset_self _ _ _ | (rw [qset_ne _ _ (by omega)]; first | assumption | exact qset_self _ _ _ | (rw [qset_ne _ _ (by omega)]; first | assumption | exact qset_self _ _ _ | (rw [qset_ne _ _ (by omega)]; first | assumption | exact qset_self _ _ _ | (rw [qset_ne _ _ (by omega)]; first | assumption | exact qset_self _ _ _ | (rw [qset_ne _ _ (by omega)]; first | assumption | exact qset_self _ _ _ | (rw [qset_ne _ _ (by omega)]; first | assumption | exact qset_self _ _ _))))))) rfl (by omega) (by omega) i_M_count_56 ?_
    refine v_iload_n i_M_count_57 rfl ?_
    rw [(o3 i (by omega)).1]
    refine v_icmp_lt (tgt := 76) i_M_count_58 rfl (fun q58 => ?_) (fun q58 => ?_)
    · refine v_iconst (v := 0) i_M_count_76 rfl ?_
      exact step 0 (no (fun q => absurd (Int32.lt_of_lt_of_le q58 (yBt_iff.mp q).1) Int32.lt_irrefl))
    · refine v_aload_n i_M_count_61 rfl ?_
      refine v_get B i_M_count_62 (by first | assumption | exact qset_self _ _ _ | (rw [qset_ne _ _ (by omega)]; first | assumption | exact qset_self _ _ _ | (rw [qset_ne _ _ (by omega)]; first | assumption | exact qset_self _ _ _ | (rw [qset_ne _ _ (by omega)]; first | assumption | exact qset_self _ _ _ | (rw [qset_ne _ _ (by omega)]; first | assumption | exact qset_self _ _ _ | (rw [qset_ne _ _ (by omega)]; first | assumption | exact qset_self _ _ _ | (rw [qset_ne _ _ (by omega)]; first | assumption | exact qset_self _ _ _))))))) rfl ?_
      refine v_iload i_M_count_65 rfl ?_
      refine v_iald B (by first | assumption | exact qset_self _ _ _ | (rw [qset_ne _ _ (by omega)]; first | assumption | exact qset_self _ _ _ | (rw [qset_ne _ _ (by omega)]; first | assumption | exact qset_self _ _ _ | (rw [qset_ne _ _ (by omega)]; first | assumption | exact qset_self _ _ _ | (rw [qset_ne _ _ (by omega)]; first | assumption | exact qset_self _ _ _ | (rw [qset_ne _ _ (by omega)]; first | assumption | exact qset_self _ _ _ | (rw [qset_ne _ _ (by omega)]; first | assumption | exact qset_self _ _ _))))))) rfl (by omega) (by omega) i_M_count_67 ?_
      refine v_iload_n i_M_count_68 rfl ?_
      rw [(o3 i (by omega)).1]
      refine v_icmp_gt (tgt := 76) i_M_count_69 rfl (fun q69 => ?_) (fun q69 => ?_)
      · refine v_iconst (v := 0) i_M_count_76 rfl ?_
        exact step 0 (no (fun q => absurd (Int32.lt_of_lt_of_le q69 (yBt_iff.mp q).2) Int32.lt_irrefl))
      · refine v_iconst (v := 1) i_M_count_72 rfl ?_
        refine v_goto (tgt := 77) i_M_count_73 rfl ?_
        exact step 1 (ys (yBt_iff.mpr ⟨Int32.not_lt.mp q58, Int32.not_lt.mp q69⟩))
theorem c_M_count (B : qB l s0 C) (h : MAt X m s I J) {b : Bool} (hb : s 25 = bI b) (hl : s 12 = nI lat) (hlt : lat < 4000) (hT : MT s I J pg made lat dt ro rb) (hrb : lat ≤ rb) (hg : ∀ j, j ≤ lat → yGd pg made (ro j) j) (v lo hi : Int32) : qMet l s0 C m_M_count rm_M_count [.ref m, .int v, .int lo, .int hi] X (fun r X' => ∃ z cd, r = some (.int z) ∧ (b = false → ∀ j, j ≤ lat → v = nI j → cd = 0 ∧ z = nI ((yKs pg (ro j) j).filter (yBt lo hi)).length) ∧ ((b || !(ver v lat)) = true → cd = mcode b (!(ver v lat)) false false) ∧ mRO X X' m s I J cd) (fun _ _ => False) := by
  obtain ⟨h0, -⟩ := id h
  refine q_of (by decide +kernel) (Nat.le_of_ble_eq_true rfl) ?_
  refine v_L (L' := [(0, .ref m), (1, .int v), (2, .int lo), (3, .int hi)]) rfl ?_
  refine v_aload_n i_M_count_0 rfl ?_
  refine v_aload_n i_M_count_1 rfl ?_
  refine v_get B i_M_count_2 (by first | assumption | exact qset_self _ _ _ | (rw [qset_ne _ _ (by omega)]; first | assumption | exact qset_self _ _ _ | (rw [qset_ne _ _ (by omega)]; first | assumption | exact qset_self _ _ _ | (rw [qset_ne _ _ (by omega)]; first | assumption | exact qset_self _ _ _ | (rw [qset_ne _ _ (by omega)]; first | assumption | exact qset_self _ _ _ | (rw [qset_ne _ _ (by omega)]; first | assumption | exact qset_self _ _ _ | (rw [qset_ne _ _ (by omega)]; first | assumption | exact qset_self _ _ _))))))) rfl ?_
  refine v_aload_n i_M_count_5 rfl ?_
  refine v_iload_n i_M_count_6 rfl ?_
  rw [hb]
  refine v_inv B i_M_count_7 kn_m_M_isVersion (c_M_isVersion B h hl v) h0 rfl rfl (Nat.le_of_ble_eq_true rfl) ⟨by decide, by decide, by first | decide | (simp; omega), by first | decide | (simp; omega)⟩ rfl (fun r X' hq => ?_) (fun _ _ h => False.elim h)
  obtain ⟨rfl, rfl⟩ := hq
  refine v_neg (tgt := 17) (e := 18) i_M_count_10 rfl i_M_count_13 i_M_count_14 rfl i_M_count_17 rfl ?_
  refine v_iconst (v := 0) i_M_count_18 rfl ?_
  refine v_iconst (v := 0) i_M_count_19 rfl ?_
  refine v_inv B i_M_count_20 kn_m_M_fails (c_M_fails B h b (!(ver v lat)) false false) h0 rfl rfl (Nat.le_of_ble_eq_true rfl) ⟨by decide, by decide, by first | decide | (simp; omega), by first | decide | (simp; omega)⟩ rfl (fun r X' hq => ?_) (fun _ _ h => False.elim h)
  obtain ⟨rfl, h1, f1⟩ := hq
  have ho := mRO.of h1 f1
  obtain ⟨k0, -⟩ := id h1
  obtain ⟨t1, ⟨t2, t2b, t2c, t2d⟩, t3, t4, t5, t6⟩ := id hT
  by_cases hf : (b || !(ver v lat) || false || false) = true
  · rw [hf]
    refine v_if_eq (tgt := 28) i_M_count_23 rfl (fun q23 => absurd q23 (by decide)) (fun _ => ?_)
    refine v_iconst (v := 0) i_M_count_26 rfl ?_
    refine v_iret i_M_count_27 rfl (by decide) (by decide) ⟨0, mcode b (!(ver v lat)) false false, rfl, fun hb0 j hj hvj => ?_, fun _ => rfl, ho⟩
    rw [hb0, hvj, ver_nI hj hlt] at hf; exact absurd hf (by decide)
  · rw [Bool.not_eq_true] at hf
    rw [hf]
    simp only [Bool.or_false, Bool.or_eq_false_iff, Bool.not_eq_false'] at hf
    obtain ⟨hf1, hf2⟩ := hf
    rw [hf1, hf2] at h1
    obtain ⟨j, j1, rfl⟩ := ver_of hf2 hlt
    refine v_if_eq (tgt := 28) i_M_count_23 rfl (fun _ => ?_) (fun q23 => absurd rfl q23)
    refine v_aload_n i_M_count_28 rfl ?_
    refine v_iload_n i_M_count_29 rfl ?_
    refine v_inv B i_M_count_30 kn_m_M_collect (c_M_collect B h1 (by omega) t4 t2b (t5 j (by omega)).1 (hg j j1)) k0 rfl rfl (Nat.le_of_ble_eq_true rfl) ⟨by decide, by decide, by first | decide | (simp; omega), by first | decide | (simp; omega)⟩ rfl (fun r X' hq => ?_) (fun _ _ h => False.elim h)
    obtain ⟨rfl, s2, I2, J2, h2, hO, hk2, hs2, hf2'⟩ := hq
    have hs2' : sK [0, 28, 29, 33, 39] s s2 := ((sK.rf [0, 28, 29, 33, 39] s).set (j := 0) (x := mcode false (!true) false false) (by decide)).trans (hs2.mono (by decide))
    have hc2 : s2 0 = 0 := by rw [hs2 0 (by decide), pk_us]; rfl
    have hff := f1.trans hf2'
    have hlen : (yKs pg (ro j) j).length ≤ 4200 := hO.2.1
    have uni : ∀ j', j' ≤ lat → nI j = nI j' → j = j' := fun j' hj' e => (nI_eq (by omega) (by omega)).mp e
    generalize hKK : yKs pg (ro j) j = K at hO hlen
    refine v_iconst (v := 0) i_M_count_33 rfl ?_
    refine v_istore i_M_count_34 (by decide) rfl ?_
    refine v_iconst (v := 0) i_M_count_36 rfl ?_
    refine v_istore i_M_count_37 (by decide) rfl ?_
    refine v_loc [(0, .ref m), (1, .int (nI j)), (2, .int lo), (3, .int hi), (4, .int (nI ((K.take 0).filter (yBt lo hi)).length)), (5, .int (nI 0))] rfl ?_
    refine c_M_count_loop B h2 hO (nI j) lo hi ?_ K.length 0 (by omega)
    refine v_iload i_M_count_86 rfl ?_
    refine v_iret i_M_count_88 rfl (by decide) (by decide) ⟨_, 0, rfl, fun _ j' hj' e => ⟨rfl, ?_⟩, fun q => absurd q (by rw [hf1, hf2]; decide), mRO.one (X' := X) h2 hc2 hk2 hs2' hff⟩
    rw [← uni j' hj' e, hKK]
theorem c_M_sum_loop (B : qB l s0 C) (h : MAt X m s I J) {K : qRw} (hO : mOne s I J K) (z1 lo hi : Int32) {Qp : Option Value → qX → Prop}
    (G : qV l s0 C m_M_sum rm_M_sum Qp (fun _ _ => False) 0 0 X 92 [(0, .ref m), (1, .int z1), (2, .int lo), (3, .int hi), (4, .long (rsum ((K).filter (yBt lo hi))))] []) : ∀ (j i : Nat), i + j = K.length →
      qV l s0 C m_M_sum rm_M_sum Qp (fun _ _ => False) 0 0 X 39 [(0, .ref m), (1, .int z1), (2, .int lo), (3, .int hi), (4, .long (rsum ((K.take i).filter (yBt lo hi)))), (6, .int (nI i))] [] := by
  obtain ⟨o1, o2, o3⟩ := id hO
  obtain ⟨h0, a1, a2, a3, a4, a5, a6, a7, a8, a9, a10, a11, a12, a13, a14, a15, a16, a17, a18, a19, a20, a21, a22, a23, a24, a25, a26, a27, a28, a29⟩ := h.all
  intro j
  induction j with
  | zero =>
    intro i hj
    refine v_iload i_M_sum_39 rfl ?_
    refine v_aload_n i_M_sum_41 rfl ?_
    refine v_get B i_M_sum_42 (by first | assumption | exact qset_self _ _ _ | (rw [qset_ne _ _ (by omega)]; first | assumption | exact qset_self _ _ _ | (rw [qset_ne _ _ (by omega)]; first | assumption | exact qset_self _ _ _ | (rw [qset_ne _ _ (by omega)]; first | assumption | exact qset_self _ _ _ | (rw [qset_ne _ _ (by omega)]; first | assumption | exact qset_self _ _ _ | (rw [qset_ne _ _ (by omega)]; first | assumption | exact qset_self _ _ _ | (rw [qset_ne _ _ (by omega)]; first | assumption | exact qset_self _ _ _))))))) rfl ?_
    rw [o1]
    refine v_icmp_ge (tgt := 92) i_M_sum_45 rfl (fun _ => ?_) (fun q45 => absurd (nI_le (by omega) (by omega)) q45)
    rw [show i = K.length by omega, List.take_length]
    exact v_loc [(0, .ref m), (1, .int z1), (2, .int lo), (3, .int hi), (4, .long (rsum ((K).filter (yBt lo hi))))] rfl G
  | succ j ih =>
    intro i hj
    refine v_iload i_M_sum_39 rfl ?_
    refine v_aload_n i_M_sum_41 rfl ?_
    refine v_get B i_M_sum_42 (by first | assumption | exact qset_self _ _ _ | (rw [qset_ne _ _ (by omega)]; first | assumption | exact qset_self _ _ _ | (rw [qset_ne _ _ (by omega)]; first | assumption | exact qset_self _ _ _ | (rw [qset_ne _ _ (by omega)]; first | assumption | exact qset_self _ _ _ | (rw [qset_ne _ _ (by omega)]; first | assumption | exact qset_self _ _ _ | (rw [qset_ne _ _ (by omega)]; first | assumption | exact qset_self _ _ _ | (rw [qset_ne _ _ (by omega)]; first | assumption | exact qset_self _ _ _))))))) rfl ?_
    rw [o1]
    refine v_icmp_ge (tgt := 92) i_M_sum_45 rfl (fun q45 => absurd q45 (nI_ge (by omega) (by omega))) (fun _ => ?_)
    have step : ∀ (z : Int64), rsum ((K.take i).filter (yBt lo hi)) + z = rsum ((K.take (i + 1)).filter (yBt lo hi)) → qV l s0 C m_M_sum rm_M_sum Qp (fun _ _ => False) 0 0 X 83 [(0, .ref m), (1, .int z1), (2, .int lo), (3, .int hi), (4, .long (rsum ((K.take i).filter (yBt lo hi)))), (6, .int (nI i))] [.long z, .long (rsum ((K.take i).filter (yBt lo hi)))] := by
      intro z hz
      refine v_ladd i_M_sum_83 ?_
      rw [hz]
      refine v_lstore i_M_sum_84 (by decide) rfl ?_
      refine v_iinc (v := nI (i + 1)) i_M_sum_86 rfl (nI_1 _) (by decide) rfl ?_
      refine v_goto (tgt := 39) i_M_sum_89 rfl ?_
      exact v_loc [(0, .ref m), (1, .int z1), (2, .int lo), (3, .int hi), (4, .long (rsum ((K.take (i + 1)).filter (yBt lo hi)))), (6, .int (nI (i + 1)))] rfl (ih (i + 1) (by omega))
    have eT := filter_take (K := K) (p := yBt lo hi) (i := i) (by omega)
    have no : ¬ yBt lo hi (rk K i, rv K i) = true → rsum ((K.take i).filter (yBt lo hi)) + 0 = rsum ((K.take (i + 1)).filter (yBt lo hi)) := by
      intro q; rw [eT, if_neg q, List.append_nil]; exact Int64.add_zero _
    have ys : yBt lo hi (rk K i, rv K i) = true → rsum ((K.take i).filter (yBt lo hi)) + rv K i = rsum ((K.take (i + 1)).filter (yBt lo hi)) := by
      intro q; rw [eT, if_pos q, rsum_app]
    refine v_lload i_M_sum_48 rfl ?_
    refine v_aload_n i_M_sum_50 rfl ?_
    refine v_get B i_M_sum_51 (by first | assumption | exact qset_self _ _ _ | (rw [qset_ne _ _ (by omega)]; first | assumption | exact qset_self _ _ _ | (rw [qset_ne _ _ (by omega)]; first | assumption | exact qset_self _ _ _ | (rw [qset_ne _ _ (by omega)]; first | assumption | exact qset_self _ _ _ | (rw [qset_ne _ _ (by omega)]; first | assumption | exact qset_self _ _ _ | (rw [qset_ne _ _ (by omega)]; first | assumption | exact qset_self _ _ _ | (rw [qset_ne _ _ (by omega)]; first | assumption | exact qset_self _ _ _))))))) rfl ?_
    refine v_iload i_M_sum_54 rfl ?_
    refine v_iald B (by first | assumption | exact qset_self _ _ _ | (rw [qset_ne _ _ (by omega)]; first | assumption | exact qset_self _ _ _ | (rw [qset_ne _ _ (by omega)]; first | assumption | exact qset_self _ _ _ | (rw [qset_ne _ _ (by omega)]; first | assumption | exact qset_self _ _ _ | (rw [qset_ne _ _ (by omega)]; first | assumption | exact qset_self _ _ _ | (rw [qset_ne _ _ (by omega)]; first | assumption | exact qset_self _ _ _ | (rw [qset_ne _ _ (by omega)]; first | assumption | exact qset_self _ _ _))))))) rfl (by omega) (by omega) i_M_sum_56 ?_
    refine v_iload_n i_M_sum_57 rfl ?_
    rw [(o3 i (by omega)).1]
    refine v_icmp_lt (tgt := 82) i_M_sum_58 rfl (fun q58 => ?_) (fun q58 => ?_)
    · refine v_lconst (v := 0) i_M_sum_82 rfl ?_
      exact step 0 (no (fun q => absurd (Int32.lt_of_lt_of_le q58 (yBt_iff.mp q).1) Int32.lt_irrefl))
    · refine v_aload_n i_M_sum_61 rfl ?_
      refine v_get B i_M_sum_62 (by first | assumption | exact qset_self _ _ _ | (rw [qset_ne _ _ (by omega)]; first | assumption | exact qset_self _ _ _ | (rw [qset_ne _ _ (by omega)]; first | assumption | exact qset_self _ _ _ | (rw [qset_ne _ _ (by omega)]; first | assumption | exact qset_self _ _ _ | (rw [qset_ne _ _ (by omega)]; first | assumption | exact qset_self _ _ _ | (rw [qset_ne _ _ (by omega)]; first | assumption | exact qset_self _ _ _ | (rw [qset_ne _ _ (by omega)]; first | assumption | exact qset_self _ _ _))))))) rfl ?_
      refine v_iload i_M_sum_65 rfl ?_
      refine v_iald B (by first | assumption | exact qset_self _ _ _ | (rw [qset_ne _ _ (by omega)]; first | assumption | exact qset_self _ _ _ | (rw [qset_ne _ _ (by omega)]; first | assumption | exact qset_self _ _ _ | (rw [qset_ne _ _ (by omega)]; first | assumption | exact qset_self _ _ _ | (rw [qset_ne _ _ (by omega)]; first | assumption | exact qset_self _ _ _ | (rw [qset_ne _ _ (by omega)]; first | assumption | exact qset_self _ _ _ | (rw [qset_ne _ _ (by omega)]; first | assumption | exact qset_self _ _ _))))))) rfl (by omega) (by omega) i_M_sum_67 ?_
      refine v_iload_n i_M_sum_68 rfl ?_
      rw [(o3 i (by omega)).1]
      refine v_icmp_gt (tgt := 82) i_M_sum_69 rfl (fun q69 => ?_) (fun q69 => ?_)
      · refine v_lconst (v := 0) i_M_sum_82 rfl ?_
        exact step 0 (no (fun q => absurd (Int32.lt_of_lt_of_le q69 (yBt_iff.mp q).2) Int32.lt_irrefl))
      · refine v_aload_n i_M_sum_72 rfl ?_
        refine v_get B i_M_sum_73 (by first | assumption | exact qset_self _ _ _ | (rw [qset_ne _ _ (by omega)]; first | assumption | exact qset_self _ _ _ | (rw [qset_ne _ _ (by omega)]; first | assumption | exact qset_self _ _ _ | (rw [qset_ne _ _ (by omega)]; first | assumption | exact qset_self _ _ _ | (rw [qset_ne _ _ (by omega)]; first | assumption | exact qset_self _ _ _ | (rw [qset_ne _ _ (by omega)]; first | assumption | exact qset_self _ _ _ | (rw [qset_ne _ _ (by omega)]; first | assumption | exact qset_self _ _ _))))))) rfl ?_
        refine v_iload i_M_sum_76 rfl ?_
        refine v_lald B (by first | assumption | exact qset_self _ _ _ | (rw [qset_ne _ _ (by omega)]; first | assumption | exact qset_self _ _ _ | (rw [qset_ne _ _ (by omega)]; first | assumption | exact qset_self _ _ _ | (rw [qset_ne _ _ (by omega)]; first | assumption | exact qset_self _ _ _ | (rw [qset_ne _ _ (by omega)]; first | assumption | exact qset_self _ _ _ | (rw [qset_ne _ _ (by omega)]; first | assumption | exact qset_self _ _ _ | (rw [qset_ne _ _ (by omega)]; first | assumption | exact qset_self _ _ _))))))) rfl (by omega) (by omega) i_M_sum_78 ?_
        rw [(o3 i (by omega)).2]
        refine v_goto (tgt := 83) i_M_sum_79 rfl ?_
        exact step _ (ys (yBt_iff.mpr ⟨Int32.not_lt.mp q58, Int32.not_lt.mp q69⟩))
theorem c_M_sum (B : qB l s0 C) (h : MAt X m s I J) {b : Bool} (hb : s 25 = bI b) (hl : s 12 = nI lat) (hlt : lat < 4000) (hT : MT s I J pg made lat dt ro rb) (hrb : lat ≤ rb) (hg : ∀ j, j ≤ lat → yGd pg made (ro j) j) (v lo hi : Int32) : qMet l s0 C m_M_sum rm_M_sum [.ref m, .int v, .int lo, .int hi] X (fun r X' => ∃ z cd, r = some (.long z) ∧ (b = false → ∀ j, j ≤ lat → v = nI j → cd = 0 ∧ z = rsum ((yKs pg (ro j) j).filter (yBt lo hi))) ∧ ((b || !(ver v lat)) = true → cd = mcode b (!(ver v lat)) false false) ∧ mRO X X' m s I J cd) (fun _ _ => False) := by
  obtain ⟨h0, -⟩ := id h
  refine q_of (by decide +kernel) (Nat.le_of_ble_eq_true rfl) ?_
  refine v_L (L' := [(0, .ref m), (1, .int v), (2, .int lo), (3, .int hi)]) rfl ?_
  refine v_aload_n i_M_sum_0 rfl ?_
  refine v_aload_n i_M_sum_1 rfl ?_
  refine v_get B i_M_sum_2 (by first | assumption | exact qset_self _ _ _ | (rw [qset_ne _ _ (by omega)]; first | assumption | exact qset_self _ _ _ | (rw [qset_ne _ _ (by omega)]; first | assumption | exact qset_self _ _ _ | (rw [qset_ne _ _ (by omega)]; first | assumption | exact qset_self _ _ _ | (rw [qset_ne _ _ (by omega)]; first | assumption | exact qset_self _ _ _ | (rw [qset_ne _ _ (by omega)]; first | assumption | exact qset_self _ _ _ | (rw [qset_ne _ _ (by omega)]; first | assumption | exact qset_self _ _ _))))))) rfl ?_
  refine v_aload_n i_M_sum_5 rfl ?_
  refine v_iload_n i_M_sum_6 rfl ?_
  rw [hb]
  refine v_inv B i_M_sum_7 kn_m_M_isVersion (c_M_isVersion B h hl v) h0 rfl rfl (Nat.le_of_ble_eq_true rfl) ⟨by decide, by decide, by first | decide | (simp; omega), by first | decide | (simp; omega)⟩ rfl (fun r X' hq => ?_) (fun _ _ h => False.elim h)
  obtain ⟨rfl, rfl⟩ := hq
  refine v_neg (tgt := 17) (e := 18) i_M_sum_10 rfl i_M_sum_13 i_M_sum_14 rfl i_M_sum_17 rfl ?_
  refine v_iconst (v := 0) i_M_sum_18 rfl ?_
  refine v_iconst (v := 0) i_M_sum_19 rfl ?_
  refine v_inv B i_M_sum_20 kn_m_M_fails (c_M_fails B h b (!(ver v lat)) false false) h0 rfl rfl (Nat.le_of_ble_eq_true rfl) ⟨by decide, by decide, by first | decide | (simp; omega), by first | decide | (simp; omega)⟩ rfl (fun r X' hq => ?_) (fun _ _ h => False.elim h)
  obtain ⟨rfl, h1, f1⟩ := hq
  have ho := mRO.of h1 f1
  obtain ⟨k0, -⟩ := id h1
  obtain ⟨t1, ⟨t2, t2b, t2c, t2d⟩, t3, t4, t5, t6⟩ := id hT
  by_cases hf : (b || !(ver v lat) || false || false) = true
  · rw [hf]
    refine v_if_eq (tgt := 28) i_M_sum_23 rfl (fun q23 => absurd q23 (by decide)) (fun _ => ?_)
    refine v_lconst (v := 0) i_M_sum_26 rfl ?_
    refine v_lret i_M_sum_27 rfl (by decide) (by decide) ⟨0, mcode b (!(ver v lat)) false false, rfl, fun hb0 j hj hvj => ?_, fun _ => rfl, ho⟩
    rw [hb0, hvj, ver_nI hj hlt] at hf; exact absurd hf (by decide)
  · rw [Bool.not_eq_true] at hf
    rw [hf]
    simp only [Bool.or_false, Bool.or_eq_false_iff, Bool.not_eq_false'] at hf
    obtain ⟨hf1, hf2⟩ := hf
    rw [hf1, hf2] at h1
    obtain ⟨j, j1, rfl⟩ := ver_of hf2 hlt
    refine v_if_eq (tgt := 28) i_M_sum_23 rfl (fun _ => ?_) (fun q23 => absurd rfl q23)
    refine v_aload_n i_M_sum_28 rfl ?_
    refine v_iload_n i_M_sum_29 rfl ?_
    refine v_inv B i_M_sum_30 kn_m_M_collect (c_M_collect B h1 (by omega) t4 t2b (t5 j (by omega)).1 (hg j j1)) k0 rfl rfl (Nat.le_of_ble_eq_true rfl) ⟨by decide, by decide, by first | decide | (simp; omega), by first | decide | (simp; omega)⟩ rfl (fun r X' hq => ?_) (fun _ _ h => False.elim h)
    obtain ⟨rfl, s2, I2, J2, h2, hO, hk2, hs2, hf2'⟩ := hq
    have hs2' : sK [0, 28, 29, 33, 39] s s2 := ((sK.rf [0, 28, 29, 33, 39] s).set (j := 0) (x := mcode false (!true) false false) (by decide)).trans (hs2.mono (by decide))
    have hc2 : s2 0 = 0 := by rw [hs2 0 (by decide), pk_us]; rfl
    have hff := f1.trans hf2'
    have hlen : (yKs pg (ro j) j).length ≤ 4200 := hO.2.1
    have uni : ∀ j', j' ≤ lat → nI j = nI j' → j = j' := fun j' hj' e => (nI_eq (by omega) (by omega)).mp e
    generalize hKK : yKs pg (ro j) j = K at hO hlen
    refine v_lconst (v := 0) i_M_sum_33 rfl ?_
    refine v_lstore i_M_sum_34 (by decide) rfl ?_
    refine v_iconst (v := 0) i_M_sum_36 rfl ?_
    refine v_istore i_M_sum_37 (by decide) rfl ?_
    refine v_loc [(0, .ref m), (1, .int (nI j)), (2, .int lo), (3, .int hi), (4, .long (rsum ((K.take 0).filter (yBt lo hi)))), (6, .int (nI 0))] rfl ?_
    refine c_M_sum_loop B h2 hO (nI j) lo hi ?_ K.length 0 (by omega)
    refine v_lload i_M_sum_92 rfl ?_
    refine v_lret i_M_sum_94 rfl (by decide) (by decide) ⟨_, 0, rfl, fun _ j' hj' e => ⟨rfl, ?_⟩, fun q => absurd q (by rw [hf1, hf2]; decide), mRO.one (X' := X) h2 hc2 hk2 hs2' hff⟩
    rw [← uni j' hj' e, hKK]
end MO
