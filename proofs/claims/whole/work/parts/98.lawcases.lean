/-! the law: one call each -/
section LF
variable {l : Launch} {s0 : State} {C : qC} {X : qX} {b N x t i k n : Nat} {xs : Nat → Int32} {Qp : Option Value → qX → Prop} {Ep : String → qX → Prop}
theorem LA.up {pg : Nat → Pg} {made lat : Nat} {ro : Nat → Nat} {db : Nat} {D : Dk} {pgK : Nat → Pg} {madeK : Nat} {op : Nat → Int32 × Int64 × Bool} (h : LA pg made lat ro db D pgK madeK op t) (kk : Int32) (w : Int64) (q : Bool) : cupd pg made lat ro kk w q (yU pg made lat ro (kk, w, q)) := by
  intro htr pn
  obtain ⟨u1, u2⟩ := (yupd h.1.1 htr kk w q).1 pn
  exact ⟨u1, by rw [u2], by rw [u2], by rw [u2]⟩
theorem law_version (B : qB l s0 C) (hX : va_X b N xs s0 s0.heap) (hb : b < s0.heap.size) (hN : N ≤ 2048) (hi : i + 4 ≤ N) (h : LR X x t) (ht : t + 1 ≤ 512) (hk : k + 300 ≤ 601024) (hn : n + 4000 ≤ 7293034)
    (K : ∀ X', LR X' x (t + 1) → qV l s0 C m_L_law rmW Qp Ep (k + 300) (n + 4000) X' 1487 [(0, .ref b), (1, .ref x), (2, .ref (x + 25)), (3, .ref (x + 55)), (4, .int (nI i))] []) : qV l s0 C m_L_law rmW Qp Ep k n X 300 [(0, .ref b), (1, .ref x), (2, .ref (x + 25)), (3, .ref (x + 55)), (4, .int (nI i))] [] := by
  obtain ⟨pg, made, lat, ro, db, D, pgK, madeK, op, cd, f, hZ, hL⟩ := h
  obtain ⟨hm, hlen, hgd⟩ := hL.len
  have hx := hZ.1.obj
  have hl5 : lat ≤ 512 := by have := hL.2.2.2.1; have := hL.2.2.2.2.1; omega
  have hkp := hL.kp
  refine v_aload_n i_L_law_300 rfl ?_
  refine v_aload_n i_L_law_301 rfl ?_
  refine v_invS B i_L_law_302 kn_m_L_version (c_L_version (x := x) (o := x + 55) B  (c_P_version B hZ.1) hx (fun r X' h => by obtain ⟨e1, er, hst⟩ := h; exact ⟨⟨_, er⟩, _, (hZ.cls hst).2.2⟩) (fun e X' h => by exact h.2.1)) rfl rfl (Nat.le_of_ble_eq_true rfl) ⟨by decide, by decide, by show k + 300 ≤ 601024; omega, by show n + 4000 ≤ 7293034; omega⟩ rfl (fun r X2 hq => ?_) (fun _ _ h => False.elim h)
  rcases hq with ⟨z, X', f', hq, hf', rfl, rfl⟩ | ⟨hq, rfl⟩
  · -- ok
    obtain ⟨e1, er, hst⟩ := hq
    have hZ2 := (hZ.cls hst).out (vp_updL f' 0 (z.toInt64))
    obtain ⟨s, I, J, hA, hcd, hT, hD⟩ := id hZ2.2.1
    have hb25 := hD.2.1.2.2.2.1
    have hl12 := hT.2.2.1
    refine v_istore i_L_law_305 (by decide) rfl ?_
    refine v_aload_n i_L_law_307 rfl ?_
    refine v_inv B i_L_law_308 kn_m_M_version (c_M_version B hA hb25 hl12) hA.1 rfl rfl (Nat.le_of_ble_eq_true rfl) ⟨by decide, by decide, by show k + 300 + 0 ≤ 601024; omega, by show n + 4000 + 0 ≤ 7293034; omega⟩ rfl (fun r X3 hq3 => ?_) (fun _ _ h => False.elim h)
    obtain ⟨rfl, hro⟩ := hq3
    have hM3 := MR.rd hT hD hro
    have hsm := hro.same
    have hLA := hL.more ht
    have hcode : bI D.2.2.2.2 = 0 := by rw [e1]; rfl
    obtain ⟨z3, hz3⟩ : ∃ z3, z3 = (if D.2.2.2.2 = true then 0 else nI lat) := ⟨_, rfl⟩
    rw [← hz3]
    have hout : vp_updL f' 0 z.toInt64 0 = z3.toInt64 := by
      rw [hz3, e1, if_neg (by decide)]
      cases er
      exact if_pos rfl
    obtain ⟨s3, I3, J3, hA3, hc3, -⟩ := id hM3
    refine v_istore i_L_law_311 (by decide) rfl ?_
    refine v_loc [(0, .ref b), (1, .ref x), (2, .ref (x + 25)), (3, .ref (x + 55)), (4, .int (nI i)), (5, .int 0), (6, .int z3)] rfl ?_
    exact end_version B hA3 (hc3.trans hcode) z3 (hZ2.ref hsm hM3).2.2 (fun _ => hout) (by omega) (by omega) (K X3 ⟨_, _, _, _, _, _, _, _, _, _, _, hZ2.ref hsm hM3, hLA⟩)
  · -- S
    obtain ⟨e1, -, hst⟩ := hq
    have hZ2 := hZ.cls hst
    obtain ⟨s, I, J, hA, hcd, hT, hD⟩ := id hZ2.2.1
    have hb25 := hD.2.1.2.2.2.1
    have hl12 := hT.2.2.1
    refine v_istore i_L_law_305 (by decide) rfl ?_
    refine v_aload_n i_L_law_307 rfl ?_
    refine v_inv B i_L_law_308 kn_m_M_version (c_M_version B hA hb25 hl12) hA.1 rfl rfl (Nat.le_of_ble_eq_true rfl) ⟨by decide, by decide, by show k + 300 + 0 ≤ 601024; omega, by show n + 4000 + 0 ≤ 7293034; omega⟩ rfl (fun r X3 hq3 => ?_) (fun _ _ h => False.elim h)
    obtain ⟨rfl, hro⟩ := hq3
    have hM3 := MR.rd hT hD hro
    have hsm := hro.same
    have hLA := hL.more ht
    have hcode : bI D.2.2.2.2 = 1 := by rw [e1]; rfl
    obtain ⟨z3, hz3⟩ : ∃ z3, z3 = (if D.2.2.2.2 = true then 0 else nI lat) := ⟨_, rfl⟩
    rw [← hz3]
    obtain ⟨s3, I3, J3, hA3, hc3, -⟩ := id hM3
    refine v_istore i_L_law_311 (by decide) rfl ?_
    refine v_loc [(0, .ref b), (1, .ref x), (2, .ref (x + 25)), (3, .ref (x + 55)), (4, .int (nI i)), (5, .int 1), (6, .int z3)] rfl ?_
    exact end_version B hA3 (hc3.trans hcode) z3 (hZ2.ref hsm hM3).2.2 (fun q => absurd q (by decide)) (by omega) (by omega) (K X3 ⟨_, _, _, _, _, _, _, _, _, _, _, hZ2.ref hsm hM3, hLA⟩)
theorem law_pages (B : qB l s0 C) (hX : va_X b N xs s0 s0.heap) (hb : b < s0.heap.size) (hN : N ≤ 2048) (hi : i + 4 ≤ N) (h : LR X x t) (ht : t + 1 ≤ 512) (hk : k + 300 ≤ 601024) (hn : n + 4000 ≤ 7293034)
    (K : ∀ X', LR X' x (t + 1) → qV l s0 C m_L_law rmW Qp Ep (k + 300) (n + 4000) X' 1487 [(0, .ref b), (1, .ref x), (2, .ref (x + 25)), (3, .ref (x + 55)), (4, .int (nI i))] []) : qV l s0 C m_L_law rmW Qp Ep k n X 793 [(0, .ref b), (1, .ref x), (2, .ref (x + 25)), (3, .ref (x + 55)), (4, .int (nI i))] [] := by
  obtain ⟨pg, made, lat, ro, db, D, pgK, madeK, op, cd, f, hZ, hL⟩ := h
  obtain ⟨hm, hlen, hgd⟩ := hL.len
  have hx := hZ.1.obj
  have hl5 : lat ≤ 512 := by have := hL.2.2.2.1; have := hL.2.2.2.2.1; omega
  have hkp := hL.kp
  refine v_aload_n i_L_law_793 rfl ?_
  refine v_aload_n i_L_law_794 rfl ?_
  refine v_invS B i_L_law_795 kn_m_L_pages (c_L_pages (x := x) (o := x + 55) B  (c_P_pages B hZ.1) hx (fun r X' h => by obtain ⟨e1, er, hst⟩ := h; exact ⟨⟨_, er⟩, _, (hZ.cls hst).2.2⟩) (fun e X' h => by exact h.2.1)) rfl rfl (Nat.le_of_ble_eq_true rfl) ⟨by decide, by decide, by show k + 300 ≤ 601024; omega, by show n + 4000 ≤ 7293034; omega⟩ rfl (fun r X2 hq => ?_) (fun _ _ h => False.elim h)
  rcases hq with ⟨z, X', f', hq, hf', rfl, rfl⟩ | ⟨hq, rfl⟩
  · -- ok
    obtain ⟨e1, er, hst⟩ := hq
    have hZ2 := (hZ.cls hst).out (vp_updL f' 0 (z.toInt64))
    obtain ⟨s, I, J, hA, hcd, hT, hD⟩ := id hZ2.2.1
    have hb25 := hD.2.1.2.2.2.1
    have hl12 := hT.2.2.1
    refine v_istore i_L_law_798 (by decide) rfl ?_
    refine v_aload_n i_L_law_800 rfl ?_
    refine v_inv B i_L_law_801 kn_m_M_pages (c_M_pages B hA hb25 hT.1) hA.1 rfl rfl (Nat.le_of_ble_eq_true rfl) ⟨by decide, by decide, by show k + 300 + 0 ≤ 601024; omega, by show n + 4000 + 0 ≤ 7293034; omega⟩ rfl (fun r X3 hq3 => ?_) (fun _ _ h => False.elim h)
    obtain ⟨rfl, hro⟩ := hq3
    have hM3 := MR.rd hT hD hro
    have hsm := hro.same
    have hLA := hL.more ht
    have hcode : bI D.2.2.2.2 = 0 := by rw [e1]; rfl
    obtain ⟨z3, hz3⟩ : ∃ z3, z3 = (if D.2.2.2.2 = true then 0 else nI made) := ⟨_, rfl⟩
    rw [← hz3]
    have hout : vp_updL f' 0 z.toInt64 0 = z3.toInt64 := by
      rw [hz3, e1, if_neg (by decide)]
      cases er
      exact if_pos rfl
    obtain ⟨s3, I3, J3, hA3, hc3, -⟩ := id hM3
    refine v_istore i_L_law_804 (by decide) rfl ?_
    refine v_loc [(0, .ref b), (1, .ref x), (2, .ref (x + 25)), (3, .ref (x + 55)), (4, .int (nI i)), (5, .int 0), (6, .int z3)] rfl ?_
    exact end_pages B hA3 (hc3.trans hcode) z3 (hZ2.ref hsm hM3).2.2 (fun _ => hout) (by omega) (by omega) (K X3 ⟨_, _, _, _, _, _, _, _, _, _, _, hZ2.ref hsm hM3, hLA⟩)
  · -- S
    obtain ⟨e1, -, hst⟩ := hq
    have hZ2 := hZ.cls hst
    obtain ⟨s, I, J, hA, hcd, hT, hD⟩ := id hZ2.2.1
    have hb25 := hD.2.1.2.2.2.1
    have hl12 := hT.2.2.1
    refine v_istore i_L_law_798 (by decide) rfl ?_
    refine v_aload_n i_L_law_800 rfl ?_
    refine v_inv B i_L_law_801 kn_m_M_pages (c_M_pages B hA hb25 hT.1) hA.1 rfl rfl (Nat.le_of_ble_eq_true rfl) ⟨by decide, by decide, by show k + 300 + 0 ≤ 601024; omega, by show n + 4000 + 0 ≤ 7293034; omega⟩ rfl (fun r X3 hq3 => ?_) (fun _ _ h => False.elim h)
    obtain ⟨rfl, hro⟩ := hq3
    have hM3 := MR.rd hT hD hro
    have hsm := hro.same
    have hLA := hL.more ht
    have hcode : bI D.2.2.2.2 = 1 := by rw [e1]; rfl
    obtain ⟨z3, hz3⟩ : ∃ z3, z3 = (if D.2.2.2.2 = true then 0 else nI made) := ⟨_, rfl⟩
    rw [← hz3]
    obtain ⟨s3, I3, J3, hA3, hc3, -⟩ := id hM3
    refine v_istore i_L_law_804 (by decide) rfl ?_
    refine v_loc [(0, .ref b), (1, .ref x), (2, .ref (x + 25)), (3, .ref (x + 55)), (4, .int (nI i)), (5, .int 1), (6, .int z3)] rfl ?_
    exact end_pages B hA3 (hc3.trans hcode) z3 (hZ2.ref hsm hM3).2.2 (fun q => absurd q (by decide)) (by omega) (by omega) (K X3 ⟨_, _, _, _, _, _, _, _, _, _, _, hZ2.ref hsm hM3, hLA⟩)
theorem law_bound (B : qB l s0 C) (hX : va_X b N xs s0 s0.heap) (hb : b < s0.heap.size) (hN : N ≤ 2048) (hi : i + 4 ≤ N) (h : LR X x t) (ht : t + 1 ≤ 512) (hk : k + 300 ≤ 601024) (hn : n + 4000 ≤ 7293034)
    (K : ∀ X', LR X' x (t + 1) → qV l s0 C m_L_law rmW Qp Ep (k + 300) (n + 4000) X' 1487 [(0, .ref b), (1, .ref x), (2, .ref (x + 25)), (3, .ref (x + 55)), (4, .int (nI i))] []) : qV l s0 C m_L_law rmW Qp Ep k n X 1108 [(0, .ref b), (1, .ref x), (2, .ref (x + 25)), (3, .ref (x + 55)), (4, .int (nI i))] [] := by
  obtain ⟨pg, made, lat, ro, db, D, pgK, madeK, op, cd, f, hZ, hL⟩ := h
  obtain ⟨hm, hlen, hgd⟩ := hL.len
  have hx := hZ.1.obj
  have hl5 : lat ≤ 512 := by have := hL.2.2.2.1; have := hL.2.2.2.2.1; omega
  have hkp := hL.kp
  refine v_aload_n i_L_law_1108 rfl ?_
  refine v_aload_n i_L_law_1109 rfl ?_
  refine v_invS B i_L_law_1110 kn_m_L_bound (c_L_bound (x := x) (o := x + 55) B  (c_P_bound B hZ.1) hx (fun r X' h => by obtain ⟨e1, er, hst⟩ := h; exact ⟨⟨_, er⟩, _, (hZ.cls hst).2.2⟩) (fun e X' h => by exact h.2.1)) rfl rfl (Nat.le_of_ble_eq_true rfl) ⟨by decide, by decide, by show k + 300 ≤ 601024; omega, by show n + 4000 ≤ 7293034; omega⟩ rfl (fun r X2 hq => ?_) (fun _ _ h => False.elim h)
  rcases hq with ⟨z, X', f', hq, hf', rfl, rfl⟩ | ⟨hq, rfl⟩
  · -- ok
    obtain ⟨e1, er, hst⟩ := hq
    have hZ2 := (hZ.cls hst).out (vp_updL f' 0 (z.toInt64))
    obtain ⟨s, I, J, hA, hcd, hT, hD⟩ := id hZ2.2.1
    have hb25 := hD.2.1.2.2.2.1
    have hl12 := hT.2.2.1
    refine v_istore i_L_law_1113 (by decide) rfl ?_
    refine v_aload_n i_L_law_1115 rfl ?_
    refine v_inv B i_L_law_1116 kn_m_M_bound (c_M_bound B hA hb25 hl12) hA.1 rfl rfl (Nat.le_of_ble_eq_true rfl) ⟨by decide, by decide, by show k + 300 + 0 ≤ 601024; omega, by show n + 4000 + 0 ≤ 7293034; omega⟩ rfl (fun r X3 hq3 => ?_) (fun _ _ h => False.elim h)
    obtain ⟨rfl, hro⟩ := hq3
    have hM3 := MR.rd hT hD hro
    have hsm := hro.same
    have hLA := hL.more ht
    have hcode : bI D.2.2.2.2 = 0 := by rw [e1]; rfl
    obtain ⟨z3, hz3⟩ : ∃ z3, z3 = (if D.2.2.2.2 = true then 0 else nI (2 + 2 * lat)) := ⟨_, rfl⟩
    rw [← hz3]
    have hout : vp_updL f' 0 z.toInt64 0 = z3.toInt64 := by
      rw [hz3, e1, if_neg (by decide)]
      cases er
      exact if_pos rfl
    obtain ⟨s3, I3, J3, hA3, hc3, -⟩ := id hM3
    refine v_istore i_L_law_1119 (by decide) rfl ?_
    refine v_loc [(0, .ref b), (1, .ref x), (2, .ref (x + 25)), (3, .ref (x + 55)), (4, .int (nI i)), (5, .int 0), (6, .int z3)] rfl ?_
    exact end_bound B hA3 (hc3.trans hcode) z3 (hZ2.ref hsm hM3).2.2 (fun _ => hout) (by omega) (by omega) (K X3 ⟨_, _, _, _, _, _, _, _, _, _, _, hZ2.ref hsm hM3, hLA⟩)
  · -- S
    obtain ⟨e1, -, hst⟩ := hq
    have hZ2 := hZ.cls hst
    obtain ⟨s, I, J, hA, hcd, hT, hD⟩ := id hZ2.2.1
    have hb25 := hD.2.1.2.2.2.1
    have hl12 := hT.2.2.1
    refine v_istore i_L_law_1113 (by decide) rfl ?_
    refine v_aload_n i_L_law_1115 rfl ?_
    refine v_inv B i_L_law_1116 kn_m_M_bound (c_M_bound B hA hb25 hl12) hA.1 rfl rfl (Nat.le_of_ble_eq_true rfl) ⟨by decide, by decide, by show k + 300 + 0 ≤ 601024; omega, by show n + 4000 + 0 ≤ 7293034; omega⟩ rfl (fun r X3 hq3 => ?_) (fun _ _ h => False.elim h)
    obtain ⟨rfl, hro⟩ := hq3
    have hM3 := MR.rd hT hD hro
    have hsm := hro.same
    have hLA := hL.more ht
    have hcode : bI D.2.2.2.2 = 1 := by rw [e1]; rfl
    obtain ⟨z3, hz3⟩ : ∃ z3, z3 = (if D.2.2.2.2 = true then 0 else nI (2 + 2 * lat)) := ⟨_, rfl⟩
    rw [← hz3]
    obtain ⟨s3, I3, J3, hA3, hc3, -⟩ := id hM3
    refine v_istore i_L_law_1119 (by decide) rfl ?_
    refine v_loc [(0, .ref b), (1, .ref x), (2, .ref (x + 25)), (3, .ref (x + 55)), (4, .int (nI i)), (5, .int 1), (6, .int z3)] rfl ?_
    exact end_bound B hA3 (hc3.trans hcode) z3 (hZ2.ref hsm hM3).2.2 (fun q => absurd q (by decide)) (by omega) (by omega) (K X3 ⟨_, _, _, _, _, _, _, _, _, _, _, hZ2.ref hsm hM3, hLA⟩)
theorem law_root (B : qB l s0 C) (hX : va_X b N xs s0 s0.heap) (hb : b < s0.heap.size) (hN : N ≤ 2048) (hi : i + 4 ≤ N) (h : LR X x t) (ht : t + 1 ≤ 512) (hk : k + 300 ≤ 601024) (hn : n + 4000 ≤ 7293034)
    (K : ∀ X', LR X' x (t + 1) → qV l s0 C m_L_law rmW Qp Ep (k + 300) (n + 4000) X' 1487 [(0, .ref b), (1, .ref x), (2, .ref (x + 25)), (3, .ref (x + 55)), (4, .int (nI i))] []) : qV l s0 C m_L_law rmW Qp Ep k n X 1052 [(0, .ref b), (1, .ref x), (2, .ref (x + 25)), (3, .ref (x + 55)), (4, .int (nI i))] [] := by
  obtain ⟨pg, made, lat, ro, db, D, pgK, madeK, op, cd, f, hZ, hL⟩ := h
  obtain ⟨hm, hlen, hgd⟩ := hL.len
  have hx := hZ.1.obj
  have hl5 : lat ≤ 512 := by have := hL.2.2.2.1; have := hL.2.2.2.2.1; omega
  have hkp := hL.kp
  refine v_aload_n i_L_law_1052 rfl ?_
  refine v_aload_n i_L_law_1053 rfl ?_
  refine v_iload i_L_law_1054 rfl ?_
  refine v_iconst (v := 1) i_L_law_1056 rfl ?_
  refine v_iadd i_L_law_1057 ?_
  refine v_sld hX hb (j := i + 1) (nI_add i 1) (by omega) (by omega) i_L_law_1058 ?_
  refine v_aload_n i_L_law_1059 rfl ?_
  refine v_invS B i_L_law_1060 kn_m_L_root (c_L_root (x := x) (o := x + 55) B _ (c_P_root B hZ.1 _) hx (fun r X' h => by obtain ⟨e1, ⟨j, j1, j2, er⟩, hst⟩ := h; exact ⟨⟨_, er⟩, _, (hZ.cls hst).2.2⟩) (fun e X' h => by rcases h.1 with w | w; exact Or.inl w.2; exact Or.inr w.2.2)) rfl rfl (Nat.le_of_ble_eq_true rfl) ⟨by decide, by decide, by show k + 300 ≤ 601024; omega, by show n + 4000 ≤ 7293034; omega⟩ rfl (fun r X2 hq => ?_) (fun _ _ h => False.elim h)
  rcases hq with ⟨z, X', f', hq, hf', rfl, rfl⟩ | ⟨hq, rfl⟩ | ⟨hq, rfl⟩
  · -- ok
    obtain ⟨e1, ⟨j, j1, j2, er⟩, hst⟩ := hq
    have hZ2 := (hZ.cls hst).out (vp_updL f' 0 (z.toInt64))
    obtain ⟨s, I, J, hA, hcd, hT, hD⟩ := id hZ2.2.1
    have hb25 := hD.2.1.2.2.2.1
    have hl12 := hT.2.2.1
    refine v_istore i_L_law_1063 (by decide) rfl ?_
    refine v_aload_n i_L_law_1065 rfl ?_
    refine v_aload_n i_L_law_1066 rfl ?_
    refine v_iload i_L_law_1067 rfl ?_
    refine v_iconst (v := 1) i_L_law_1069 rfl ?_
    refine v_iadd i_L_law_1070 ?_
    refine v_sld hX hb (j := i + 1) (nI_add i 1) (by omega) (by omega) i_L_law_1071 ?_
    refine v_inv B i_L_law_1072 kn_m_M_root (c_M_root B hA hb25 hl12 hT.2.1.2.2.1 (fun w hw => (hT.2.2.2.2.1 w hw).1) _) hA.1 rfl rfl (Nat.le_of_ble_eq_true rfl) ⟨by decide, by decide, by show k + 300 + 0 ≤ 601024; omega, by show n + 4000 + 0 ≤ 7293034; omega⟩ rfl (fun r X3 hq3 => ?_) (fun _ _ h => False.elim h)
    obtain ⟨z3, rfl, hval, hro⟩ := hq3
    have hM3 := MR.rd hT hD hro
    have hsm := hro.same
    have hLA := hL.more ht
    have hv : ver (xs (i + 1)) lat = true := by rw [j2]; exact ver_nI j1 hT.2.1.2.2.1
    have hcode : mcode D.2.2.2.2 (!(ver (xs (i + 1)) lat)) false false = 0 := by rw [e1, hv]; rfl
    have hout : vp_updL f' 0 z.toInt64 0 = z3.toInt64 := by
      rw [hval e1 j j1 j2]
      cases er
      exact if_pos rfl
    obtain ⟨s3, I3, J3, hA3, hc3, -⟩ := id hM3
    refine v_istore i_L_law_1075 (by decide) rfl ?_
    refine v_loc [(0, .ref b), (1, .ref x), (2, .ref (x + 25)), (3, .ref (x + 55)), (4, .int (nI i)), (5, .int 0), (6, .int z3)] rfl ?_
    exact end_root B hA3 (hc3.trans hcode) z3 (hZ2.ref hsm hM3).2.2 (fun _ => hout) (by omega) (by omega) (K X3 ⟨_, _, _, _, _, _, _, _, _, _, _, hZ2.ref hsm hM3, hLA⟩)
  · -- S
    have hst := hq.2
    have e1 : D.2.2.2.2 = true := by
      rcases hq.1 with w | w
      · exact w.1
      · exact absurd w.2.2 (by decide)
    have hZ2 := hZ.cls hst
    obtain ⟨s, I, J, hA, hcd, hT, hD⟩ := id hZ2.2.1
    have hb25 := hD.2.1.2.2.2.1
    have hl12 := hT.2.2.1
    refine v_istore i_L_law_1063 (by decide) rfl ?_
    refine v_aload_n i_L_law_1065 rfl ?_
    refine v_aload_n i_L_law_1066 rfl ?_
    refine v_iload i_L_law_1067 rfl ?_
    refine v_iconst (v := 1) i_L_law_1069 rfl ?_
    refine v_iadd i_L_law_1070 ?_
    refine v_sld hX hb (j := i + 1) (nI_add i 1) (by omega) (by omega) i_L_law_1071 ?_
    refine v_inv B i_L_law_1072 kn_m_M_root (c_M_root B hA hb25 hl12 hT.2.1.2.2.1 (fun w hw => (hT.2.2.2.2.1 w hw).1) _) hA.1 rfl rfl (Nat.le_of_ble_eq_true rfl) ⟨by decide, by decide, by show k + 300 + 0 ≤ 601024; omega, by show n + 4000 + 0 ≤ 7293034; omega⟩ rfl (fun r X3 hq3 => ?_) (fun _ _ h => False.elim h)
    obtain ⟨z3, rfl, hval, hro⟩ := hq3
    have hM3 := MR.rd hT hD hro
    have hsm := hro.same
    have hLA := hL.more ht
    have hcode : mcode D.2.2.2.2 (!(ver (xs (i + 1)) lat)) false false = 1 := by rw [e1]; rfl
    obtain ⟨s3, I3, J3, hA3, hc3, -⟩ := id hM3
    refine v_istore i_L_law_1075 (by decide) rfl ?_
    refine v_loc [(0, .ref b), (1, .ref x), (2, .ref (x + 25)), (3, .ref (x + 55)), (4, .int (nI i)), (5, .int 1), (6, .int z3)] rfl ?_
    exact end_root B hA3 (hc3.trans hcode) z3 (hZ2.ref hsm hM3).2.2 (fun q => absurd q (by decide)) (by omega) (by omega) (K X3 ⟨_, _, _, _, _, _, _, _, _, _, _, hZ2.ref hsm hM3, hLA⟩)
  · -- I
    have hst := hq.2
    have e1 : D.2.2.2.2 = false ∧ ¬ (0 ≤ xs (i + 1) ∧ xs (i + 1) ≤ nI lat) := by
      rcases hq.1 with w | w
      · exact absurd w.2 (by decide)
      · exact ⟨w.1, w.2.1⟩
    have hZ2 := hZ.cls hst
    obtain ⟨s, I, J, hA, hcd, hT, hD⟩ := id hZ2.2.1
    have hb25 := hD.2.1.2.2.2.1
    have hl12 := hT.2.2.1
    refine v_istore i_L_law_1063 (by decide) rfl ?_
    refine v_aload_n i_L_law_1065 rfl ?_
    refine v_aload_n i_L_law_1066 rfl ?_
    refine v_iload i_L_law_1067 rfl ?_
    refine v_iconst (v := 1) i_L_law_1069 rfl ?_
    refine v_iadd i_L_law_1070 ?_
    refine v_sld hX hb (j := i + 1) (nI_add i 1) (by omega) (by omega) i_L_law_1071 ?_
    refine v_inv B i_L_law_1072 kn_m_M_root (c_M_root B hA hb25 hl12 hT.2.1.2.2.1 (fun w hw => (hT.2.2.2.2.1 w hw).1) _) hA.1 rfl rfl (Nat.le_of_ble_eq_true rfl) ⟨by decide, by decide, by show k + 300 + 0 ≤ 601024; omega, by show n + 4000 + 0 ≤ 7293034; omega⟩ rfl (fun r X3 hq3 => ?_) (fun _ _ h => False.elim h)
    obtain ⟨z3, rfl, hval, hro⟩ := hq3
    have hM3 := MR.rd hT hD hro
    have hsm := hro.same
    have hLA := hL.more ht
    have hcode : mcode D.2.2.2.2 (!(ver (xs (i + 1)) lat)) false false = 2 := by rw [e1.1, show ver (xs (i + 1)) lat = false from decide_eq_false e1.2]; rfl
    obtain ⟨s3, I3, J3, hA3, hc3, -⟩ := id hM3
    refine v_istore i_L_law_1075 (by decide) rfl ?_
    refine v_loc [(0, .ref b), (1, .ref x), (2, .ref (x + 25)), (3, .ref (x + 55)), (4, .int (nI i)), (5, .int 2), (6, .int z3)] rfl ?_
    exact end_root B hA3 (hc3.trans hcode) z3 (hZ2.ref hsm hM3).2.2 (fun q => absurd q (by decide)) (by omega) (by omega) (K X3 ⟨_, _, _, _, _, _, _, _, _, _, _, hZ2.ref hsm hM3, hLA⟩)
theorem law_has (B : qB l s0 C) (hX : va_X b N xs s0 s0.heap) (hb : b < s0.heap.size) (hN : N ≤ 2048) (hi : i + 4 ≤ N) (h : LR X x t) (ht : t + 1 ≤ 512) (hk : k + 300 ≤ 601024) (hn : n + 4000 ≤ 7293034)
    (K : ∀ X', LR X' x (t + 1) → qV l s0 C m_L_law rmW Qp Ep (k + 300) (n + 4000) X' 1487 [(0, .ref b), (1, .ref x), (2, .ref (x + 25)), (3, .ref (x + 55)), (4, .int (nI i))] []) : qV l s0 C m_L_law rmW Qp Ep k n X 344 [(0, .ref b), (1, .ref x), (2, .ref (x + 25)), (3, .ref (x + 55)), (4, .int (nI i))] [] := by
  obtain ⟨pg, made, lat, ro, db, D, pgK, madeK, op, cd, f, hZ, hL⟩ := h
  obtain ⟨hm, hlen, hgd⟩ := hL.len
  have hx := hZ.1.obj
  have hl5 : lat ≤ 512 := by have := hL.2.2.2.1; have := hL.2.2.2.2.1; omega
  have hkp := hL.kp
  refine v_aload_n i_L_law_344 rfl ?_
  refine v_aload_n i_L_law_345 rfl ?_
  refine v_iload i_L_law_346 rfl ?_
  refine v_iconst (v := 1) i_L_law_348 rfl ?_
  refine v_iadd i_L_law_349 ?_
  refine v_sld hX hb (j := i + 1) (nI_add i 1) (by omega) (by omega) i_L_law_350 ?_
  refine v_aload_n i_L_law_351 rfl ?_
  refine v_iload i_L_law_352 rfl ?_
  refine v_iconst (v := 2) i_L_law_354 rfl ?_
  refine v_iadd i_L_law_355 ?_
  refine v_sld hX hb (j := i + 2) (nI_add i 2) (by omega) (by omega) i_L_law_356 ?_
  refine v_aload_n i_L_law_357 rfl ?_
  refine v_invS B i_L_law_358 kn_m_L_has (c_L_has (x := x) (o := x + 55) B _ _ (c_P_has B hZ.1 _ _ (fun j hj => (ygatA hm hlen (hgd j hj) (by omega) _ _).1)) hx (fun r X' h => by obtain ⟨e1, ⟨j, j1, j2, er⟩, hst⟩ := h; exact ⟨⟨_, er⟩, _, (hZ.cls hst).2.2⟩) (fun e X' h => by rcases h.1 with w | w; exact Or.inl w.2; exact Or.inr w.2.2)) rfl rfl (Nat.le_of_ble_eq_true rfl) ⟨by decide, by decide, by show k + 300 ≤ 601024; omega, by show n + 4000 ≤ 7293034; omega⟩ rfl (fun r X2 hq => ?_) (fun _ _ h => False.elim h)
  rcases hq with ⟨z, X', f', hq, hf', rfl, rfl⟩ | ⟨hq, rfl⟩ | ⟨hq, rfl⟩
  · -- ok
    obtain ⟨e1, ⟨j, j1, j2, er⟩, hst⟩ := hq
    have hZ2 := (hZ.cls hst).out (vp_updL f' 0 (if z = 0 then 0 else 1))
    obtain ⟨s, I, J, hA, hcd, hT, hD⟩ := id hZ2.2.1
    have hb25 := hD.2.1.2.2.2.1
    have hl12 := hT.2.2.1
    refine v_istore i_L_law_361 (by decide) rfl ?_
    refine v_aload_n i_L_law_363 rfl ?_
    refine v_aload_n i_L_law_364 rfl ?_
    refine v_iload i_L_law_365 rfl ?_
    refine v_iconst (v := 1) i_L_law_367 rfl ?_
    refine v_iadd i_L_law_368 ?_
    refine v_sld hX hb (j := i + 1) (nI_add i 1) (by omega) (by omega) i_L_law_369 ?_
    refine v_aload_n i_L_law_370 rfl ?_
    refine v_iload i_L_law_371 rfl ?_
    refine v_iconst (v := 2) i_L_law_373 rfl ?_
    refine v_iadd i_L_law_374 ?_
    refine v_sld hX hb (j := i + 2) (nI_add i 2) (by omega) (by omega) i_L_law_375 ?_
    refine v_inv B i_L_law_376 kn_m_M_has (c_M_has B hA hb25 hl12 hT.2.1.2.2.1 hT (Nat.le_refl _) _ _ (fun j hj => (ythere hm hlen (hgd j hj) (by omega) _).1)) hA.1 rfl rfl (Nat.le_of_ble_eq_true rfl) ⟨by decide, by decide, by show k + 300 + 0 ≤ 601024; omega, by show n + 4000 + 0 ≤ 7293034; omega⟩ rfl (fun r X3 hq3 => ?_) (fun _ _ h => False.elim h)
    obtain ⟨z3, rfl, hval, hro⟩ := hq3
    have hM3 := MR.rd hT hD hro
    have hsm := hro.same
    have hLA := hL.more ht
    have hv : ver (xs (i + 1)) lat = true := by rw [j2]; exact ver_nI j1 hT.2.1.2.2.1
    have hcode : mcode D.2.2.2.2 (!(ver (xs (i + 1)) lat)) false false = 0 := by rw [e1, hv]; rfl
    have hout : vp_updL f' 0 (if z = 0 then 0 else 1) 0 = if z3 = 0 then 0 else 1 := by
      rw [hval e1 j j1 j2]
      cases er
      refine (if_pos rfl).trans ?_
      rcases (ythere hm hlen (hgd j j1) (by omega) (xs (i + 2))).2.2 with ⟨y1, y2⟩ | ⟨y, y1, y2⟩
      · rw [y1, y2]; rfl
      · rw [y1, y2]; rfl
    obtain ⟨s3, I3, J3, hA3, hc3, -⟩ := id hM3
    refine v_istore i_L_law_379 (by decide) rfl ?_
    refine v_loc [(0, .ref b), (1, .ref x), (2, .ref (x + 25)), (3, .ref (x + 55)), (4, .int (nI i)), (5, .int 0), (6, .int z3)] rfl ?_
    exact end_has B hA3 (hc3.trans hcode) z3 (hZ2.ref hsm hM3).2.2 (fun _ => hout) (by omega) (by omega) (K X3 ⟨_, _, _, _, _, _, _, _, _, _, _, hZ2.ref hsm hM3, hLA⟩)
  · -- S
    have hst := hq.2
    have e1 : D.2.2.2.2 = true := by
      rcases hq.1 with w | w
      · exact w.1
      · exact absurd w.2.2 (by decide)
    have hZ2 := hZ.cls hst
    obtain ⟨s, I, J, hA, hcd, hT, hD⟩ := id hZ2.2.1
    have hb25 := hD.2.1.2.2.2.1
    have hl12 := hT.2.2.1
    refine v_istore i_L_law_361 (by decide) rfl ?_
    refine v_aload_n i_L_law_363 rfl ?_
    refine v_aload_n i_L_law_364 rfl ?_
    refine v_iload i_L_law_365 rfl ?_
    refine v_iconst (v := 1) i_L_law_367 rfl ?_
    refine v_iadd i_L_law_368 ?_
    refine v_sld hX hb (j := i + 1) (nI_add i 1) (by omega) (by omega) i_L_law_369 ?_
    refine v_aload_n i_L_law_370 rfl ?_
    refine v_iload i_L_law_371 rfl ?_
    refine v_iconst (v := 2) i_L_law_373 rfl ?_
    refine v_iadd i_L_law_374 ?_
    refine v_sld hX hb (j := i + 2) (nI_add i 2) (by omega) (by omega) i_L_law_375 ?_
    refine v_inv B i_L_law_376 kn_m_M_has (c_M_has B hA hb25 hl12 hT.2.1.2.2.1 hT (Nat.le_refl _) _ _ (fun j hj => (ythere hm hlen (hgd j hj) (by omega) _).1)) hA.1 rfl rfl (Nat.le_of_ble_eq_true rfl) ⟨by decide, by decide, by show k + 300 + 0 ≤ 601024; omega, by show n + 4000 + 0 ≤ 7293034; omega⟩ rfl (fun r X3 hq3 => ?_) (fun _ _ h => False.elim h)
    obtain ⟨z3, rfl, hval, hro⟩ := hq3
    have hM3 := MR.rd hT hD hro
    have hsm := hro.same
    have hLA := hL.more ht
    have hcode : mcode D.2.2.2.2 (!(ver (xs (i + 1)) lat)) false false = 1 := by rw [e1]; rfl
    obtain ⟨s3, I3, J3, hA3, hc3, -⟩ := id hM3
    refine v_istore i_L_law_379 (by decide) rfl ?_
    refine v_loc [(0, .ref b), (1, .ref x), (2, .ref (x + 25)), (3, .ref (x + 55)), (4, .int (nI i)), (5, .int 1), (6, .int z3)] rfl ?_
    exact end_has B hA3 (hc3.trans hcode) z3 (hZ2.ref hsm hM3).2.2 (fun q => absurd q (by decide)) (by omega) (by omega) (K X3 ⟨_, _, _, _, _, _, _, _, _, _, _, hZ2.ref hsm hM3, hLA⟩)
  · -- I
    have hst := hq.2
    have e1 : D.2.2.2.2 = false ∧ ¬ (0 ≤ xs (i + 1) ∧ xs (i + 1) ≤ nI lat) := by
      rcases hq.1 with w | w
      · exact absurd w.2 (by decide)
      · exact ⟨w.1, w.2.1⟩
    have hZ2 := hZ.cls hst
    obtain ⟨s, I, J, hA, hcd, hT, hD⟩ := id hZ2.2.1
    have hb25 := hD.2.1.2.2.2.1
    have hl12 := hT.2.2.1
    refine v_istore i_L_law_361 (by decide) rfl ?_
    refine v_aload_n i_L_law_363 rfl ?_
    refine v_aload_n i_L_law_364 rfl ?_
    refine v_iload i_L_law_365 rfl ?_
    refine v_iconst (v := 1) i_L_law_367 rfl ?_
    refine v_iadd i_L_law_368 ?_
    refine v_sld hX hb (j := i + 1) (nI_add i 1) (by omega) (by omega) i_L_law_369 ?_
    refine v_aload_n i_L_law_370 rfl ?_
    refine v_iload i_L_law_371 rfl ?_
    refine v_iconst (v := 2) i_L_law_373 rfl ?_
    refine v_iadd i_L_law_374 ?_
    refine v_sld hX hb (j := i + 2) (nI_add i 2) (by omega) (by omega) i_L_law_375 ?_
    refine v_inv B i_L_law_376 kn_m_M_has (c_M_has B hA hb25 hl12 hT.2.1.2.2.1 hT (Nat.le_refl _) _ _ (fun j hj => (ythere hm hlen (hgd j hj) (by omega) _).1)) hA.1 rfl rfl (Nat.le_of_ble_eq_true rfl) ⟨by decide, by decide, by show k + 300 + 0 ≤ 601024; omega, by show n + 4000 + 0 ≤ 7293034; omega⟩ rfl (fun r X3 hq3 => ?_) (fun _ _ h => False.elim h)
    obtain ⟨z3, rfl, hval, hro⟩ := hq3
    have hM3 := MR.rd hT hD hro
    have hsm := hro.same
    have hLA := hL.more ht
    have hcode : mcode D.2.2.2.2 (!(ver (xs (i + 1)) lat)) false false = 2 := by rw [e1.1, show ver (xs (i + 1)) lat = false from decide_eq_false e1.2]; rfl
    obtain ⟨s3, I3, J3, hA3, hc3, -⟩ := id hM3
    refine v_istore i_L_law_379 (by decide) rfl ?_
    refine v_loc [(0, .ref b), (1, .ref x), (2, .ref (x + 25)), (3, .ref (x + 55)), (4, .int (nI i)), (5, .int 2), (6, .int z3)] rfl ?_
    exact end_has B hA3 (hc3.trans hcode) z3 (hZ2.ref hsm hM3).2.2 (fun q => absurd q (by decide)) (by omega) (by omega) (K X3 ⟨_, _, _, _, _, _, _, _, _, _, _, hZ2.ref hsm hM3, hLA⟩)
theorem law_get (B : qB l s0 C) (hX : va_X b N xs s0 s0.heap) (hb : b < s0.heap.size) (hN : N ≤ 2048) (hi : i + 4 ≤ N) (h : LR X x t) (ht : t + 1 ≤ 512) (hk : k + 300 ≤ 601024) (hn : n + 4000 ≤ 7293034)
    (K : ∀ X', LR X' x (t + 1) → qV l s0 C m_L_law rmW Qp Ep (k + 300) (n + 4000) X' 1487 [(0, .ref b), (1, .ref x), (2, .ref (x + 25)), (3, .ref (x + 55)), (4, .int (nI i))] []) : qV l s0 C m_L_law rmW Qp Ep k n X 419 [(0, .ref b), (1, .ref x), (2, .ref (x + 25)), (3, .ref (x + 55)), (4, .int (nI i))] [] := by
  obtain ⟨pg, made, lat, ro, db, D, pgK, madeK, op, cd, f, hZ, hL⟩ := h
  obtain ⟨hm, hlen, hgd⟩ := hL.len
  have hx := hZ.1.obj
  have hl5 : lat ≤ 512 := by have := hL.2.2.2.1; have := hL.2.2.2.2.1; omega
  have hkp := hL.kp
  refine v_aload_n i_L_law_419 rfl ?_
  refine v_aload_n i_L_law_420 rfl ?_
  refine v_iload i_L_law_421 rfl ?_
  refine v_iconst (v := 1) i_L_law_423 rfl ?_
  refine v_iadd i_L_law_424 ?_
  refine v_sld hX hb (j := i + 1) (nI_add i 1) (by omega) (by omega) i_L_law_425 ?_
  refine v_aload_n i_L_law_426 rfl ?_
  refine v_iload i_L_law_427 rfl ?_
  refine v_iconst (v := 2) i_L_law_429 rfl ?_
  refine v_iadd i_L_law_430 ?_
  refine v_sld hX hb (j := i + 2) (nI_add i 2) (by omega) (by omega) i_L_law_431 ?_
  refine v_aload_n i_L_law_432 rfl ?_
  refine v_invS B i_L_law_433 kn_m_L_get (c_L_get (x := x) (o := x + 55) B _ _ (c_P_get B hZ.1 _ _ (fun j hj => (ygatA hm hlen (hgd j hj) (by omega) _ _).1)) hx (fun r X' h => by obtain ⟨e1, ⟨j, j1, j2, j3, er⟩, hst⟩ := h; exact ⟨⟨_, er⟩, _, (hZ.cls hst).2.2⟩) (fun e X' h => by rcases h.1 with w | w | w; exact Or.inl w.2; exact Or.inr (Or.inl w.2.2); exact Or.inr (Or.inr w.2.2))) rfl rfl (Nat.le_of_ble_eq_true rfl) ⟨by decide, by decide, by show k + 300 ≤ 601024; omega, by show n + 4000 ≤ 7293034; omega⟩ rfl (fun r X2 hq => ?_) (fun _ _ h => False.elim h)
  rcases hq with ⟨z, X', f', hq, hf', rfl, rfl⟩ | ⟨hq, rfl⟩ | ⟨hq, rfl⟩ | ⟨hq, rfl⟩
  · -- ok
    obtain ⟨e1, ⟨j, j1, j2, j3, er⟩, hst⟩ := hq
    have hZ2 := (hZ.cls hst).out (vp_updL f' 0 (z))
    obtain ⟨s, I, J, hA, hcd, hT, hD⟩ := id hZ2.2.1
    have hb25 := hD.2.1.2.2.2.1
    have hl12 := hT.2.2.1
    refine v_istore i_L_law_436 (by decide) rfl ?_
    refine v_aload_n i_L_law_438 rfl ?_
    refine v_aload_n i_L_law_439 rfl ?_
    refine v_iload i_L_law_440 rfl ?_
    refine v_iconst (v := 1) i_L_law_442 rfl ?_
    refine v_iadd i_L_law_443 ?_
    refine v_sld hX hb (j := i + 1) (nI_add i 1) (by omega) (by omega) i_L_law_444 ?_
    refine v_aload_n i_L_law_445 rfl ?_
    refine v_iload i_L_law_446 rfl ?_
    refine v_iconst (v := 2) i_L_law_448 rfl ?_
    refine v_iadd i_L_law_449 ?_
    refine v_sld hX hb (j := i + 2) (nI_add i 2) (by omega) (by omega) i_L_law_450 ?_
    refine v_inv B i_L_law_451 kn_m_M_get (c_M_get B hA hb25 hl12 hT.2.1.2.2.1 hT (Nat.le_refl _) _ _ (fun j hj => (ythere hm hlen (hgd j hj) (by omega) _).1)) hA.1 rfl rfl (Nat.le_of_ble_eq_true rfl) ⟨by decide, by decide, by show k + 300 + 0 ≤ 601024; omega, by show n + 4000 + 0 ≤ 7293034; omega⟩ rfl (fun r X3 hq3 => ?_) (fun _ _ h => False.elim h)
    obtain ⟨z3, th, rfl, hval, hro⟩ := hq3
    have hM3 := MR.rd hT hD hro
    have hsm := hro.same
    have hLA := hL.more ht
    have hv : ver (xs (i + 1)) lat = true := by rw [j2]; exact ver_nI j1 hT.2.1.2.2.1
    obtain ⟨v1, v2⟩ := hval e1 j j1 j2
    obtain ⟨y, y1, y2⟩ : ∃ y, gslot (pg (tlf pg made j (xs (i + 2)) 16 (ro j))) (xs (i + 2)) j = some y ∧ cgat pg made ro j (xs (i + 2)) (xs (i + 2)) 2147483647 = [(xs (i + 2), (en (pg (tlf pg made j (xs (i + 2)) 16 (ro j))).2.2.2 y).2.2.2)] := by
      rcases (ythere hm hlen (hgd j j1) (by omega) (xs (i + 2))).2.2 with ⟨y1, y2⟩ | ⟨y, y1, y2⟩
      · rw [y2] at j3; exact absurd j3 (by decide)
      · exact ⟨y, y1, y2⟩
    have hcode : mcode D.2.2.2.2 (!(ver (xs (i + 1)) lat)) (!th) false = 0 := by rw [e1, hv, v1, y1]; rfl
    have hout : vp_updL f' 0 z 0 = z3 := by
      rw [v2 y y1]
      cases er
      refine (if_pos rfl).trans ?_
      rw [y2]; rfl
    obtain ⟨s3, I3, J3, hA3, hc3, -⟩ := id hM3
    refine v_lstore i_L_law_454 (by decide) rfl ?_
    refine v_loc [(0, .ref b), (1, .ref x), (2, .ref (x + 25)), (3, .ref (x + 55)), (4, .int (nI i)), (5, .int 0), (6, .long z3)] rfl ?_
    exact end_get B hA3 (hc3.trans hcode) z3 (hZ2.ref hsm hM3).2.2 (fun _ => hout) (by omega) (by omega) (K X3 ⟨_, _, _, _, _, _, _, _, _, _, _, hZ2.ref hsm hM3, hLA⟩)
  · -- S
    have hst := hq.2
    have e1 : D.2.2.2.2 = true := by
      rcases hq.1 with w | w | w
      · exact w.1
      · exact absurd w.2.2 (by decide)
      · exact absurd w.2.2 (by decide)
    have hZ2 := hZ.cls hst
    obtain ⟨s, I, J, hA, hcd, hT, hD⟩ := id hZ2.2.1
    have hb25 := hD.2.1.2.2.2.1
    have hl12 := hT.2.2.1
    refine v_istore i_L_law_436 (by decide) rfl ?_
    refine v_aload_n i_L_law_438 rfl ?_
    refine v_aload_n i_L_law_439 rfl ?_
    refine v_iload i_L_law_440 rfl ?_
    refine v_iconst (v := 1) i_L_law_442 rfl ?_
    refine v_iadd i_L_law_443 ?_
    refine v_sld hX hb (j := i + 1) (nI_add i 1) (by omega) (by omega) i_L_law_444 ?_
    refine v_aload_n i_L_law_445 rfl ?_
    refine v_iload i_L_law_446 rfl ?_
    refine v_iconst (v := 2) i_L_law_448 rfl ?_
    refine v_iadd i_L_law_449 ?_
    refine v_sld hX hb (j := i + 2) (nI_add i 2) (by omega) (by omega) i_L_law_450 ?_
    refine v_inv B i_L_law_451 kn_m_M_get (c_M_get B hA hb25 hl12 hT.2.1.2.2.1 hT (Nat.le_refl _) _ _ (fun j hj => (ythere hm hlen (hgd j hj) (by omega) _).1)) hA.1 rfl rfl (Nat.le_of_ble_eq_true rfl) ⟨by decide, by decide, by show k + 300 + 0 ≤ 601024; omega, by show n + 4000 + 0 ≤ 7293034; omega⟩ rfl (fun r X3 hq3 => ?_) (fun _ _ h => False.elim h)
    obtain ⟨z3, th, rfl, hval, hro⟩ := hq3
    have hM3 := MR.rd hT hD hro
    have hsm := hro.same
    have hLA := hL.more ht
    have hcode : mcode D.2.2.2.2 (!(ver (xs (i + 1)) lat)) (!th) false = 1 := by rw [e1]; rfl
    obtain ⟨s3, I3, J3, hA3, hc3, -⟩ := id hM3
    refine v_lstore i_L_law_454 (by decide) rfl ?_
    refine v_loc [(0, .ref b), (1, .ref x), (2, .ref (x + 25)), (3, .ref (x + 55)), (4, .int (nI i)), (5, .int 1), (6, .long z3)] rfl ?_
    exact end_get B hA3 (hc3.trans hcode) z3 (hZ2.ref hsm hM3).2.2 (fun q => absurd q (by decide)) (by omega) (by omega) (K X3 ⟨_, _, _, _, _, _, _, _, _, _, _, hZ2.ref hsm hM3, hLA⟩)
  · -- I
    have hst := hq.2
    have e1 : D.2.2.2.2 = false ∧ ¬ (0 ≤ xs (i + 1) ∧ xs (i + 1) ≤ nI lat) := by
      rcases hq.1 with w | w | w
      · exact absurd w.2 (by decide)
      · exact ⟨w.1, w.2.1⟩
      · exact absurd w.2.2 (by decide)
    have hZ2 := hZ.cls hst
    obtain ⟨s, I, J, hA, hcd, hT, hD⟩ := id hZ2.2.1
    have hb25 := hD.2.1.2.2.2.1
    have hl12 := hT.2.2.1
    refine v_istore i_L_law_436 (by decide) rfl ?_
    refine v_aload_n i_L_law_438 rfl ?_
    refine v_aload_n i_L_law_439 rfl ?_
    refine v_iload i_L_law_440 rfl ?_
    refine v_iconst (v := 1) i_L_law_442 rfl ?_
    refine v_iadd i_L_law_443 ?_
    refine v_sld hX hb (j := i + 1) (nI_add i 1) (by omega) (by omega) i_L_law_444 ?_
    refine v_aload_n i_L_law_445 rfl ?_
    refine v_iload i_L_law_446 rfl ?_
    refine v_iconst (v := 2) i_L_law_448 rfl ?_
    refine v_iadd i_L_law_449 ?_
    refine v_sld hX hb (j := i + 2) (nI_add i 2) (by omega) (by omega) i_L_law_450 ?_
    refine v_inv B i_L_law_451 kn_m_M_get (c_M_get B hA hb25 hl12 hT.2.1.2.2.1 hT (Nat.le_refl _) _ _ (fun j hj => (ythere hm hlen (hgd j hj) (by omega) _).1)) hA.1 rfl rfl (Nat.le_of_ble_eq_true rfl) ⟨by decide, by decide, by show k + 300 + 0 ≤ 601024; omega, by show n + 4000 + 0 ≤ 7293034; omega⟩ rfl (fun r X3 hq3 => ?_) (fun _ _ h => False.elim h)
    obtain ⟨z3, th, rfl, hval, hro⟩ := hq3
    have hM3 := MR.rd hT hD hro
    have hsm := hro.same
    have hLA := hL.more ht
    have hcode : mcode D.2.2.2.2 (!(ver (xs (i + 1)) lat)) (!th) false = 2 := by rw [e1.1, show ver (xs (i + 1)) lat = false from decide_eq_false e1.2]; rfl
    obtain ⟨s3, I3, J3, hA3, hc3, -⟩ := id hM3
    refine v_lstore i_L_law_454 (by decide) rfl ?_
    refine v_loc [(0, .ref b), (1, .ref x), (2, .ref (x + 25)), (3, .ref (x + 55)), (4, .int (nI i)), (5, .int 2), (6, .long z3)] rfl ?_
    exact end_get B hA3 (hc3.trans hcode) z3 (hZ2.ref hsm hM3).2.2 (fun q => absurd q (by decide)) (by omega) (by omega) (K X3 ⟨_, _, _, _, _, _, _, _, _, _, _, hZ2.ref hsm hM3, hLA⟩)
  · -- N
    have hst := hq.2
    have e1 : D.2.2.2.2 = false ∧ ∃ j, j ≤ lat ∧ xs (i + 1) = nI j ∧ (cgat pg made ro j (xs (i + 2)) (xs (i + 2)) 2147483647).length = 0 := by
      rcases hq.1 with w | w | w
      · exact absurd w.2 (by decide)
      · exact absurd w.2.2 (by decide)
      · exact ⟨w.1, w.2.1⟩
    obtain ⟨e1, j, j1, j2, j3⟩ := e1
    have hZ2 := hZ.cls hst
    obtain ⟨s, I, J, hA, hcd, hT, hD⟩ := id hZ2.2.1
    have hb25 := hD.2.1.2.2.2.1
    have hl12 := hT.2.2.1
    refine v_istore i_L_law_436 (by decide) rfl ?_
    refine v_aload_n i_L_law_438 rfl ?_
    refine v_aload_n i_L_law_439 rfl ?_
    refine v_iload i_L_law_440 rfl ?_
    refine v_iconst (v := 1) i_L_law_442 rfl ?_
    refine v_iadd i_L_law_443 ?_
    refine v_sld hX hb (j := i + 1) (nI_add i 1) (by omega) (by omega) i_L_law_444 ?_
    refine v_aload_n i_L_law_445 rfl ?_
    refine v_iload i_L_law_446 rfl ?_
    refine v_iconst (v := 2) i_L_law_448 rfl ?_
    refine v_iadd i_L_law_449 ?_
    refine v_sld hX hb (j := i + 2) (nI_add i 2) (by omega) (by omega) i_L_law_450 ?_
    refine v_inv B i_L_law_451 kn_m_M_get (c_M_get B hA hb25 hl12 hT.2.1.2.2.1 hT (Nat.le_refl _) _ _ (fun j hj => (ythere hm hlen (hgd j hj) (by omega) _).1)) hA.1 rfl rfl (Nat.le_of_ble_eq_true rfl) ⟨by decide, by decide, by show k + 300 + 0 ≤ 601024; omega, by show n + 4000 + 0 ≤ 7293034; omega⟩ rfl (fun r X3 hq3 => ?_) (fun _ _ h => False.elim h)
    obtain ⟨z3, th, rfl, hval, hro⟩ := hq3
    have hM3 := MR.rd hT hD hro
    have hsm := hro.same
    have hLA := hL.more ht
    have hv : ver (xs (i + 1)) lat = true := by rw [j2]; exact ver_nI j1 hT.2.1.2.2.1
    obtain ⟨v1, v2⟩ := hval e1 j j1 j2
    have y1 : gslot (pg (tlf pg made j (xs (i + 2)) 16 (ro j))) (xs (i + 2)) j = none := by
      rcases (ythere hm hlen (hgd j j1) (by omega) (xs (i + 2))).2.2 with ⟨y1, y2⟩ | ⟨y, y1, y2⟩
      · exact y1
      · rw [y2] at j3; exact absurd j3 (by simp)
    have hcode : mcode D.2.2.2.2 (!(ver (xs (i + 1)) lat)) (!th) false = 3 := by rw [e1, hv, v1, y1]; rfl
    obtain ⟨s3, I3, J3, hA3, hc3, -⟩ := id hM3
    refine v_lstore i_L_law_454 (by decide) rfl ?_
    refine v_loc [(0, .ref b), (1, .ref x), (2, .ref (x + 25)), (3, .ref (x + 55)), (4, .int (nI i)), (5, .int 3), (6, .long z3)] rfl ?_
    exact end_get B hA3 (hc3.trans hcode) z3 (hZ2.ref hsm hM3).2.2 (fun q => absurd q (by decide)) (by omega) (by omega) (K X3 ⟨_, _, _, _, _, _, _, _, _, _, _, hZ2.ref hsm hM3, hLA⟩)
theorem law_next (B : qB l s0 C) (hX : va_X b N xs s0 s0.heap) (hb : b < s0.heap.size) (hN : N ≤ 2048) (hi : i + 4 ≤ N) (h : LR X x t) (ht : t + 1 ≤ 512) (hk : k + 300 ≤ 601024) (hn : n + 4000 ≤ 7293034)
    (K : ∀ X', LR X' x (t + 1) → qV l s0 C m_L_law rmW Qp Ep (k + 300) (n + 4000) X' 1487 [(0, .ref b), (1, .ref x), (2, .ref (x + 25)), (3, .ref (x + 55)), (4, .int (nI i))] []) : qV l s0 C m_L_law rmW Qp Ep k n X 486 [(0, .ref b), (1, .ref x), (2, .ref (x + 25)), (3, .ref (x + 55)), (4, .int (nI i))] [] := by
  obtain ⟨pg, made, lat, ro, db, D, pgK, madeK, op, cd, f, hZ, hL⟩ := h
  obtain ⟨hm, hlen, hgd⟩ := hL.len
  have hx := hZ.1.obj
  have hl5 : lat ≤ 512 := by have := hL.2.2.2.1; have := hL.2.2.2.2.1; omega
  have hkp := hL.kp
  refine v_aload_n i_L_law_486 rfl ?_
  refine v_aload_n i_L_law_487 rfl ?_
  refine v_iload i_L_law_488 rfl ?_
  refine v_iconst (v := 1) i_L_law_490 rfl ?_
  refine v_iadd i_L_law_491 ?_
  refine v_sld hX hb (j := i + 1) (nI_add i 1) (by omega) (by omega) i_L_law_492 ?_
  refine v_aload_n i_L_law_493 rfl ?_
  refine v_iload i_L_law_494 rfl ?_
  refine v_iconst (v := 2) i_L_law_496 rfl ?_
  refine v_iadd i_L_law_497 ?_
  refine v_sld hX hb (j := i + 2) (nI_add i 2) (by omega) (by omega) i_L_law_498 ?_
  refine v_aload_n i_L_law_499 rfl ?_
  refine v_invS B i_L_law_500 kn_m_L_next (c_L_next (x := x) (o := x + 55) B _ _ (c_P_next B hZ.1 _ _ (fun j hj => (ygatN hm hlen (hgd j hj) (by omega) _ _).1)) hx (fun r X' h => by obtain ⟨e1, ⟨j, j1, j2, j3, er⟩, hst⟩ := h; exact ⟨⟨_, er⟩, _, (hZ.cls hst).2.2⟩) (fun e X' h => by rcases h.1 with w | w | w; exact Or.inl w.2; exact Or.inr (Or.inl w.2.2); exact Or.inr (Or.inr w.2.2))) rfl rfl (Nat.le_of_ble_eq_true rfl) ⟨by decide, by decide, by show k + 300 ≤ 601024; omega, by show n + 4000 ≤ 7293034; omega⟩ rfl (fun r X2 hq => ?_) (fun _ _ h => False.elim h)
  rcases hq with ⟨z, X', f', hq, hf', rfl, rfl⟩ | ⟨hq, rfl⟩ | ⟨hq, rfl⟩ | ⟨hq, rfl⟩
  · -- ok
    obtain ⟨e1, ⟨j, j1, j2, j3, er⟩, hst⟩ := hq
    have hZ2 := (hZ.cls hst).out (vp_updL f' 0 (z.toInt64))
    obtain ⟨s, I, J, hA, hcd, hT, hD⟩ := id hZ2.2.1
    have hb25 := hD.2.1.2.2.2.1
    have hl12 := hT.2.2.1
    refine v_istore i_L_law_503 (by decide) rfl ?_
    refine v_aload_n i_L_law_505 rfl ?_
    refine v_aload_n i_L_law_506 rfl ?_
    refine v_iload i_L_law_507 rfl ?_
    refine v_iconst (v := 1) i_L_law_509 rfl ?_
    refine v_iadd i_L_law_510 ?_
    refine v_sld hX hb (j := i + 1) (nI_add i 1) (by omega) (by omega) i_L_law_511 ?_
    refine v_aload_n i_L_law_512 rfl ?_
    refine v_iload i_L_law_513 rfl ?_
    refine v_iconst (v := 2) i_L_law_515 rfl ?_
    refine v_iadd i_L_law_516 ?_
    refine v_sld hX hb (j := i + 2) (nI_add i 2) (by omega) (by omega) i_L_law_517 ?_
    refine v_inv B i_L_law_518 kn_m_M_next (c_M_next B hA hb25 hl12 hT.2.1.2.2.1 hT (Nat.le_refl _) hgd _ _) hA.1 rfl rfl (Nat.le_of_ble_eq_true rfl) ⟨by decide, by decide, by show k + 300 + 0 ≤ 601024; omega, by show n + 4000 + 0 ≤ 7293034; omega⟩ rfl (fun r X3 hq3 => ?_) (fun _ _ h => False.elim h)
    obtain ⟨z3, cd3, rfl, hval, hcd3, hro⟩ := hq3
    have hM3 := MR.rd hT hD hro
    have hsm := hro.same
    have hLA := hL.more ht
    have hhd := (ygatN hm hlen (hgd j j1) (by omega) (xs (i + 2)) 2147483647).2
    have hcode : cd3 = 0 ∧ z3 = rk (cgat pg made ro j (xs (i + 2)) 2147483647 1) 0 := by
      rcases hval e1 j j1 j2 with ⟨y1, y2⟩ | ⟨e, tl, y1, y2, y3⟩
      · rw [y1] at hhd
        have : cgat pg made ro j (xs (i + 2)) 2147483647 1 = [] := List.head?_eq_none_iff.mp hhd
        rw [this] at j3; exact absurd j3 (by decide)
      · rw [y1] at hhd
        obtain ⟨tl2, h2⟩ := List.head?_eq_some_iff.mp hhd
        exact ⟨y2, by rw [y3, h2]; rfl⟩
    obtain ⟨hcode, hz3⟩ := hcode
    have hout : vp_updL f' 0 z.toInt64 0 = z3.toInt64 := by
      rw [hz3]
      cases er
      exact if_pos rfl
    obtain ⟨s3, I3, J3, hA3, hc3, -⟩ := id hM3
    refine v_istore i_L_law_521 (by decide) rfl ?_
    refine v_loc [(0, .ref b), (1, .ref x), (2, .ref (x + 25)), (3, .ref (x + 55)), (4, .int (nI i)), (5, .int 0), (6, .int z3)] rfl ?_
    exact end_next B hA3 (hc3.trans hcode) z3 (hZ2.ref hsm hM3).2.2 (fun _ => hout) (by omega) (by omega) (K X3 ⟨_, _, _, _, _, _, _, _, _, _, _, hZ2.ref hsm hM3, hLA⟩)
  · -- S
    have hst := hq.2
    have e1 : D.2.2.2.2 = true := by
      rcases hq.1 with w | w | w
      · exact w.1
      · exact absurd w.2.2 (by decide)
      · exact absurd w.2.2 (by decide)
    have hZ2 := hZ.cls hst
    obtain ⟨s, I, J, hA, hcd, hT, hD⟩ := id hZ2.2.1
    have hb25 := hD.2.1.2.2.2.1
    have hl12 := hT.2.2.1
    refine v_istore i_L_law_503 (by decide) rfl ?_
    refine v_aload_n i_L_law_505 rfl ?_
    refine v_aload_n i_L_law_506 rfl ?_
    refine v_iload i_L_law_507 rfl ?_
    refine v_iconst (v := 1) i_L_law_509 rfl ?_
    refine v_iadd i_L_law_510 ?_
    refine v_sld hX hb (j := i + 1) (nI_add i 1) (by omega) (by omega) i_L_law_511 ?_
    refine v_aload_n i_L_law_512 rfl ?_
    refine v_iload i_L_law_513 rfl ?_
    refine v_iconst (v := 2) i_L_law_515 rfl ?_
    refine v_iadd i_L_law_516 ?_
    refine v_sld hX hb (j := i + 2) (nI_add i 2) (by omega) (by omega) i_L_law_517 ?_
    refine v_inv B i_L_law_518 kn_m_M_next (c_M_next B hA hb25 hl12 hT.2.1.2.2.1 hT (Nat.le_refl _) hgd _ _) hA.1 rfl rfl (Nat.le_of_ble_eq_true rfl) ⟨by decide, by decide, by show k + 300 + 0 ≤ 601024; omega, by show n + 4000 + 0 ≤ 7293034; omega⟩ rfl (fun r X3 hq3 => ?_) (fun _ _ h => False.elim h)
    obtain ⟨z3, cd3, rfl, hval, hcd3, hro⟩ := hq3
    have hM3 := MR.rd hT hD hro
    have hsm := hro.same
    have hLA := hL.more ht
    have hcode : cd3 = 1 := by rw [hcd3 (by rw [e1]; rfl), e1]; rfl
    obtain ⟨s3, I3, J3, hA3, hc3, -⟩ := id hM3
    refine v_istore i_L_law_521 (by decide) rfl ?_
    refine v_loc [(0, .ref b), (1, .ref x), (2, .ref (x + 25)), (3, .ref (x + 55)), (4, .int (nI i)), (5, .int 1), (6, .int z3)] rfl ?_
    exact end_next B hA3 (hc3.trans hcode) z3 (hZ2.ref hsm hM3).2.2 (fun q => absurd q (by decide)) (by omega) (by omega) (K X3 ⟨_, _, _, _, _, _, _, _, _, _, _, hZ2.ref hsm hM3, hLA⟩)
  · -- I
    have hst := hq.2
    have e1 : D.2.2.2.2 = false ∧ ¬ (0 ≤ xs (i + 1) ∧ xs (i + 1) ≤ nI lat) := by
      rcases hq.1 with w | w | w
      · exact absurd w.2 (by decide)
      · exact ⟨w.1, w.2.1⟩
      · exact absurd w.2.2 (by decide)
    have hZ2 := hZ.cls hst
    obtain ⟨s, I, J, hA, hcd, hT, hD⟩ := id hZ2.2.1
    have hb25 := hD.2.1.2.2.2.1
    have hl12 := hT.2.2.1
    refine v_istore i_L_law_503 (by decide) rfl ?_
    refine v_aload_n i_L_law_505 rfl ?_
    refine v_aload_n i_L_law_506 rfl ?_
    refine v_iload i_L_law_507 rfl ?_
    refine v_iconst (v := 1) i_L_law_509 rfl ?_
    refine v_iadd i_L_law_510 ?_
    refine v_sld hX hb (j := i + 1) (nI_add i 1) (by omega) (by omega) i_L_law_511 ?_
    refine v_aload_n i_L_law_512 rfl ?_
    refine v_iload i_L_law_513 rfl ?_
    refine v_iconst (v := 2) i_L_law_515 rfl ?_
    refine v_iadd i_L_law_516 ?_
    refine v_sld hX hb (j := i + 2) (nI_add i 2) (by omega) (by omega) i_L_law_517 ?_
    refine v_inv B i_L_law_518 kn_m_M_next (c_M_next B hA hb25 hl12 hT.2.1.2.2.1 hT (Nat.le_refl _) hgd _ _) hA.1 rfl rfl (Nat.le_of_ble_eq_true rfl) ⟨by decide, by decide, by show k + 300 + 0 ≤ 601024; omega, by show n + 4000 + 0 ≤ 7293034; omega⟩ rfl (fun r X3 hq3 => ?_) (fun _ _ h => False.elim h)
    obtain ⟨z3, cd3, rfl, hval, hcd3, hro⟩ := hq3
    have hM3 := MR.rd hT hD hro
    have hsm := hro.same
    have hLA := hL.more ht
    have hcode : cd3 = 2 := by
      have hv : ver (xs (i + 1)) lat = false := decide_eq_false e1.2
      rw [hcd3 (by rw [hv]; simp), e1.1, hv]; rfl
    obtain ⟨s3, I3, J3, hA3, hc3, -⟩ := id hM3
    refine v_istore i_L_law_521 (by decide) rfl ?_
    refine v_loc [(0, .ref b), (1, .ref x), (2, .ref (x + 25)), (3, .ref (x + 55)), (4, .int (nI i)), (5, .int 2), (6, .int z3)] rfl ?_
    exact end_next B hA3 (hc3.trans hcode) z3 (hZ2.ref hsm hM3).2.2 (fun q => absurd q (by decide)) (by omega) (by omega) (K X3 ⟨_, _, _, _, _, _, _, _, _, _, _, hZ2.ref hsm hM3, hLA⟩)
  · -- N
    have hst := hq.2
    have e1 : D.2.2.2.2 = false ∧ ∃ j, j ≤ lat ∧ xs (i + 1) = nI j ∧ (cgat pg made ro j (xs (i + 2)) 2147483647 1).length = 0 := by
      rcases hq.1 with w | w | w
      · exact absurd w.2 (by decide)
      · exact absurd w.2.2 (by decide)
      · exact ⟨w.1, w.2.1⟩
    obtain ⟨e1, j, j1, j2, j3⟩ := e1
    have hZ2 := hZ.cls hst
    obtain ⟨s, I, J, hA, hcd, hT, hD⟩ := id hZ2.2.1
    have hb25 := hD.2.1.2.2.2.1
    have hl12 := hT.2.2.1
    refine v_istore i_L_law_503 (by decide) rfl ?_
    refine v_aload_n i_L_law_505 rfl ?_
    refine v_aload_n i_L_law_506 rfl ?_
    refine v_iload i_L_law_507 rfl ?_
    refine v_iconst (v := 1) i_L_law_509 rfl ?_
    refine v_iadd i_L_law_510 ?_
    refine v_sld hX hb (j := i + 1) (nI_add i 1) (by omega) (by omega) i_L_law_511 ?_
    refine v_aload_n i_L_law_512 rfl ?_
    refine v_iload i_L_law_513 rfl ?_
    refine v_iconst (v := 2) i_L_law_515 rfl ?_
    refine v_iadd i_L_law_516 ?_
    refine v_sld hX hb (j := i + 2) (nI_add i 2) (by omega) (by omega) i_L_law_517 ?_
    refine v_inv B i_L_law_518 kn_m_M_next (c_M_next B hA hb25 hl12 hT.2.1.2.2.1 hT (Nat.le_refl _) hgd _ _) hA.1 rfl rfl (Nat.le_of_ble_eq_true rfl) ⟨by decide, by decide, by show k + 300 + 0 ≤ 601024; omega, by show n + 4000 + 0 ≤ 7293034; omega⟩ rfl (fun r X3 hq3 => ?_) (fun _ _ h => False.elim h)
    obtain ⟨z3, cd3, rfl, hval, hcd3, hro⟩ := hq3
    have hM3 := MR.rd hT hD hro
    have hsm := hro.same
    have hLA := hL.more ht
    have hhd := (ygatN hm hlen (hgd j j1) (by omega) (xs (i + 2)) 2147483647).2
    have hcode : cd3 = 3 := by
      rcases hval e1 j j1 j2 with ⟨y1, y2⟩ | ⟨e, tl, y1, y2, y3⟩
      · exact y2
      · rw [y1] at hhd
        obtain ⟨tl2, h2⟩ := List.head?_eq_some_iff.mp hhd
        rw [h2] at j3; exact absurd j3 (by simp)
    obtain ⟨s3, I3, J3, hA3, hc3, -⟩ := id hM3
    refine v_istore i_L_law_521 (by decide) rfl ?_
    refine v_loc [(0, .ref b), (1, .ref x), (2, .ref (x + 25)), (3, .ref (x + 55)), (4, .int (nI i)), (5, .int 3), (6, .int z3)] rfl ?_
    exact end_next B hA3 (hc3.trans hcode) z3 (hZ2.ref hsm hM3).2.2 (fun q => absurd q (by decide)) (by omega) (by omega) (K X3 ⟨_, _, _, _, _, _, _, _, _, _, _, hZ2.ref hsm hM3, hLA⟩)
theorem law_count (B : qB l s0 C) (hX : va_X b N xs s0 s0.heap) (hb : b < s0.heap.size) (hN : N ≤ 2048) (hi : i + 4 ≤ N) (h : LR X x t) (ht : t + 1 ≤ 512) (hk : k + 300 ≤ 601024) (hn : n + 4000 ≤ 7293034)
    (K : ∀ X', LR X' x (t + 1) → qV l s0 C m_L_law rmW Qp Ep (k + 300) (n + 4000) X' 1487 [(0, .ref b), (1, .ref x), (2, .ref (x + 25)), (3, .ref (x + 55)), (4, .int (nI i))] []) : qV l s0 C m_L_law rmW Qp Ep k n X 554 [(0, .ref b), (1, .ref x), (2, .ref (x + 25)), (3, .ref (x + 55)), (4, .int (nI i))] [] := by
  obtain ⟨pg, made, lat, ro, db, D, pgK, madeK, op, cd, f, hZ, hL⟩ := h
  obtain ⟨hm, hlen, hgd⟩ := hL.len
  have hx := hZ.1.obj
  have hl5 : lat ≤ 512 := by have := hL.2.2.2.1; have := hL.2.2.2.2.1; omega
  have hkp := hL.kp
  refine v_aload_n i_L_law_554 rfl ?_
  refine v_aload_n i_L_law_555 rfl ?_
  refine v_iload i_L_law_556 rfl ?_
  refine v_iconst (v := 1) i_L_law_558 rfl ?_
  refine v_iadd i_L_law_559 ?_
  refine v_sld hX hb (j := i + 1) (nI_add i 1) (by omega) (by omega) i_L_law_560 ?_
  refine v_aload_n i_L_law_561 rfl ?_
  refine v_iload i_L_law_562 rfl ?_
  refine v_iconst (v := 2) i_L_law_564 rfl ?_
  refine v_iadd i_L_law_565 ?_
  refine v_sld hX hb (j := i + 2) (nI_add i 2) (by omega) (by omega) i_L_law_566 ?_
  refine v_aload_n i_L_law_567 rfl ?_
  refine v_iload i_L_law_568 rfl ?_
  refine v_iconst (v := 3) i_L_law_570 rfl ?_
  refine v_iadd i_L_law_571 ?_
  refine v_sld hX hb (j := i + 3) (nI_add i 3) (by omega) (by omega) i_L_law_572 ?_
  refine v_aload_n i_L_law_573 rfl ?_
  refine v_invS B i_L_law_574 kn_m_L_count (c_L_count (x := x) (o := x + 55) B _ _ _ (c_P_count B hZ.1 _ _ _ (fun j hj => (ygatA hm hlen (hgd j hj) (by omega) _ _).1)) hx (fun r X' h => by obtain ⟨e1, ⟨j, j1, j2, er⟩, hst⟩ := h; exact ⟨⟨_, er⟩, _, (hZ.cls hst).2.2⟩) (fun e X' h => by rcases h.1 with w | w; exact Or.inl w.2; exact Or.inr w.2.2)) rfl rfl (Nat.le_of_ble_eq_true rfl) ⟨by decide, by decide, by show k + 300 ≤ 601024; omega, by show n + 4000 ≤ 7293034; omega⟩ rfl (fun r X2 hq => ?_) (fun _ _ h => False.elim h)
  rcases hq with ⟨z, X', f', hq, hf', rfl, rfl⟩ | ⟨hq, rfl⟩ | ⟨hq, rfl⟩
  · -- ok
    obtain ⟨e1, ⟨j, j1, j2, er⟩, hst⟩ := hq
    have hZ2 := (hZ.cls hst).out (vp_updL f' 0 (z.toInt64))
    obtain ⟨s, I, J, hA, hcd, hT, hD⟩ := id hZ2.2.1
    have hb25 := hD.2.1.2.2.2.1
    have hl12 := hT.2.2.1
    refine v_istore i_L_law_577 (by decide) rfl ?_
    refine v_aload_n i_L_law_579 rfl ?_
    refine v_aload_n i_L_law_580 rfl ?_
    refine v_iload i_L_law_581 rfl ?_
    refine v_iconst (v := 1) i_L_law_583 rfl ?_
    refine v_iadd i_L_law_584 ?_
    refine v_sld hX hb (j := i + 1) (nI_add i 1) (by omega) (by omega) i_L_law_585 ?_
    refine v_aload_n i_L_law_586 rfl ?_
    refine v_iload i_L_law_587 rfl ?_
    refine v_iconst (v := 2) i_L_law_589 rfl ?_
    refine v_iadd i_L_law_590 ?_
    refine v_sld hX hb (j := i + 2) (nI_add i 2) (by omega) (by omega) i_L_law_591 ?_
    refine v_aload_n i_L_law_592 rfl ?_
    refine v_iload i_L_law_593 rfl ?_
    refine v_iconst (v := 3) i_L_law_595 rfl ?_
    refine v_iadd i_L_law_596 ?_
    refine v_sld hX hb (j := i + 3) (nI_add i 3) (by omega) (by omega) i_L_law_597 ?_
    refine v_inv B i_L_law_598 kn_m_M_count (c_M_count B hA hb25 hl12 hT.2.1.2.2.1 hT (Nat.le_refl _) hgd _ _ _) hA.1 rfl rfl (Nat.le_of_ble_eq_true rfl) ⟨by decide, by decide, by show k + 300 + 0 ≤ 601024; omega, by show n + 4000 + 0 ≤ 7293034; omega⟩ rfl (fun r X3 hq3 => ?_) (fun _ _ h => False.elim h)
    obtain ⟨z3, cd3, rfl, hval, hcd3, hro⟩ := hq3
    have hM3 := MR.rd hT hD hro
    have hsm := hro.same
    have hLA := hL.more ht
    obtain ⟨hcode, hz3⟩ := hval e1 j j1 j2
    have hout : vp_updL f' 0 z.toInt64 0 = z3.toInt64 := by
      rw [hz3, ← (ygatA hm hlen (hgd j j1) (by omega) (xs (i + 2)) (xs (i + 3))).2]
      cases er
      exact if_pos rfl
    obtain ⟨s3, I3, J3, hA3, hc3, -⟩ := id hM3
    refine v_istore i_L_law_601 (by decide) rfl ?_
    refine v_loc [(0, .ref b), (1, .ref x), (2, .ref (x + 25)), (3, .ref (x + 55)), (4, .int (nI i)), (5, .int 0), (6, .int z3)] rfl ?_
    exact end_count B hA3 (hc3.trans hcode) z3 (hZ2.ref hsm hM3).2.2 (fun _ => hout) (by omega) (by omega) (K X3 ⟨_, _, _, _, _, _, _, _, _, _, _, hZ2.ref hsm hM3, hLA⟩)
  · -- S
    have hst := hq.2
    have e1 : D.2.2.2.2 = true := by
      rcases hq.1 with w | w
      · exact w.1
      · exact absurd w.2.2 (by decide)
    have hZ2 := hZ.cls hst
    obtain ⟨s, I, J, hA, hcd, hT, hD⟩ := id hZ2.2.1
    have hb25 := hD.2.1.2.2.2.1
    have hl12 := hT.2.2.1
    refine v_istore i_L_law_577 (by decide) rfl ?_
    refine v_aload_n i_L_law_579 rfl ?_
    refine v_aload_n i_L_law_580 rfl ?_
    refine v_iload i_L_law_581 rfl ?_
    refine v_iconst (v := 1) i_L_law_583 rfl ?_
    refine v_iadd i_L_law_584 ?_
    refine v_sld hX hb (j := i + 1) (nI_add i 1) (by omega) (by omega) i_L_law_585 ?_
    refine v_aload_n i_L_law_586 rfl ?_
    refine v_iload i_L_law_587 rfl ?_
    refine v_iconst (v := 2) i_L_law_589 rfl ?_
    refine v_iadd i_L_law_590 ?_
    refine v_sld hX hb (j := i + 2) (nI_add i 2) (by omega) (by omega) i_L_law_591 ?_
    refine v_aload_n i_L_law_592 rfl ?_
    refine v_iload i_L_law_593 rfl ?_
    refine v_iconst (v := 3) i_L_law_595 rfl ?_
    refine v_iadd i_L_law_596 ?_
    refine v_sld hX hb (j := i + 3) (nI_add i 3) (by omega) (by omega) i_L_law_597 ?_
    refine v_inv B i_L_law_598 kn_m_M_count (c_M_count B hA hb25 hl12 hT.2.1.2.2.1 hT (Nat.le_refl _) hgd _ _ _) hA.1 rfl rfl (Nat.le_of_ble_eq_true rfl) ⟨by decide, by decide, by show k + 300 + 0 ≤ 601024; omega, by show n + 4000 + 0 ≤ 7293034; omega⟩ rfl (fun r X3 hq3 => ?_) (fun _ _ h => False.elim h)
    obtain ⟨z3, cd3, rfl, hval, hcd3, hro⟩ := hq3
    have hM3 := MR.rd hT hD hro
    have hsm := hro.same
    have hLA := hL.more ht
    have hcode : cd3 = 1 := by rw [hcd3 (by rw [e1]; rfl), e1]; rfl
    obtain ⟨s3, I3, J3, hA3, hc3, -⟩ := id hM3
    refine v_istore i_L_law_601 (by decide) rfl ?_
    refine v_loc [(0, .ref b), (1, .ref x), (2, .ref (x + 25)), (3, .ref (x + 55)), (4, .int (nI i)), (5, .int 1), (6, .int z3)] rfl ?_
    exact end_count B hA3 (hc3.trans hcode) z3 (hZ2.ref hsm hM3).2.2 (fun q => absurd q (by decide)) (by omega) (by omega) (K X3 ⟨_, _, _, _, _, _, _, _, _, _, _, hZ2.ref hsm hM3, hLA⟩)
  · -- I
    have hst := hq.2
    have e1 : D.2.2.2.2 = false ∧ ¬ (0 ≤ xs (i + 1) ∧ xs (i + 1) ≤ nI lat) := by
      rcases hq.1 with w | w
      · exact absurd w.2 (by decide)
      · exact ⟨w.1, w.2.1⟩
    have hZ2 := hZ.cls hst
    obtain ⟨s, I, J, hA, hcd, hT, hD⟩ := id hZ2.2.1
    have hb25 := hD.2.1.2.2.2.1
    have hl12 := hT.2.2.1
    refine v_istore i_L_law_577 (by decide) rfl ?_
    refine v_aload_n i_L_law_579 rfl ?_
    refine v_aload_n i_L_law_580 rfl ?_
    refine v_iload i_L_law_581 rfl ?_
    refine v_iconst (v := 1) i_L_law_583 rfl ?_
    refine v_iadd i_L_law_584 ?_
    refine v_sld hX hb (j := i + 1) (nI_add i 1) (by omega) (by omega) i_L_law_585 ?_
    refine v_aload_n i_L_law_586 rfl ?_
    refine v_iload i_L_law_587 rfl ?_
    refine v_iconst (v := 2) i_L_law_589 rfl ?_
    refine v_iadd i_L_law_590 ?_
    refine v_sld hX hb (j := i + 2) (nI_add i 2) (by omega) (by omega) i_L_law_591 ?_
    refine v_aload_n i_L_law_592 rfl ?_
    refine v_iload i_L_law_593 rfl ?_
    refine v_iconst (v := 3) i_L_law_595 rfl ?_
    refine v_iadd i_L_law_596 ?_
    refine v_sld hX hb (j := i + 3) (nI_add i 3) (by omega) (by omega) i_L_law_597 ?_
    refine v_inv B i_L_law_598 kn_m_M_count (c_M_count B hA hb25 hl12 hT.2.1.2.2.1 hT (Nat.le_refl _) hgd _ _ _) hA.1 rfl rfl (Nat.le_of_ble_eq_true rfl) ⟨by decide, by decide, by show k + 300 + 0 ≤ 601024; omega, by show n + 4000 + 0 ≤ 7293034; omega⟩ rfl (fun r X3 hq3 => ?_) (fun _ _ h => False.elim h)
    obtain ⟨z3, cd3, rfl, hval, hcd3, hro⟩ := hq3
    have hM3 := MR.rd hT hD hro
    have hsm := hro.same
    have hLA := hL.more ht
    have hcode : cd3 = 2 := by
      have hv : ver (xs (i + 1)) lat = false := decide_eq_false e1.2
      rw [hcd3 (by rw [hv]; simp), e1.1, hv]; rfl
    obtain ⟨s3, I3, J3, hA3, hc3, -⟩ := id hM3
    refine v_istore i_L_law_601 (by decide) rfl ?_
    refine v_loc [(0, .ref b), (1, .ref x), (2, .ref (x + 25)), (3, .ref (x + 55)), (4, .int (nI i)), (5, .int 2), (6, .int z3)] rfl ?_
    exact end_count B hA3 (hc3.trans hcode) z3 (hZ2.ref hsm hM3).2.2 (fun q => absurd q (by decide)) (by omega) (by omega) (K X3 ⟨_, _, _, _, _, _, _, _, _, _, _, hZ2.ref hsm hM3, hLA⟩)
theorem law_sum (B : qB l s0 C) (hX : va_X b N xs s0 s0.heap) (hb : b < s0.heap.size) (hN : N ≤ 2048) (hi : i + 4 ≤ N) (h : LR X x t) (ht : t + 1 ≤ 512) (hk : k + 300 ≤ 601024) (hn : n + 4000 ≤ 7293034)
    (K : ∀ X', LR X' x (t + 1) → qV l s0 C m_L_law rmW Qp Ep (k + 300) (n + 4000) X' 1487 [(0, .ref b), (1, .ref x), (2, .ref (x + 25)), (3, .ref (x + 55)), (4, .int (nI i))] []) : qV l s0 C m_L_law rmW Qp Ep k n X 634 [(0, .ref b), (1, .ref x), (2, .ref (x + 25)), (3, .ref (x + 55)), (4, .int (nI i))] [] := by
  obtain ⟨pg, made, lat, ro, db, D, pgK, madeK, op, cd, f, hZ, hL⟩ := h
  obtain ⟨hm, hlen, hgd⟩ := hL.len
  have hx := hZ.1.obj
  have hl5 : lat ≤ 512 := by have := hL.2.2.2.1; have := hL.2.2.2.2.1; omega
  have hkp := hL.kp
  refine v_aload_n i_L_law_634 rfl ?_
  refine v_aload_n i_L_law_635 rfl ?_
  refine v_iload i_L_law_636 rfl ?_
  refine v_iconst (v := 1) i_L_law_638 rfl ?_
  refine v_iadd i_L_law_639 ?_
  refine v_sld hX hb (j := i + 1) (nI_add i 1) (by omega) (by omega) i_L_law_640 ?_
  refine v_aload_n i_L_law_641 rfl ?_
  refine v_iload i_L_law_642 rfl ?_
  refine v_iconst (v := 2) i_L_law_644 rfl ?_
  refine v_iadd i_L_law_645 ?_
  refine v_sld hX hb (j := i + 2) (nI_add i 2) (by omega) (by omega) i_L_law_646 ?_
  refine v_aload_n i_L_law_647 rfl ?_
  refine v_iload i_L_law_648 rfl ?_
  refine v_iconst (v := 3) i_L_law_650 rfl ?_
  refine v_iadd i_L_law_651 ?_
  refine v_sld hX hb (j := i + 3) (nI_add i 3) (by omega) (by omega) i_L_law_652 ?_
  refine v_aload_n i_L_law_653 rfl ?_
  refine v_invS B i_L_law_654 kn_m_L_sum (c_L_sum (x := x) (o := x + 55) B _ _ _ (c_P_sum B hZ.1 _ _ _ (fun j hj => (ygatA hm hlen (hgd j hj) (by omega) _ _).1)) hx (fun r X' h => by obtain ⟨e1, ⟨j, j1, j2, er⟩, hst⟩ := h; exact ⟨⟨_, er⟩, _, (hZ.cls hst).2.2⟩) (fun e X' h => by rcases h.1 with w | w; exact Or.inl w.2; exact Or.inr w.2.2)) rfl rfl (Nat.le_of_ble_eq_true rfl) ⟨by decide, by decide, by show k + 300 ≤ 601024; omega, by show n + 4000 ≤ 7293034; omega⟩ rfl (fun r X2 hq => ?_) (fun _ _ h => False.elim h)
  rcases hq with ⟨z, X', f', hq, hf', rfl, rfl⟩ | ⟨hq, rfl⟩ | ⟨hq, rfl⟩
  · -- ok
    obtain ⟨e1, ⟨j, j1, j2, er⟩, hst⟩ := hq
    have hZ2 := (hZ.cls hst).out (vp_updL f' 0 (z))
    obtain ⟨s, I, J, hA, hcd, hT, hD⟩ := id hZ2.2.1
    have hb25 := hD.2.1.2.2.2.1
    have hl12 := hT.2.2.1
    refine v_istore i_L_law_657 (by decide) rfl ?_
    refine v_aload_n i_L_law_659 rfl ?_
    refine v_aload_n i_L_law_660 rfl ?_
    refine v_iload i_L_law_661 rfl ?_
    refine v_iconst (v := 1) i_L_law_663 rfl ?_
    refine v_iadd i_L_law_664 ?_
    refine v_sld hX hb (j := i + 1) (nI_add i 1) (by omega) (by omega) i_L_law_665 ?_
    refine v_aload_n i_L_law_666 rfl ?_
    refine v_iload i_L_law_667 rfl ?_
    refine v_iconst (v := 2) i_L_law_669 rfl ?_
    refine v_iadd i_L_law_670 ?_
    refine v_sld hX hb (j := i + 2) (nI_add i 2) (by omega) (by omega) i_L_law_671 ?_
    refine v_aload_n i_L_law_672 rfl ?_
    refine v_iload i_L_law_673 rfl ?_
    refine v_iconst (v := 3) i_L_law_675 rfl ?_
    refine v_iadd i_L_law_676 ?_
    refine v_sld hX hb (j := i + 3) (nI_add i 3) (by omega) (by omega) i_L_law_677 ?_
    refine v_inv B i_L_law_678 kn_m_M_sum (c_M_sum B hA hb25 hl12 hT.2.1.2.2.1 hT (Nat.le_refl _) hgd _ _ _) hA.1 rfl rfl (Nat.le_of_ble_eq_true rfl) ⟨by decide, by decide, by show k + 300 + 0 ≤ 601024; omega, by show n + 4000 + 0 ≤ 7293034; omega⟩ rfl (fun r X3 hq3 => ?_) (fun _ _ h => False.elim h)
    obtain ⟨z3, cd3, rfl, hval, hcd3, hro⟩ := hq3
    have hM3 := MR.rd hT hD hro
    have hsm := hro.same
    have hLA := hL.more ht
    obtain ⟨hcode, hz3⟩ := hval e1 j j1 j2
    have hout : vp_updL f' 0 z 0 = z3 := by
      rw [hz3, ← (ygatA hm hlen (hgd j j1) (by omega) (xs (i + 2)) (xs (i + 3))).2]
      cases er
      exact if_pos rfl
    obtain ⟨s3, I3, J3, hA3, hc3, -⟩ := id hM3
    refine v_lstore i_L_law_681 (by decide) rfl ?_
    refine v_loc [(0, .ref b), (1, .ref x), (2, .ref (x + 25)), (3, .ref (x + 55)), (4, .int (nI i)), (5, .int 0), (6, .long z3)] rfl ?_
    exact end_sum B hA3 (hc3.trans hcode) z3 (hZ2.ref hsm hM3).2.2 (fun _ => hout) (by omega) (by omega) (K X3 ⟨_, _, _, _, _, _, _, _, _, _, _, hZ2.ref hsm hM3, hLA⟩)
  · -- S
    have hst := hq.2
    have e1 : D.2.2.2.2 = true := by
      rcases hq.1 with w | w
      · exact w.1
      · exact absurd w.2.2 (by decide)
    have hZ2 := hZ.cls hst
    obtain ⟨s, I, J, hA, hcd, hT, hD⟩ := id hZ2.2.1
    have hb25 := hD.2.1.2.2.2.1
    have hl12 := hT.2.2.1
    refine v_istore i_L_law_657 (by decide) rfl ?_
    refine v_aload_n i_L_law_659 rfl ?_
    refine v_aload_n i_L_law_660 rfl ?_
    refine v_iload i_L_law_661 rfl ?_
    refine v_iconst (v := 1) i_L_law_663 rfl ?_
    refine v_iadd i_L_law_664 ?_
    refine v_sld hX hb (j := i + 1) (nI_add i 1) (by omega) (by omega) i_L_law_665 ?_
    refine v_aload_n i_L_law_666 rfl ?_
    refine v_iload i_L_law_667 rfl ?_
    refine v_iconst (v := 2) i_L_law_669 rfl ?_
    refine v_iadd i_L_law_670 ?_
    refine v_sld hX hb (j := i + 2) (nI_add i 2) (by omega) (by omega) i_L_law_671 ?_
    refine v_aload_n i_L_law_672 rfl ?_
    refine v_iload i_L_law_673 rfl ?_
    refine v_iconst (v := 3) i_L_law_675 rfl ?_
    refine v_iadd i_L_law_676 ?_
    refine v_sld hX hb (j := i + 3) (nI_add i 3) (by omega) (by omega) i_L_law_677 ?_
    refine v_inv B i_L_law_678 kn_m_M_sum (c_M_sum B hA hb25 hl12 hT.2.1.2.2.1 hT (Nat.le_refl _) hgd _ _ _) hA.1 rfl rfl (Nat.le_of_ble_eq_true rfl) ⟨by decide, by decide, by show k + 300 + 0 ≤ 601024; omega, by show n + 4000 + 0 ≤ 7293034; omega⟩ rfl (fun r X3 hq3 => ?_) (fun _ _ h => False.elim h)
    obtain ⟨z3, cd3, rfl, hval, hcd3, hro⟩ := hq3
    have hM3 := MR.rd hT hD hro
    have hsm := hro.same
    have hLA := hL.more ht
    have hcode : cd3 = 1 := by rw [hcd3 (by rw [e1]; rfl), e1]; rfl
    obtain ⟨s3, I3, J3, hA3, hc3, -⟩ := id hM3
    refine v_lstore i_L_law_681 (by decide) rfl ?_
    refine v_loc [(0, .ref b), (1, .ref x), (2, .ref (x + 25)), (3, .ref (x + 55)), (4, .int (nI i)), (5, .int 1), (6, .long z3)] rfl ?_
    exact end_sum B hA3 (hc3.trans hcode) z3 (hZ2.ref hsm hM3).2.2 (fun q => absurd q (by decide)) (by omega) (by omega) (K X3 ⟨_, _, _, _, _, _, _, _, _, _, _, hZ2.ref hsm hM3, hLA⟩)
  · -- I
    have hst := hq.2
    have e1 : D.2.2.2.2 = false ∧ ¬ (0 ≤ xs (i + 1) ∧ xs (i + 1) ≤ nI lat) := by
      rcases hq.1 with w | w
      · exact absurd w.2 (by decide)
      · exact ⟨w.1, w.2.1⟩
    have hZ2 := hZ.cls hst
    obtain ⟨s, I, J, hA, hcd, hT, hD⟩ := id hZ2.2.1
    have hb25 := hD.2.1.2.2.2.1
    have hl12 := hT.2.2.1
    refine v_istore i_L_law_657 (by decide) rfl ?_
    refine v_aload_n i_L_law_659 rfl ?_
    refine v_aload_n i_L_law_660 rfl ?_
    refine v_iload i_L_law_661 rfl ?_
    refine v_iconst (v := 1) i_L_law_663 rfl ?_
    refine v_iadd i_L_law_664 ?_
    refine v_sld hX hb (j := i + 1) (nI_add i 1) (by omega) (by omega) i_L_law_665 ?_
    refine v_aload_n i_L_law_666 rfl ?_
    refine v_iload i_L_law_667 rfl ?_
    refine v_iconst (v := 2) i_L_law_669 rfl ?_
    refine v_iadd i_L_law_670 ?_
    refine v_sld hX hb (j := i + 2) (nI_add i 2) (by omega) (by omega) i_L_law_671 ?_
    refine v_aload_n i_L_law_672 rfl ?_
    refine v_iload i_L_law_673 rfl ?_
    refine v_iconst (v := 3) i_L_law_675 rfl ?_
    refine v_iadd i_L_law_676 ?_
    refine v_sld hX hb (j := i + 3) (nI_add i 3) (by omega) (by omega) i_L_law_677 ?_
    refine v_inv B i_L_law_678 kn_m_M_sum (c_M_sum B hA hb25 hl12 hT.2.1.2.2.1 hT (Nat.le_refl _) hgd _ _ _) hA.1 rfl rfl (Nat.le_of_ble_eq_true rfl) ⟨by decide, by decide, by show k + 300 + 0 ≤ 601024; omega, by show n + 4000 + 0 ≤ 7293034; omega⟩ rfl (fun r X3 hq3 => ?_) (fun _ _ h => False.elim h)
    obtain ⟨z3, cd3, rfl, hval, hcd3, hro⟩ := hq3
    have hM3 := MR.rd hT hD hro
    have hsm := hro.same
    have hLA := hL.more ht
    have hcode : cd3 = 2 := by
      have hv : ver (xs (i + 1)) lat = false := decide_eq_false e1.2
      rw [hcd3 (by rw [hv]; simp), e1.1, hv]; rfl
    obtain ⟨s3, I3, J3, hA3, hc3, -⟩ := id hM3
    refine v_lstore i_L_law_681 (by decide) rfl ?_
    refine v_loc [(0, .ref b), (1, .ref x), (2, .ref (x + 25)), (3, .ref (x + 55)), (4, .int (nI i)), (5, .int 2), (6, .long z3)] rfl ?_
    exact end_sum B hA3 (hc3.trans hcode) z3 (hZ2.ref hsm hM3).2.2 (fun q => absurd q (by decide)) (by omega) (by omega) (K X3 ⟨_, _, _, _, _, _, _, _, _, _, _, hZ2.ref hsm hM3, hLA⟩)
theorem law_alive (B : qB l s0 C) (hX : va_X b N xs s0 s0.heap) (hb : b < s0.heap.size) (hN : N ≤ 2048) (hi : i + 4 ≤ N) (h : LR X x t) (ht : t + 1 ≤ 512) (hk : k + 300 ≤ 601024) (hn : n + 4000 ≤ 7293034)
    (K : ∀ X', LR X' x (t + 1) → qV l s0 C m_L_law rmW Qp Ep (k + 300) (n + 4000) X' 1487 [(0, .ref b), (1, .ref x), (2, .ref (x + 25)), (3, .ref (x + 55)), (4, .int (nI i))] []) : qV l s0 C m_L_law rmW Qp Ep k n X 905 [(0, .ref b), (1, .ref x), (2, .ref (x + 25)), (3, .ref (x + 55)), (4, .int (nI i))] [] := by
  obtain ⟨pg, made, lat, ro, db, D, pgK, madeK, op, cd, f, hZ, hL⟩ := h
  obtain ⟨hm, hlen, hgd⟩ := hL.len
  have hx := hZ.1.obj
  have hl5 : lat ≤ 512 := by have := hL.2.2.2.1; have := hL.2.2.2.2.1; omega
  have hkp := hL.kp
  refine v_aload_n i_L_law_905 rfl ?_
  refine v_aload_n i_L_law_906 rfl ?_
  refine v_iload i_L_law_907 rfl ?_
  refine v_iconst (v := 1) i_L_law_909 rfl ?_
  refine v_iadd i_L_law_910 ?_
  refine v_sld hX hb (j := i + 1) (nI_add i 1) (by omega) (by omega) i_L_law_911 ?_
  refine v_aload_n i_L_law_912 rfl ?_
  refine v_iload i_L_law_913 rfl ?_
  refine v_iconst (v := 2) i_L_law_915 rfl ?_
  refine v_iadd i_L_law_916 ?_
  refine v_sld hX hb (j := i + 2) (nI_add i 2) (by omega) (by omega) i_L_law_917 ?_
  refine v_aload_n i_L_law_918 rfl ?_
  refine v_invS B i_L_law_919 kn_m_L_alive (c_L_alive (x := x) (o := x + 55) B _ _ (c_P_alive B hZ.1 _ _) hx (fun r X' h => by obtain ⟨e1, ⟨p, j, p1, j1, p2, j2, er⟩, hst⟩ := h; exact ⟨⟨_, er⟩, _, (hZ.cls hst).2.2⟩) (fun e X' h => by rcases h.1 with w | w; exact Or.inl w.2; exact Or.inr w.2.2)) rfl rfl (Nat.le_of_ble_eq_true rfl) ⟨by decide, by decide, by show k + 300 ≤ 601024; omega, by show n + 4000 ≤ 7293034; omega⟩ rfl (fun r X2 hq => ?_) (fun _ _ h => False.elim h)
  rcases hq with ⟨z, X', f', hq, hf', rfl, rfl⟩ | ⟨hq, rfl⟩ | ⟨hq, rfl⟩
  · -- ok
    obtain ⟨e1, ⟨p, j, p1, j1, p2, j2, er⟩, hst⟩ := hq
    have hZ2 := (hZ.cls hst).out (vp_updL f' 0 (z.toInt64))
    obtain ⟨s, I, J, hA, hcd, hT, hD⟩ := id hZ2.2.1
    have hb25 := hD.2.1.2.2.2.1
    have hl12 := hT.2.2.1
    refine v_istore i_L_law_922 (by decide) rfl ?_
    refine v_aload_n i_L_law_924 rfl ?_
    refine v_aload_n i_L_law_925 rfl ?_
    refine v_iload i_L_law_926 rfl ?_
    refine v_iconst (v := 1) i_L_law_928 rfl ?_
    refine v_iadd i_L_law_929 ?_
    refine v_sld hX hb (j := i + 1) (nI_add i 1) (by omega) (by omega) i_L_law_930 ?_
    refine v_aload_n i_L_law_931 rfl ?_
    refine v_iload i_L_law_932 rfl ?_
    refine v_iconst (v := 2) i_L_law_934 rfl ?_
    refine v_iadd i_L_law_935 ?_
    refine v_sld hX hb (j := i + 2) (nI_add i 2) (by omega) (by omega) i_L_law_936 ?_
    refine v_inv B i_L_law_937 kn_m_M_alive (c_M_alive B hA hb25 hl12 hT.2.1.2.2.1 hT (Nat.le_refl _) _ _) hA.1 rfl rfl (Nat.le_of_ble_eq_true rfl) ⟨by decide, by decide, by show k + 300 + 0 ≤ 601024; omega, by show n + 4000 + 0 ≤ 7293034; omega⟩ rfl (fun r X3 hq3 => ?_) (fun _ _ h => False.elim h)
    obtain ⟨z3, rfl, hval, hro⟩ := hq3
    have hM3 := MR.rd hT hD hro
    have hsm := hro.same
    have hLA := hL.more ht
    have hv : ver (xs (i + 2)) lat = true := by rw [j2]; exact ver_nI j1 hT.2.1.2.2.1
    have hp : pgn (xs (i + 1)) made = true := by rw [p2]; exact decide_eq_true ⟨nI_pos' (by omega), nI_lt p1 (by omega)⟩
    have hcode : mcode D.2.2.2.2 (!(pgn (xs (i + 1)) made) || !(ver (xs (i + 2)) lat)) false false = 0 := by rw [e1, hv, hp]; rfl
    have hout : vp_updL f' 0 z.toInt64 0 = z3.toInt64 := by
      rw [hval e1 p j p1 j1 p2 j2]
      cases er
      exact if_pos rfl
    obtain ⟨s3, I3, J3, hA3, hc3, -⟩ := id hM3
    refine v_istore i_L_law_940 (by decide) rfl ?_
    refine v_loc [(0, .ref b), (1, .ref x), (2, .ref (x + 25)), (3, .ref (x + 55)), (4, .int (nI i)), (5, .int 0), (6, .int z3)] rfl ?_
    exact end_alive B hA3 (hc3.trans hcode) z3 (hZ2.ref hsm hM3).2.2 (fun _ => hout) (by omega) (by omega) (K X3 ⟨_, _, _, _, _, _, _, _, _, _, _, hZ2.ref hsm hM3, hLA⟩)
  · -- S
    have hst := hq.2
    have e1 : D.2.2.2.2 = true := by
      rcases hq.1 with w | w
      · exact w.1
      · exact absurd w.2.2 (by decide)
    have hZ2 := hZ.cls hst
    obtain ⟨s, I, J, hA, hcd, hT, hD⟩ := id hZ2.2.1
    have hb25 := hD.2.1.2.2.2.1
    have hl12 := hT.2.2.1
    refine v_istore i_L_law_922 (by decide) rfl ?_
    refine v_aload_n i_L_law_924 rfl ?_
    refine v_aload_n i_L_law_925 rfl ?_
    refine v_iload i_L_law_926 rfl ?_
    refine v_iconst (v := 1) i_L_law_928 rfl ?_
    refine v_iadd i_L_law_929 ?_
    refine v_sld hX hb (j := i + 1) (nI_add i 1) (by omega) (by omega) i_L_law_930 ?_
    refine v_aload_n i_L_law_931 rfl ?_
    refine v_iload i_L_law_932 rfl ?_
    refine v_iconst (v := 2) i_L_law_934 rfl ?_
    refine v_iadd i_L_law_935 ?_
    refine v_sld hX hb (j := i + 2) (nI_add i 2) (by omega) (by omega) i_L_law_936 ?_
    refine v_inv B i_L_law_937 kn_m_M_alive (c_M_alive B hA hb25 hl12 hT.2.1.2.2.1 hT (Nat.le_refl _) _ _) hA.1 rfl rfl (Nat.le_of_ble_eq_true rfl) ⟨by decide, by decide, by show k + 300 + 0 ≤ 601024; omega, by show n + 4000 + 0 ≤ 7293034; omega⟩ rfl (fun r X3 hq3 => ?_) (fun _ _ h => False.elim h)
    obtain ⟨z3, rfl, hval, hro⟩ := hq3
    have hM3 := MR.rd hT hD hro
    have hsm := hro.same
    have hLA := hL.more ht
    have hcode : mcode D.2.2.2.2 (!(pgn (xs (i + 1)) made) || !(ver (xs (i + 2)) lat)) false false = 1 := by rw [e1]; rfl
    obtain ⟨s3, I3, J3, hA3, hc3, -⟩ := id hM3
    refine v_istore i_L_law_940 (by decide) rfl ?_
    refine v_loc [(0, .ref b), (1, .ref x), (2, .ref (x + 25)), (3, .ref (x + 55)), (4, .int (nI i)), (5, .int 1), (6, .int z3)] rfl ?_
    exact end_alive B hA3 (hc3.trans hcode) z3 (hZ2.ref hsm hM3).2.2 (fun q => absurd q (by decide)) (by omega) (by omega) (K X3 ⟨_, _, _, _, _, _, _, _, _, _, _, hZ2.ref hsm hM3, hLA⟩)
  · -- I
    have hst := hq.2
    have e1 : D.2.2.2.2 = false ∧ (¬ (0 ≤ xs (i + 1) ∧ xs (i + 1) < nI made) ∨ ¬ (0 ≤ xs (i + 2) ∧ xs (i + 2) ≤ nI lat)) := by
      rcases hq.1 with w | w
      · exact absurd w.2 (by decide)
      · exact ⟨w.1, w.2.1⟩
    have hZ2 := hZ.cls hst
    obtain ⟨s, I, J, hA, hcd, hT, hD⟩ := id hZ2.2.1
    have hb25 := hD.2.1.2.2.2.1
    have hl12 := hT.2.2.1
    refine v_istore i_L_law_922 (by decide) rfl ?_
    refine v_aload_n i_L_law_924 rfl ?_
    refine v_aload_n i_L_law_925 rfl ?_
    refine v_iload i_L_law_926 rfl ?_
    refine v_iconst (v := 1) i_L_law_928 rfl ?_
    refine v_iadd i_L_law_929 ?_
    refine v_sld hX hb (j := i + 1) (nI_add i 1) (by omega) (by omega) i_L_law_930 ?_
    refine v_aload_n i_L_law_931 rfl ?_
    refine v_iload i_L_law_932 rfl ?_
    refine v_iconst (v := 2) i_L_law_934 rfl ?_
    refine v_iadd i_L_law_935 ?_
    refine v_sld hX hb (j := i + 2) (nI_add i 2) (by omega) (by omega) i_L_law_936 ?_
    refine v_inv B i_L_law_937 kn_m_M_alive (c_M_alive B hA hb25 hl12 hT.2.1.2.2.1 hT (Nat.le_refl _) _ _) hA.1 rfl rfl (Nat.le_of_ble_eq_true rfl) ⟨by decide, by decide, by show k + 300 + 0 ≤ 601024; omega, by show n + 4000 + 0 ≤ 7293034; omega⟩ rfl (fun r X3 hq3 => ?_) (fun _ _ h => False.elim h)
    obtain ⟨z3, rfl, hval, hro⟩ := hq3
    have hM3 := MR.rd hT hD hro
    have hsm := hro.same
    have hLA := hL.more ht
    have hcode : mcode D.2.2.2.2 (!(pgn (xs (i + 1)) made) || !(ver (xs (i + 2)) lat)) false false = 2 := by
      rcases e1.2 with w | w
      · rw [e1.1, show pgn (xs (i + 1)) made = false from decide_eq_false w]; rfl
      · rw [e1.1, show ver (xs (i + 2)) lat = false from decide_eq_false w, Bool.not_false, Bool.or_true]; rfl
    obtain ⟨s3, I3, J3, hA3, hc3, -⟩ := id hM3
    refine v_istore i_L_law_940 (by decide) rfl ?_
    refine v_loc [(0, .ref b), (1, .ref x), (2, .ref (x + 25)), (3, .ref (x + 55)), (4, .int (nI i)), (5, .int 2), (6, .int z3)] rfl ?_
    exact end_alive B hA3 (hc3.trans hcode) z3 (hZ2.ref hsm hM3).2.2 (fun q => absurd q (by decide)) (by omega) (by omega) (K X3 ⟨_, _, _, _, _, _, _, _, _, _, _, hZ2.ref hsm hM3, hLA⟩)
theorem law_page (B : qB l s0 C) (hX : va_X b N xs s0 s0.heap) (hb : b < s0.heap.size) (hN : N ≤ 2048) (hi : i + 4 ≤ N) (h : LR X x t) (ht : t + 1 ≤ 512) (hk : k + 300 ≤ 601024) (hn : n + 4000 ≤ 7293034)
    (K : ∀ X', LR X' x (t + 1) → qV l s0 C m_L_law rmW Qp Ep (k + 300) (n + 4000) X' 1487 [(0, .ref b), (1, .ref x), (2, .ref (x + 25)), (3, .ref (x + 55)), (4, .int (nI i))] []) : qV l s0 C m_L_law rmW Qp Ep k n X 837 [(0, .ref b), (1, .ref x), (2, .ref (x + 25)), (3, .ref (x + 55)), (4, .int (nI i))] [] := by
  obtain ⟨pg, made, lat, ro, db, D, pgK, madeK, op, cd, f, hZ, hL⟩ := h
  obtain ⟨hm, hlen, hgd⟩ := hL.len
  have hx := hZ.1.obj
  have hl5 : lat ≤ 512 := by have := hL.2.2.2.1; have := hL.2.2.2.2.1; omega
  have hkp := hL.kp
  refine v_aload_n i_L_law_837 rfl ?_
  refine v_aload_n i_L_law_838 rfl ?_
  refine v_iload i_L_law_839 rfl ?_
  refine v_iconst (v := 1) i_L_law_841 rfl ?_
  refine v_iadd i_L_law_842 ?_
  refine v_sld hX hb (j := i + 1) (nI_add i 1) (by omega) (by omega) i_L_law_843 ?_
  refine v_aload_n i_L_law_844 rfl ?_
  refine v_iload i_L_law_845 rfl ?_
  refine v_iconst (v := 2) i_L_law_847 rfl ?_
  refine v_iadd i_L_law_848 ?_
  refine v_sld hX hb (j := i + 2) (nI_add i 2) (by omega) (by omega) i_L_law_849 ?_
  refine v_aload_n i_L_law_850 rfl ?_
  refine v_invS B i_L_law_851 kn_m_L_page (c_L_page (x := x) (o := x + 55) B _ _ (c_P_page B hZ.1 _ _) hx (fun r X' h => by obtain ⟨e1, ⟨p, p1, p2, y, hy, er⟩, hst⟩ := h; exact ⟨⟨_, er⟩, _, (hZ.cls hst).2.2⟩) (fun e X' h => by rcases h.1 with w | w | w; exact Or.inl w.2; exact Or.inr (Or.inl w.2.2); exact Or.inr (Or.inr w.2.2))) rfl rfl (Nat.le_of_ble_eq_true rfl) ⟨by decide, by decide, by show k + 300 ≤ 601024; omega, by show n + 4000 ≤ 7293034; omega⟩ rfl (fun r X2 hq => ?_) (fun _ _ h => False.elim h)
  rcases hq with ⟨z, X', f', hq, hf', rfl, rfl⟩ | ⟨hq, rfl⟩ | ⟨hq, rfl⟩ | ⟨hq, rfl⟩
  · -- ok
    obtain ⟨e1, ⟨p, p1, p2, y, hy, er⟩, hst⟩ := hq
    have hZ2 := (hZ.cls hst).out (vp_updL f' 0 (z.toInt64))
    obtain ⟨s, I, J, hA, hcd, hT, hD⟩ := id hZ2.2.1
    have hb25 := hD.2.1.2.2.2.1
    have hl12 := hT.2.2.1
    refine v_istore i_L_law_854 (by decide) rfl ?_
    refine v_aload_n i_L_law_856 rfl ?_
    refine v_aload_n i_L_law_857 rfl ?_
    refine v_iload i_L_law_858 rfl ?_
    refine v_iconst (v := 1) i_L_law_860 rfl ?_
    refine v_iadd i_L_law_861 ?_
    refine v_sld hX hb (j := i + 1) (nI_add i 1) (by omega) (by omega) i_L_law_862 ?_
    refine v_aload_n i_L_law_863 rfl ?_
    refine v_iload i_L_law_864 rfl ?_
    refine v_iconst (v := 2) i_L_law_866 rfl ?_
    refine v_iadd i_L_law_867 ?_
    refine v_sld hX hb (j := i + 2) (nI_add i 2) (by omega) (by omega) i_L_law_868 ?_
    refine v_inv B i_L_law_869 kn_m_M_page (c_M_page B hA hb25 hT _ _) hA.1 rfl rfl (Nat.le_of_ble_eq_true rfl) ⟨by decide, by decide, by show k + 300 + 0 ≤ 601024; omega, by show n + 4000 + 0 ≤ 7293034; omega⟩ rfl (fun r X3 hq3 => ?_) (fun _ _ h => False.elim h)
    obtain ⟨z3, rfl, hval, hro⟩ := hq3
    have hM3 := MR.rd hT hD hro
    have hsm := hro.same
    have hLA := hL.more ht
    have hp : pgn (xs (i + 1)) made = true := by rw [p2]; exact decide_eq_true ⟨nI_pos' (by omega), nI_lt p1 (by omega)⟩
    have hr : rg (xs (i + 2)) 4 = true := by
      cases hq : rg (xs (i + 2)) 4
      · rw [cpage_rg.mpr hq] at hy; cases hy
      · rfl
    have hcode : mcode D.2.2.2.2 (!(pgn (xs (i + 1)) made)) (!(rg (xs (i + 2)) 4)) false = 0 := by rw [e1, hp, hr]; rfl
    have hout : vp_updL f' 0 z.toInt64 0 = z3.toInt64 := by
      rw [hval e1 p p1 p2 y hy]
      cases er
      exact if_pos rfl
    obtain ⟨s3, I3, J3, hA3, hc3, -⟩ := id hM3
    refine v_istore i_L_law_872 (by decide) rfl ?_
    refine v_loc [(0, .ref b), (1, .ref x), (2, .ref (x + 25)), (3, .ref (x + 55)), (4, .int (nI i)), (5, .int 0), (6, .int z3)] rfl ?_
    exact end_page B hA3 (hc3.trans hcode) z3 (hZ2.ref hsm hM3).2.2 (fun _ => hout) (by omega) (by omega) (K X3 ⟨_, _, _, _, _, _, _, _, _, _, _, hZ2.ref hsm hM3, hLA⟩)
  · -- S
    have hst := hq.2
    have e1 : D.2.2.2.2 = true := by
      rcases hq.1 with w | w | w
      · exact w.1
      · exact absurd w.2.2 (by decide)
      · exact absurd w.2.2 (by decide)
    have hZ2 := hZ.cls hst
    obtain ⟨s, I, J, hA, hcd, hT, hD⟩ := id hZ2.2.1
    have hb25 := hD.2.1.2.2.2.1
    have hl12 := hT.2.2.1
    refine v_istore i_L_law_854 (by decide) rfl ?_
    refine v_aload_n i_L_law_856 rfl ?_
    refine v_aload_n i_L_law_857 rfl ?_
    refine v_iload i_L_law_858 rfl ?_
    refine v_iconst (v := 1) i_L_law_860 rfl ?_
    refine v_iadd i_L_law_861 ?_
    refine v_sld hX hb (j := i + 1) (nI_add i 1) (by omega) (by omega) i_L_law_862 ?_
    refine v_aload_n i_L_law_863 rfl ?_
    refine v_iload i_L_law_864 rfl ?_
    refine v_iconst (v := 2) i_L_law_866 rfl ?_
    refine v_iadd i_L_law_867 ?_
    refine v_sld hX hb (j := i + 2) (nI_add i 2) (by omega) (by omega) i_L_law_868 ?_
    refine v_inv B i_L_law_869 kn_m_M_page (c_M_page B hA hb25 hT _ _) hA.1 rfl rfl (Nat.le_of_ble_eq_true rfl) ⟨by decide, by decide, by show k + 300 + 0 ≤ 601024; omega, by show n + 4000 + 0 ≤ 7293034; omega⟩ rfl (fun r X3 hq3 => ?_) (fun _ _ h => False.elim h)
    obtain ⟨z3, rfl, hval, hro⟩ := hq3
    have hM3 := MR.rd hT hD hro
    have hsm := hro.same
    have hLA := hL.more ht
    have hcode : mcode D.2.2.2.2 (!(pgn (xs (i + 1)) made)) (!(rg (xs (i + 2)) 4)) false = 1 := by rw [e1]; rfl
    obtain ⟨s3, I3, J3, hA3, hc3, -⟩ := id hM3
    refine v_istore i_L_law_872 (by decide) rfl ?_
    refine v_loc [(0, .ref b), (1, .ref x), (2, .ref (x + 25)), (3, .ref (x + 55)), (4, .int (nI i)), (5, .int 1), (6, .int z3)] rfl ?_
    exact end_page B hA3 (hc3.trans hcode) z3 (hZ2.ref hsm hM3).2.2 (fun q => absurd q (by decide)) (by omega) (by omega) (K X3 ⟨_, _, _, _, _, _, _, _, _, _, _, hZ2.ref hsm hM3, hLA⟩)
  · -- I
    have hst := hq.2
    have e1 : D.2.2.2.2 = false ∧ ¬ (0 ≤ xs (i + 1) ∧ xs (i + 1) < nI made) := by
      rcases hq.1 with w | w | w
      · exact absurd w.2 (by decide)
      · exact ⟨w.1, w.2.1⟩
      · exact absurd w.2.2 (by decide)
    have hZ2 := hZ.cls hst
    obtain ⟨s, I, J, hA, hcd, hT, hD⟩ := id hZ2.2.1
    have hb25 := hD.2.1.2.2.2.1
    have hl12 := hT.2.2.1
    refine v_istore i_L_law_854 (by decide) rfl ?_
    refine v_aload_n i_L_law_856 rfl ?_
    refine v_aload_n i_L_law_857 rfl ?_
    refine v_iload i_L_law_858 rfl ?_
    refine v_iconst (v := 1) i_L_law_860 rfl ?_
    refine v_iadd i_L_law_861 ?_
    refine v_sld hX hb (j := i + 1) (nI_add i 1) (by omega) (by omega) i_L_law_862 ?_
    refine v_aload_n i_L_law_863 rfl ?_
    refine v_iload i_L_law_864 rfl ?_
    refine v_iconst (v := 2) i_L_law_866 rfl ?_
    refine v_iadd i_L_law_867 ?_
    refine v_sld hX hb (j := i + 2) (nI_add i 2) (by omega) (by omega) i_L_law_868 ?_
    refine v_inv B i_L_law_869 kn_m_M_page (c_M_page B hA hb25 hT _ _) hA.1 rfl rfl (Nat.le_of_ble_eq_true rfl) ⟨by decide, by decide, by show k + 300 + 0 ≤ 601024; omega, by show n + 4000 + 0 ≤ 7293034; omega⟩ rfl (fun r X3 hq3 => ?_) (fun _ _ h => False.elim h)
    obtain ⟨z3, rfl, hval, hro⟩ := hq3
    have hM3 := MR.rd hT hD hro
    have hsm := hro.same
    have hLA := hL.more ht
    have hcode : mcode D.2.2.2.2 (!(pgn (xs (i + 1)) made)) (!(rg (xs (i + 2)) 4)) false = 2 := by rw [e1.1, show pgn (xs (i + 1)) made = false from decide_eq_false e1.2]; rfl
    obtain ⟨s3, I3, J3, hA3, hc3, -⟩ := id hM3
    refine v_istore i_L_law_872 (by decide) rfl ?_
    refine v_loc [(0, .ref b), (1, .ref x), (2, .ref (x + 25)), (3, .ref (x + 55)), (4, .int (nI i)), (5, .int 2), (6, .int z3)] rfl ?_
    exact end_page B hA3 (hc3.trans hcode) z3 (hZ2.ref hsm hM3).2.2 (fun q => absurd q (by decide)) (by omega) (by omega) (K X3 ⟨_, _, _, _, _, _, _, _, _, _, _, hZ2.ref hsm hM3, hLA⟩)
  · -- A
    have hst := hq.2
    have e1 : D.2.2.2.2 = false ∧ ∃ p, p < made ∧ xs (i + 1) = nI p ∧ cpage (pg p) D.2.2.1 (xs (i + 2)) = none := by
      rcases hq.1 with w | w | w
      · exact absurd w.2 (by decide)
      · exact absurd w.2.2 (by decide)
      · exact ⟨w.1, w.2.1⟩
    obtain ⟨e1, p, p1, p2, hy⟩ := e1
    have hZ2 := hZ.cls hst
    obtain ⟨s, I, J, hA, hcd, hT, hD⟩ := id hZ2.2.1
    have hb25 := hD.2.1.2.2.2.1
    have hl12 := hT.2.2.1
    refine v_istore i_L_law_854 (by decide) rfl ?_
    refine v_aload_n i_L_law_856 rfl ?_
    refine v_aload_n i_L_law_857 rfl ?_
    refine v_iload i_L_law_858 rfl ?_
    refine v_iconst (v := 1) i_L_law_860 rfl ?_
    refine v_iadd i_L_law_861 ?_
    refine v_sld hX hb (j := i + 1) (nI_add i 1) (by omega) (by omega) i_L_law_862 ?_
    refine v_aload_n i_L_law_863 rfl ?_
    refine v_iload i_L_law_864 rfl ?_
    refine v_iconst (v := 2) i_L_law_866 rfl ?_
    refine v_iadd i_L_law_867 ?_
    refine v_sld hX hb (j := i + 2) (nI_add i 2) (by omega) (by omega) i_L_law_868 ?_
    refine v_inv B i_L_law_869 kn_m_M_page (c_M_page B hA hb25 hT _ _) hA.1 rfl rfl (Nat.le_of_ble_eq_true rfl) ⟨by decide, by decide, by show k + 300 + 0 ≤ 601024; omega, by show n + 4000 + 0 ≤ 7293034; omega⟩ rfl (fun r X3 hq3 => ?_) (fun _ _ h => False.elim h)
    obtain ⟨z3, rfl, hval, hro⟩ := hq3
    have hM3 := MR.rd hT hD hro
    have hsm := hro.same
    have hLA := hL.more ht
    have hp : pgn (xs (i + 1)) made = true := by rw [p2]; exact decide_eq_true ⟨nI_pos' (by omega), nI_lt p1 (by omega)⟩
    have hcode : mcode D.2.2.2.2 (!(pgn (xs (i + 1)) made)) (!(rg (xs (i + 2)) 4)) false = 3 := by rw [e1, hp, cpage_rg.mp hy]; rfl
    obtain ⟨s3, I3, J3, hA3, hc3, -⟩ := id hM3
    refine v_istore i_L_law_872 (by decide) rfl ?_
    refine v_loc [(0, .ref b), (1, .ref x), (2, .ref (x + 25)), (3, .ref (x + 55)), (4, .int (nI i)), (5, .int 3), (6, .int z3)] rfl ?_
    exact end_page B hA3 (hc3.trans hcode) z3 (hZ2.ref hsm hM3).2.2 (fun q => absurd q (by decide)) (by omega) (by omega) (K X3 ⟨_, _, _, _, _, _, _, _, _, _, _, hZ2.ref hsm hM3, hLA⟩)
theorem law_entry (B : qB l s0 C) (hX : va_X b N xs s0 s0.heap) (hb : b < s0.heap.size) (hN : N ≤ 2048) (hi : i + 4 ≤ N) (h : LR X x t) (ht : t + 1 ≤ 512) (hk : k + 300 ≤ 601024) (hn : n + 4000 ≤ 7293034)
    (K : ∀ X', LR X' x (t + 1) → qV l s0 C m_L_law rmW Qp Ep (k + 300) (n + 4000) X' 1487 [(0, .ref b), (1, .ref x), (2, .ref (x + 25)), (3, .ref (x + 55)), (4, .int (nI i))] []) : qV l s0 C m_L_law rmW Qp Ep k n X 973 [(0, .ref b), (1, .ref x), (2, .ref (x + 25)), (3, .ref (x + 55)), (4, .int (nI i))] [] := by
  obtain ⟨pg, made, lat, ro, db, D, pgK, madeK, op, cd, f, hZ, hL⟩ := h
  obtain ⟨hm, hlen, hgd⟩ := hL.len
  have hx := hZ.1.obj
  have hl5 : lat ≤ 512 := by have := hL.2.2.2.1; have := hL.2.2.2.2.1; omega
  have hkp := hL.kp
  refine v_aload_n i_L_law_973 rfl ?_
  refine v_aload_n i_L_law_974 rfl ?_
  refine v_iload i_L_law_975 rfl ?_
  refine v_iconst (v := 1) i_L_law_977 rfl ?_
  refine v_iadd i_L_law_978 ?_
  refine v_sld hX hb (j := i + 1) (nI_add i 1) (by omega) (by omega) i_L_law_979 ?_
  refine v_aload_n i_L_law_980 rfl ?_
  refine v_iload i_L_law_981 rfl ?_
  refine v_iconst (v := 2) i_L_law_983 rfl ?_
  refine v_iadd i_L_law_984 ?_
  refine v_sld hX hb (j := i + 2) (nI_add i 2) (by omega) (by omega) i_L_law_985 ?_
  refine v_aload_n i_L_law_986 rfl ?_
  refine v_iload i_L_law_987 rfl ?_
  refine v_iconst (v := 3) i_L_law_989 rfl ?_
  refine v_iadd i_L_law_990 ?_
  refine v_sld hX hb (j := i + 3) (nI_add i 3) (by omega) (by omega) i_L_law_991 ?_
  refine v_aload_n i_L_law_992 rfl ?_
  refine v_invS B i_L_law_993 kn_m_L_entry (c_L_entry (x := x) (o := x + 55) B _ _ _ (c_P_entry B hZ.1 _ _ _) hx (fun r X' h => by obtain ⟨e1, ⟨p, j, p1, p2, j1, j2, y, hy, er⟩, hst⟩ := h; exact ⟨⟨_, er⟩, _, (hZ.cls hst).2.2⟩) (fun e X' h => by rcases h.1 with w | w | w; exact Or.inl w.2; exact Or.inr (Or.inl w.2.2); exact Or.inr (Or.inr w.2.2))) rfl rfl (Nat.le_of_ble_eq_true rfl) ⟨by decide, by decide, by show k + 300 ≤ 601024; omega, by show n + 4000 ≤ 7293034; omega⟩ rfl (fun r X2 hq => ?_) (fun _ _ h => False.elim h)
  rcases hq with ⟨z, X', f', hq, hf', rfl, rfl⟩ | ⟨hq, rfl⟩ | ⟨hq, rfl⟩ | ⟨hq, rfl⟩
  · -- ok
    obtain ⟨e1, ⟨p, j, p1, p2, j1, j2, y, hy, er⟩, hst⟩ := hq
    have hZ2 := (hZ.cls hst).out (vp_updL f' 0 (z))
    obtain ⟨s, I, J, hA, hcd, hT, hD⟩ := id hZ2.2.1
    have hb25 := hD.2.1.2.2.2.1
    have hl12 := hT.2.2.1
    refine v_istore i_L_law_996 (by decide) rfl ?_
    refine v_aload_n i_L_law_998 rfl ?_
    refine v_aload_n i_L_law_999 rfl ?_
    refine v_iload i_L_law_1000 rfl ?_
    refine v_iconst (v := 1) i_L_law_1002 rfl ?_
    refine v_iadd i_L_law_1003 ?_
    refine v_sld hX hb (j := i + 1) (nI_add i 1) (by omega) (by omega) i_L_law_1004 ?_
    refine v_aload_n i_L_law_1005 rfl ?_
    refine v_iload i_L_law_1006 rfl ?_
    refine v_iconst (v := 2) i_L_law_1008 rfl ?_
    refine v_iadd i_L_law_1009 ?_
    refine v_sld hX hb (j := i + 2) (nI_add i 2) (by omega) (by omega) i_L_law_1010 ?_
    refine v_aload_n i_L_law_1011 rfl ?_
    refine v_iload i_L_law_1012 rfl ?_
    refine v_iconst (v := 3) i_L_law_1014 rfl ?_
    refine v_iadd i_L_law_1015 ?_
    refine v_sld hX hb (j := i + 3) (nI_add i 3) (by omega) (by omega) i_L_law_1016 ?_
    refine v_inv B i_L_law_1017 kn_m_M_entry (c_M_entry B hA hb25 hT _ _ _) hA.1 rfl rfl (Nat.le_of_ble_eq_true rfl) ⟨by decide, by decide, by show k + 300 + 0 ≤ 601024; omega, by show n + 4000 + 0 ≤ 7293034; omega⟩ rfl (fun r X3 hq3 => ?_) (fun _ _ h => False.elim h)
    obtain ⟨z3, th, rfl, hth, hth0, hval, hro⟩ := hq3
    have hM3 := MR.rd hT hD hro
    have hsm := hro.same
    have hLA := hL.more ht
    have hp16 := hlen p p1
    have hr : rg (xs (i + 3)) 3 = true := by
      cases hq : rg (xs (i + 3)) 3
      · rw [centry_rg.mpr hq] at hy; cases hy
      · rfl
    have hcode : mcode D.2.2.2.2 (!th) (!(rg (xs (i + 3)) 3)) false = 0 := by rw [e1, hr, hth p p1 p2, j2, decide_eq_true ⟨nI_pos' (by omega), nI_lt j1 (by omega)⟩]; rfl
    have hout : vp_updL f' 0 z 0 = z3 := by
      rw [hval e1 p j p1 j1 p2 j2 y hy]
      cases er
      exact if_pos rfl
    obtain ⟨s3, I3, J3, hA3, hc3, -⟩ := id hM3
    refine v_lstore i_L_law_1020 (by decide) rfl ?_
    refine v_loc [(0, .ref b), (1, .ref x), (2, .ref (x + 25)), (3, .ref (x + 55)), (4, .int (nI i)), (5, .int 0), (6, .long z3)] rfl ?_
    exact end_entry B hA3 (hc3.trans hcode) z3 (hZ2.ref hsm hM3).2.2 (fun _ => hout) (by omega) (by omega) (K X3 ⟨_, _, _, _, _, _, _, _, _, _, _, hZ2.ref hsm hM3, hLA⟩)
  · -- S
    have hst := hq.2
    have e1 : D.2.2.2.2 = true := by
      rcases hq.1 with w | w | w
      · exact w.1
      · exact absurd w.2.2 (by decide)
      · exact absurd w.2.2 (by decide)
    have hZ2 := hZ.cls hst
    obtain ⟨s, I, J, hA, hcd, hT, hD⟩ := id hZ2.2.1
    have hb25 := hD.2.1.2.2.2.1
    have hl12 := hT.2.2.1
    refine v_istore i_L_law_996 (by decide) rfl ?_
    refine v_aload_n i_L_law_998 rfl ?_
    refine v_aload_n i_L_law_999 rfl ?_
    refine v_iload i_L_law_1000 rfl ?_
    refine v_iconst (v := 1) i_L_law_1002 rfl ?_
    refine v_iadd i_L_law_1003 ?_
    refine v_sld hX hb (j := i + 1) (nI_add i 1) (by omega) (by omega) i_L_law_1004 ?_
    refine v_aload_n i_L_law_1005 rfl ?_
    refine v_iload i_L_law_1006 rfl ?_
    refine v_iconst (v := 2) i_L_law_1008 rfl ?_
    refine v_iadd i_L_law_1009 ?_
    refine v_sld hX hb (j := i + 2) (nI_add i 2) (by omega) (by omega) i_L_law_1010 ?_
    refine v_aload_n i_L_law_1011 rfl ?_
    refine v_iload i_L_law_1012 rfl ?_
    refine v_iconst (v := 3) i_L_law_1014 rfl ?_
    refine v_iadd i_L_law_1015 ?_
    refine v_sld hX hb (j := i + 3) (nI_add i 3) (by omega) (by omega) i_L_law_1016 ?_
    refine v_inv B i_L_law_1017 kn_m_M_entry (c_M_entry B hA hb25 hT _ _ _) hA.1 rfl rfl (Nat.le_of_ble_eq_true rfl) ⟨by decide, by decide, by show k + 300 + 0 ≤ 601024; omega, by show n + 4000 + 0 ≤ 7293034; omega⟩ rfl (fun r X3 hq3 => ?_) (fun _ _ h => False.elim h)
    obtain ⟨z3, th, rfl, hth, hth0, hval, hro⟩ := hq3
    have hM3 := MR.rd hT hD hro
    have hsm := hro.same
    have hLA := hL.more ht
    have hcode : mcode D.2.2.2.2 (!th) (!(rg (xs (i + 3)) 3)) false = 1 := by rw [e1]; rfl
    obtain ⟨s3, I3, J3, hA3, hc3, -⟩ := id hM3
    refine v_lstore i_L_law_1020 (by decide) rfl ?_
    refine v_loc [(0, .ref b), (1, .ref x), (2, .ref (x + 25)), (3, .ref (x + 55)), (4, .int (nI i)), (5, .int 1), (6, .long z3)] rfl ?_
    exact end_entry B hA3 (hc3.trans hcode) z3 (hZ2.ref hsm hM3).2.2 (fun q => absurd q (by decide)) (by omega) (by omega) (K X3 ⟨_, _, _, _, _, _, _, _, _, _, _, hZ2.ref hsm hM3, hLA⟩)
  · -- I
    have hst := hq.2
    have e1 : D.2.2.2.2 = false ∧ (¬ (0 ≤ xs (i + 1) ∧ xs (i + 1) < nI made) ∨ ∃ p, p < made ∧ xs (i + 1) = nI p ∧ ¬ (0 ≤ xs (i + 2) ∧ xs (i + 2) < nI (pg p).2.2.2.length)) := by
      rcases hq.1 with w | w | w
      · exact absurd w.2 (by decide)
      · exact ⟨w.1, w.2.1⟩
      · exact absurd w.2.2 (by decide)
    have hZ2 := hZ.cls hst
    obtain ⟨s, I, J, hA, hcd, hT, hD⟩ := id hZ2.2.1
    have hb25 := hD.2.1.2.2.2.1
    have hl12 := hT.2.2.1
    refine v_istore i_L_law_996 (by decide) rfl ?_
    refine v_aload_n i_L_law_998 rfl ?_
    refine v_aload_n i_L_law_999 rfl ?_
    refine v_iload i_L_law_1000 rfl ?_
    refine v_iconst (v := 1) i_L_law_1002 rfl ?_
    refine v_iadd i_L_law_1003 ?_
    refine v_sld hX hb (j := i + 1) (nI_add i 1) (by omega) (by omega) i_L_law_1004 ?_
    refine v_aload_n i_L_law_1005 rfl ?_
    refine v_iload i_L_law_1006 rfl ?_
    refine v_iconst (v := 2) i_L_law_1008 rfl ?_
    refine v_iadd i_L_law_1009 ?_
    refine v_sld hX hb (j := i + 2) (nI_add i 2) (by omega) (by omega) i_L_law_1010 ?_
    refine v_aload_n i_L_law_1011 rfl ?_
    refine v_iload i_L_law_1012 rfl ?_
    refine v_iconst (v := 3) i_L_law_1014 rfl ?_
    refine v_iadd i_L_law_1015 ?_
    refine v_sld hX hb (j := i + 3) (nI_add i 3) (by omega) (by omega) i_L_law_1016 ?_
    refine v_inv B i_L_law_1017 kn_m_M_entry (c_M_entry B hA hb25 hT _ _ _) hA.1 rfl rfl (Nat.le_of_ble_eq_true rfl) ⟨by decide, by decide, by show k + 300 + 0 ≤ 601024; omega, by show n + 4000 + 0 ≤ 7293034; omega⟩ rfl (fun r X3 hq3 => ?_) (fun _ _ h => False.elim h)
    obtain ⟨z3, th, rfl, hth, hth0, hval, hro⟩ := hq3
    have hM3 := MR.rd hT hD hro
    have hsm := hro.same
    have hLA := hL.more ht
    have hth1 : th = false := by
      rcases e1.2 with w | ⟨p, p1, p2, w⟩
      · exact hth0 (decide_eq_false w)
      · rw [hth p p1 p2]; exact decide_eq_false w
    have hcode : mcode D.2.2.2.2 (!th) (!(rg (xs (i + 3)) 3)) false = 2 := by rw [e1.1, hth1]; rfl
    obtain ⟨s3, I3, J3, hA3, hc3, -⟩ := id hM3
    refine v_lstore i_L_law_1020 (by decide) rfl ?_
    refine v_loc [(0, .ref b), (1, .ref x), (2, .ref (x + 25)), (3, .ref (x + 55)), (4, .int (nI i)), (5, .int 2), (6, .long z3)] rfl ?_
    exact end_entry B hA3 (hc3.trans hcode) z3 (hZ2.ref hsm hM3).2.2 (fun q => absurd q (by decide)) (by omega) (by omega) (K X3 ⟨_, _, _, _, _, _, _, _, _, _, _, hZ2.ref hsm hM3, hLA⟩)
  · -- A
    have hst := hq.2
    have e1 : D.2.2.2.2 = false ∧ ∃ p j, p < made ∧ xs (i + 1) = nI p ∧ j < (pg p).2.2.2.length ∧ xs (i + 2) = nI j ∧ centry (pg p) j (xs (i + 3)) = none := by
      rcases hq.1 with w | w | w
      · exact absurd w.2 (by decide)
      · exact absurd w.2.2 (by decide)
      · exact ⟨w.1, w.2.1⟩
    obtain ⟨e1, p, j, p1, p2, j1, j2, hy⟩ := e1
    have hZ2 := hZ.cls hst
    obtain ⟨s, I, J, hA, hcd, hT, hD⟩ := id hZ2.2.1
    have hb25 := hD.2.1.2.2.2.1
    have hl12 := hT.2.2.1
    refine v_istore i_L_law_996 (by decide) rfl ?_
    refine v_aload_n i_L_law_998 rfl ?_
    refine v_aload_n i_L_law_999 rfl ?_
    refine v_iload i_L_law_1000 rfl ?_
    refine v_iconst (v := 1) i_L_law_1002 rfl ?_
    refine v_iadd i_L_law_1003 ?_
    refine v_sld hX hb (j := i + 1) (nI_add i 1) (by omega) (by omega) i_L_law_1004 ?_
    refine v_aload_n i_L_law_1005 rfl ?_
    refine v_iload i_L_law_1006 rfl ?_
    refine v_iconst (v := 2) i_L_law_1008 rfl ?_
    refine v_iadd i_L_law_1009 ?_
    refine v_sld hX hb (j := i + 2) (nI_add i 2) (by omega) (by omega) i_L_law_1010 ?_
    refine v_aload_n i_L_law_1011 rfl ?_
    refine v_iload i_L_law_1012 rfl ?_
    refine v_iconst (v := 3) i_L_law_1014 rfl ?_
    refine v_iadd i_L_law_1015 ?_
    refine v_sld hX hb (j := i + 3) (nI_add i 3) (by omega) (by omega) i_L_law_1016 ?_
    refine v_inv B i_L_law_1017 kn_m_M_entry (c_M_entry B hA hb25 hT _ _ _) hA.1 rfl rfl (Nat.le_of_ble_eq_true rfl) ⟨by decide, by decide, by show k + 300 + 0 ≤ 601024; omega, by show n + 4000 + 0 ≤ 7293034; omega⟩ rfl (fun r X3 hq3 => ?_) (fun _ _ h => False.elim h)
    obtain ⟨z3, th, rfl, hth, hth0, hval, hro⟩ := hq3
    have hM3 := MR.rd hT hD hro
    have hsm := hro.same
    have hLA := hL.more ht
    have hp16 := hlen p p1
    have hcode : mcode D.2.2.2.2 (!th) (!(rg (xs (i + 3)) 3)) false = 3 := by rw [e1, centry_rg.mp hy, hth p p1 p2, j2, decide_eq_true ⟨nI_pos' (by omega), nI_lt j1 (by omega)⟩]; rfl
    obtain ⟨s3, I3, J3, hA3, hc3, -⟩ := id hM3
    refine v_lstore i_L_law_1020 (by decide) rfl ?_
    refine v_loc [(0, .ref b), (1, .ref x), (2, .ref (x + 25)), (3, .ref (x + 55)), (4, .int (nI i)), (5, .int 3), (6, .long z3)] rfl ?_
    exact end_entry B hA3 (hc3.trans hcode) z3 (hZ2.ref hsm hM3).2.2 (fun q => absurd q (by decide)) (by omega) (by omega) (K X3 ⟨_, _, _, _, _, _, _, _, _, _, _, hZ2.ref hsm hM3, hLA⟩)
theorem LA.db {pg : Nat → Pg} {made lat : Nat} {ro : Nat → Nat} {db db' : Nat} {D : Dk} {pgK : Nat → Pg} {madeK : Nat} {op : Nat → Int32 × Int64 × Bool} (h : LA pg made lat ro db D pgK madeK op t) (ht : t + 1 ≤ 512) (hd : db' ≤ lat + 1) : LA pg made lat ro db' D pgK madeK op (t + 1) := by
  obtain ⟨a, b, c, d, e, f, g, i⟩ := h
  exact ⟨a, b, c, by omega, ht, hd, g, i⟩
theorem law_dense (B : qB l s0 C) (hX : va_X b N xs s0 s0.heap) (hb : b < s0.heap.size) (hN : N ≤ 2048) (hi : i + 4 ≤ N) (h : LR X x t) (ht : t + 1 ≤ 512) (hk : k + 300 ≤ 601024) (hn : n + 4000 ≤ 7293034)
    (K : ∀ X', LR X' x (t + 1) → qV l s0 C m_L_law rmW Qp Ep (k + 300) (n + 4000) X' 1487 [(0, .ref b), (1, .ref x), (2, .ref (x + 25)), (3, .ref (x + 55)), (4, .int (nI i))] []) : qV l s0 C m_L_law rmW Qp Ep k n X 1152 [(0, .ref b), (1, .ref x), (2, .ref (x + 25)), (3, .ref (x + 55)), (4, .int (nI i))] [] := by
  obtain ⟨pg, made, lat, ro, db, D, pgK, madeK, op, cd, f, hZ, hL⟩ := h
  obtain ⟨hm, hlen, hgd⟩ := hL.len
  have hx := hZ.1.obj
  have hl5 : lat ≤ 512 := by have := hL.2.2.2.1; have := hL.2.2.2.2.1; omega
  have hkp := hL.kp
  refine v_aload_n i_L_law_1152 rfl ?_
  refine v_aload_n i_L_law_1153 rfl ?_
  refine v_invS B i_L_law_1154 kn_m_L_dense (c_L_dense (x := x) (o := x + 55) B  (c_P_dense B hZ.1 hL.2.2.2.2.2.1) hx (fun r X' h => by obtain ⟨e1, er, hst⟩ := h; exact ⟨⟨_, er⟩, _, (hZ.cls hst).2.2⟩) (fun e X' h => by exact h.2.1)) rfl rfl (Nat.le_of_ble_eq_true rfl) ⟨by decide, by decide, by show k + 300 ≤ 601024; omega, by show n + 4000 ≤ 7293034; omega⟩ rfl (fun r X2 hq => ?_) (fun _ _ h => False.elim h)
  rcases hq with ⟨z, X', f', hq, hf', rfl, rfl⟩ | ⟨hq, rfl⟩
  · -- ok
    obtain ⟨e1, er, hst⟩ := hq
    have hZ2 := (hZ.cls hst).out (vp_updL f' 0 (if z = 0 then 0 else 1))
    obtain ⟨s, I, J, hA, hcd, hT, hD⟩ := id hZ2.2.1
    have hb25 := hD.2.1.2.2.2.1
    have hl12 := hT.2.2.1
    refine v_istore i_L_law_1157 (by decide) rfl ?_
    refine v_aload_n i_L_law_1159 rfl ?_
    refine v_inv B i_L_law_1160 kn_m_M_dense (c_M_dense B hA hb25 hT (Nat.le_refl _) (fun p hp => ⟨(hL.1.1.2.2.1 p hp).1.1, (hL.1.1.2.2.1 p hp).1.2.1⟩) (fun p hp w hw hs => by rw [gliving_yal]; exact hL.1.1.2.2.2.2 w hw p hp hs)) hA.1 rfl rfl (Nat.le_of_ble_eq_true rfl) ⟨by decide, by decide, by show k + 300 + 0 ≤ 601024; omega, by show n + 4000 + 0 ≤ 7293034; omega⟩ rfl (fun r X3 hq3 => ?_) (fun _ _ h => False.elim h)
    obtain ⟨rfl, hro⟩ := hq3
    have htdb : tdb pg ro made lat (lat + 1) db = lat + 1 := ytdb hL.1.1.2.2.2.2 (lat + 1) db hL.2.2.2.2.2.1 (by omega)
    have hdb : tdb pg ro made lat (lat + 1) db ≤ lat + 1 := by omega
    have hM3 := MR.rd hT hD hro
    have hsm := hro.same
    have hLA := hL.db ht hdb
    have hcode : bI D.2.2.2.2 = 0 := by rw [e1]; rfl
    obtain ⟨z3, hz3⟩ : ∃ z3 : Int32, z3 = (if D.2.2.2.2 = true then 0 else 1) := ⟨_, rfl⟩
    rw [← hz3]
    have hout : vp_updL f' 0 (if z = 0 then 0 else 1) 0 = if z3 = 0 then 0 else 1 := by
      rw [hz3, e1, if_neg (show ¬ (false = true) by decide)]
      rw [htdb, decide_eq_true (Nat.lt_succ_self lat)] at er
      cases er
      exact if_pos rfl
    obtain ⟨s3, I3, J3, hA3, hc3, -⟩ := id hM3
    refine v_istore i_L_law_1163 (by decide) rfl ?_
    refine v_loc [(0, .ref b), (1, .ref x), (2, .ref (x + 25)), (3, .ref (x + 55)), (4, .int (nI i)), (5, .int 0), (6, .int z3)] rfl ?_
    exact end_dense B hA3 (hc3.trans hcode) z3 (hZ2.ref hsm hM3).2.2 (fun _ => hout) (by omega) (by omega) (K X3 ⟨_, _, _, _, _, _, _, _, _, _, _, hZ2.ref hsm hM3, hLA⟩)
  · -- S
    obtain ⟨e1, -, hst⟩ := hq
    have hZ2 := hZ.cls hst
    obtain ⟨s, I, J, hA, hcd, hT, hD⟩ := id hZ2.2.1
    have hb25 := hD.2.1.2.2.2.1
    have hl12 := hT.2.2.1
    refine v_istore i_L_law_1157 (by decide) rfl ?_
    refine v_aload_n i_L_law_1159 rfl ?_
    refine v_inv B i_L_law_1160 kn_m_M_dense (c_M_dense B hA hb25 hT (Nat.le_refl _) (fun p hp => ⟨(hL.1.1.2.2.1 p hp).1.1, (hL.1.1.2.2.1 p hp).1.2.1⟩) (fun p hp w hw hs => by rw [gliving_yal]; exact hL.1.1.2.2.2.2 w hw p hp hs)) hA.1 rfl rfl (Nat.le_of_ble_eq_true rfl) ⟨by decide, by decide, by show k + 300 + 0 ≤ 601024; omega, by show n + 4000 + 0 ≤ 7293034; omega⟩ rfl (fun r X3 hq3 => ?_) (fun _ _ h => False.elim h)
    obtain ⟨rfl, hro⟩ := hq3
    have hM3 := MR.rd hT hD hro
    have hsm := hro.same
    have hLA := hL.more ht
    have hcode : bI D.2.2.2.2 = 1 := by rw [e1]; rfl
    obtain ⟨z3, hz3⟩ : ∃ z3 : Int32, z3 = (if D.2.2.2.2 = true then 0 else 1) := ⟨_, rfl⟩
    rw [← hz3]
    obtain ⟨s3, I3, J3, hA3, hc3, -⟩ := id hM3
    refine v_istore i_L_law_1163 (by decide) rfl ?_
    refine v_loc [(0, .ref b), (1, .ref x), (2, .ref (x + 25)), (3, .ref (x + 55)), (4, .int (nI i)), (5, .int 1), (6, .int z3)] rfl ?_
    exact end_dense B hA3 (hc3.trans hcode) z3 (hZ2.ref hsm hM3).2.2 (fun q => absurd q (by decide)) (by omega) (by omega) (K X3 ⟨_, _, _, _, _, _, _, _, _, _, _, hZ2.ref hsm hM3, hLA⟩)
theorem law_disk (B : qB l s0 C) (hX : va_X b N xs s0 s0.heap) (hb : b < s0.heap.size) (hN : N ≤ 2048) (hi : i + 4 ≤ N) (h : LR X x t) (ht : t + 1 ≤ 512) (hk : k + 300 ≤ 601024) (hn : n + 4000 ≤ 7293034)
    (K : ∀ X', LR X' x (t + 1) → qV l s0 C m_L_law rmW Qp Ep (k + 300) (n + 4000) X' 1487 [(0, .ref b), (1, .ref x), (2, .ref (x + 25)), (3, .ref (x + 55)), (4, .int (nI i))] []) : qV l s0 C m_L_law rmW Qp Ep k n X 1431 [(0, .ref b), (1, .ref x), (2, .ref (x + 25)), (3, .ref (x + 55)), (4, .int (nI i))] [] := by
  obtain ⟨pg, made, lat, ro, db, D, pgK, madeK, op, cd, f, hZ, hL⟩ := h
  obtain ⟨hm, hlen, hgd⟩ := hL.len
  have hx := hZ.1.obj
  have hl5 : lat ≤ 512 := by have := hL.2.2.2.1; have := hL.2.2.2.2.1; omega
  have hkp := hL.kp
  refine v_aload_n i_L_law_1431 rfl ?_
  refine v_aload_n i_L_law_1432 rfl ?_
  refine v_iload i_L_law_1433 rfl ?_
  refine v_iconst (v := 1) i_L_law_1435 rfl ?_
  refine v_iadd i_L_law_1436 ?_
  refine v_sld hX hb (j := i + 1) (nI_add i 1) (by omega) (by omega) i_L_law_1437 ?_
  refine v_aload_n i_L_law_1438 rfl ?_
  refine v_invS B i_L_law_1439 kn_m_L_disk (c_L_disk (x := x) (o := x + 55) B _ (c_P_disk B hZ.1 _ hL.2.2.2.2.2.2.1) hx (fun r X' h => by obtain ⟨⟨y, hy, er⟩, hst⟩ := h; exact ⟨⟨_, er⟩, _, (hZ.cls hst).2.2⟩) (fun e X' h => by exact h.1.2)) rfl rfl (Nat.le_of_ble_eq_true rfl) ⟨by decide, by decide, by show k + 300 ≤ 601024; omega, by show n + 4000 ≤ 7293034; omega⟩ rfl (fun r X2 hq => ?_) (fun _ _ h => False.elim h)
  rcases hq with ⟨z, X', f', hq, hf', rfl, rfl⟩ | ⟨hq, rfl⟩
  · -- ok
    obtain ⟨⟨y, hy, er⟩, hst⟩ := hq
    have hZ2 := (hZ.cls hst).out (vp_updL f' 0 (z.toInt64))
    obtain ⟨s, I, J, hA, hcd, hT, hD⟩ := id hZ2.2.1
    have hb25 := hD.2.1.2.2.2.1
    have hl12 := hT.2.2.1
    refine v_istore i_L_law_1442 (by decide) rfl ?_
    refine v_aload_n i_L_law_1444 rfl ?_
    refine v_aload_n i_L_law_1445 rfl ?_
    refine v_iload i_L_law_1446 rfl ?_
    refine v_iconst (v := 1) i_L_law_1448 rfl ?_
    refine v_iadd i_L_law_1449 ?_
    refine v_sld hX hb (j := i + 1) (nI_add i 1) (by omega) (by omega) i_L_law_1450 ?_
    refine v_inv B i_L_law_1451 kn_m_M_disk (c_M_disk B hA hT hD.2.1.2.1 hD.2.1.2.2.1 hD.2.1.1 hD.2.1.2.2.2.2.2 hD.2.1.2.2.2.1 _) hA.1 rfl rfl (Nat.le_of_ble_eq_true rfl) ⟨by decide, by decide, by show k + 300 + 0 ≤ 601024; omega, by show n + 4000 + 0 ≤ 7293034; omega⟩ rfl (fun r X3 hq3 => ?_) (fun _ _ h => False.elim h)
    obtain ⟨z3, rfl, hval, hro⟩ := hq3
    have hM3 := MR.rd hT hD hro
    have hsm := hro.same
    have hLA := hL.more ht
    have hr : rg (xs (i + 1)) 4 = true := by
      cases hq : rg (xs (i + 1)) 4
      · rw [cdisk_rg.mpr hq] at hy; cases hy
      · rfl
    have hcode : mcode (!(rg (xs (i + 1)) 4)) false false false = 0 := by rw [hr]; rfl
    have hout : vp_updL f' 0 z.toInt64 0 = z3.toInt64 := by
      rw [hval y hy]
      cases er
      exact if_pos rfl
    obtain ⟨s3, I3, J3, hA3, hc3, -⟩ := id hM3
    refine v_istore i_L_law_1454 (by decide) rfl ?_
    refine v_loc [(0, .ref b), (1, .ref x), (2, .ref (x + 25)), (3, .ref (x + 55)), (4, .int (nI i)), (5, .int 0), (6, .int z3)] rfl ?_
    exact end_disk B hA3 (hc3.trans hcode) z3 (hZ2.ref hsm hM3).2.2 (fun _ => hout) (by omega) (by omega) (K X3 ⟨_, _, _, _, _, _, _, _, _, _, _, hZ2.ref hsm hM3, hLA⟩)
  · -- A
    obtain ⟨⟨hy, -⟩, hst⟩ := hq
    have hZ2 := hZ.cls hst
    obtain ⟨s, I, J, hA, hcd, hT, hD⟩ := id hZ2.2.1
    have hb25 := hD.2.1.2.2.2.1
    have hl12 := hT.2.2.1
    refine v_istore i_L_law_1442 (by decide) rfl ?_
    refine v_aload_n i_L_law_1444 rfl ?_
    refine v_aload_n i_L_law_1445 rfl ?_
    refine v_iload i_L_law_1446 rfl ?_
    refine v_iconst (v := 1) i_L_law_1448 rfl ?_
    refine v_iadd i_L_law_1449 ?_
    refine v_sld hX hb (j := i + 1) (nI_add i 1) (by omega) (by omega) i_L_law_1450 ?_
    refine v_inv B i_L_law_1451 kn_m_M_disk (c_M_disk B hA hT hD.2.1.2.1 hD.2.1.2.2.1 hD.2.1.1 hD.2.1.2.2.2.2.2 hD.2.1.2.2.2.1 _) hA.1 rfl rfl (Nat.le_of_ble_eq_true rfl) ⟨by decide, by decide, by show k + 300 + 0 ≤ 601024; omega, by show n + 4000 + 0 ≤ 7293034; omega⟩ rfl (fun r X3 hq3 => ?_) (fun _ _ h => False.elim h)
    obtain ⟨z3, rfl, hval, hro⟩ := hq3
    have hM3 := MR.rd hT hD hro
    have hsm := hro.same
    have hLA := hL.more ht
    have hcode : mcode (!(rg (xs (i + 1)) 4)) false false false = 1 := by rw [cdisk_rg.mp hy]; rfl
    obtain ⟨s3, I3, J3, hA3, hc3, -⟩ := id hM3
    refine v_istore i_L_law_1454 (by decide) rfl ?_
    refine v_loc [(0, .ref b), (1, .ref x), (2, .ref (x + 25)), (3, .ref (x + 55)), (4, .int (nI i)), (5, .int 1), (6, .int z3)] rfl ?_
    exact end_disk B hA3 (hc3.trans hcode) z3 (hZ2.ref hsm hM3).2.2 (fun q => absurd q (by decide)) (by omega) (by omega) (K X3 ⟨_, _, _, _, _, _, _, _, _, _, _, hZ2.ref hsm hM3, hLA⟩)
theorem yKs_all (K : qRw) : K.filter (yBt (-2147483648) 2147483647) = K := filter_all (fun e _ => by
  have h1 := Int32.le_toInt e.1
  have h2 := Int32.toInt_lt e.1
  have e0 : (-2147483648 : Int32).toInt = -2147483648 := by decide
  have e1 : (2147483647 : Int32).toInt = 2147483647 := by decide
  unfold yBt
  exact decide_eq_true (by rw [e0, e1]; omega))
theorem dws_kp (w : Nat) : ∀ (j n : Nat) (D : Dk), (dws w j n D).2.2.2.1 = D.2.2.1
  | 0, n, D => rfl
  | j + 1, n, D => by
    rw [dws]
    rcases dwr_cases D with ⟨e1, e2⟩ | ⟨e1, e2⟩
    · rw [e2, if_neg (fun q => (nomatch q))]
    · rw [e2, if_pos rfl]; exact dws_kp w j (n + 1) _
theorem MR.low {X : qX} {m : Nat} {cd : Int32} {pg : Nat → Pg} {made lat : Nat} {ro : Nat → Nat} {pgK : Nat → Pg} {madeK : Nat} {D : Dk} {op : Nat → Int32 × Int64 × Bool} (h : MR X m cd pg made lat ro pgK madeK D op) : dlat D ≤ lat := by
  obtain ⟨s, I, J, h1, h2, h3, h4⟩ := h
  exact h4.2.2.1.2.2
theorem law_differs (B : qB l s0 C) (hX : va_X b N xs s0 s0.heap) (hb : b < s0.heap.size) (hN : N ≤ 2048) (hi : i + 4 ≤ N) (h : LR X x t) (ht : t + 1 ≤ 512) (hk : k + 300 ≤ 601024) (hn : n + 4000 ≤ 7293034)
    (K : ∀ X', LR X' x (t + 1) → qV l s0 C m_L_law rmW Qp Ep (k + 300) (n + 4000) X' 1487 [(0, .ref b), (1, .ref x), (2, .ref (x + 25)), (3, .ref (x + 55)), (4, .int (nI i))] []) : qV l s0 C m_L_law rmW Qp Ep k n X 713 [(0, .ref b), (1, .ref x), (2, .ref (x + 25)), (3, .ref (x + 55)), (4, .int (nI i))] [] := by
  obtain ⟨pg, made, lat, ro, db, D, pgK, madeK, op, cd, f, hZ, hL⟩ := h
  obtain ⟨hm, hlen, hgd⟩ := hL.len
  have hx := hZ.1.obj
  have hl5 : lat ≤ 512 := by have := hL.2.2.2.1; have := hL.2.2.2.2.1; omega
  have hkp := hL.kp
  refine v_aload_n i_L_law_713 rfl ?_
  refine v_aload_n i_L_law_714 rfl ?_
  refine v_iload i_L_law_715 rfl ?_
  refine v_iconst (v := 1) i_L_law_717 rfl ?_
  refine v_iadd i_L_law_718 ?_
  refine v_sld hX hb (j := i + 1) (nI_add i 1) (by omega) (by omega) i_L_law_719 ?_
  refine v_aload_n i_L_law_720 rfl ?_
  refine v_iload i_L_law_721 rfl ?_
  refine v_iconst (v := 2) i_L_law_723 rfl ?_
  refine v_iadd i_L_law_724 ?_
  refine v_sld hX hb (j := i + 2) (nI_add i 2) (by omega) (by omega) i_L_law_725 ?_
  refine v_aload_n i_L_law_726 rfl ?_
  refine v_iload i_L_law_727 rfl ?_
  refine v_iconst (v := 3) i_L_law_729 rfl ?_
  refine v_iadd i_L_law_730 ?_
  refine v_sld hX hb (j := i + 3) (nI_add i 3) (by omega) (by omega) i_L_law_731 ?_
  refine v_aload_n i_L_law_732 rfl ?_
  refine v_invS B i_L_law_733 kn_m_L_differs (c_L_differs (x := x) (o := x + 55) B _ _ _ (c_P_differs B hZ.1 _ _ _ (fun j hj => (ygatA hm hlen (hgd j hj) (by omega) _ _).1)) hx (fun r X' h => by obtain ⟨e1, hk0, ⟨p, j, p1, j1, p2, j2, hne, er⟩, hst⟩ := h; exact ⟨⟨_, er⟩, _, (hZ.cls hst).2.2⟩) (fun e X' h => by rcases h.1 with w | w | w | w; exact Or.inl w.2; exact Or.inr (Or.inl w.2.2); exact Or.inr (Or.inr (Or.inl w.2.2.2.2)); exact Or.inr (Or.inr (Or.inr w.2.2.2)))) rfl rfl (Nat.le_of_ble_eq_true rfl) ⟨by decide, by decide, by show k + 300 ≤ 601024; omega, by show n + 4000 ≤ 7293034; omega⟩ rfl (fun r X2 hq => ?_) (fun _ _ h => False.elim h)
  rcases hq with ⟨z, X', f', hq, hf', rfl, rfl⟩ | ⟨hq, rfl⟩ | ⟨hq, rfl⟩ | ⟨hq, rfl⟩ | ⟨hq, rfl⟩
  · -- ok
    obtain ⟨e1, hk0, ⟨p, j, p1, j1, p2, j2, hne, er⟩, hst⟩ := hq
    have hZ2 := (hZ.cls hst).out (vp_updL f' 0 (z.toInt64))
    obtain ⟨s, I, J, hA, hcd, hT, hD⟩ := id hZ2.2.1
    have hb25 := hD.2.1.2.2.2.1
    have hl12 := hT.2.2.1
    refine v_istore i_L_law_736 (by decide) rfl ?_
    refine v_aload_n i_L_law_738 rfl ?_
    refine v_aload_n i_L_law_739 rfl ?_
    refine v_iload i_L_law_740 rfl ?_
    refine v_iconst (v := 1) i_L_law_742 rfl ?_
    refine v_iadd i_L_law_743 ?_
    refine v_sld hX hb (j := i + 1) (nI_add i 1) (by omega) (by omega) i_L_law_744 ?_
    refine v_aload_n i_L_law_745 rfl ?_
    refine v_iload i_L_law_746 rfl ?_
    refine v_iconst (v := 2) i_L_law_748 rfl ?_
    refine v_iadd i_L_law_749 ?_
    refine v_sld hX hb (j := i + 2) (nI_add i 2) (by omega) (by omega) i_L_law_750 ?_
    refine v_aload_n i_L_law_751 rfl ?_
    refine v_iload i_L_law_752 rfl ?_
    refine v_iconst (v := 3) i_L_law_754 rfl ?_
    refine v_iadd i_L_law_755 ?_
    refine v_sld hX hb (j := i + 3) (nI_add i 3) (by omega) (by omega) i_L_law_756 ?_
    refine v_inv B i_L_law_757 kn_m_M_differs (c_M_differs B hA hb25 hl12 hT.2.1.2.2.1 hT (Nat.le_refl _) hgd _ _ _) hA.1 rfl rfl (Nat.le_of_ble_eq_true rfl) ⟨by decide, by decide, by show k + 300 + 0 ≤ 601024; omega, by show n + 4000 + 0 ≤ 7293034; omega⟩ rfl (fun r X3 hq3 => ?_) (fun _ _ h => False.elim h)
    obtain ⟨z3, cd3, rfl, hval, hcd3, hro⟩ := hq3
    have hM3 := MR.rd hT hD hro
    have hsm := hro.same
    have hLA := hL.more ht
    obtain ⟨kn, kn1, kn2⟩ := nI_of hk0
    have hgp := (ygatA hm hlen (hgd p p1) (by omega) (-2147483648) 2147483647).2
    have hgj := (ygatA hm hlen (hgd j j1) (by omega) (-2147483648) 2147483647).2
    rw [yKs_all] at hgp hgj
    have hsp := (yKs_spec hm (hgd p p1)).2
    have hsj := (yKs_spec hm (hgd j j1)).2
    have hrd : rdf (cgat pg made ro p (-2147483648) 2147483647 2147483647) (cgat pg made ro j (-2147483648) 2147483647 2147483647) (xs (i + 3)) ((cgat pg made ro p (-2147483648) 2147483647 2147483647).length + (cgat pg made ro j (-2147483648) 2147483647 2147483647).length) 0 0 0 = yans (ydx (yKs pg (ro p) p) (yKs pg (ro j) j) ((yKs pg (ro p) p).length + (yKs pg (ro j) j).length) 0 0 kn) := by
      rw [hgp, hgj, kn2]
      exact rdf_ydx kn1 (by omega) (by omega) _ 0 0 0 (by omega) (by omega) (by omega) (Nat.zero_le _)
    rw [hrd] at hne er
    have hcode : cd3 = 0 ∧ ydx (yKs pg (ro p) p) (yKs pg (ro j) j) ((yKs pg (ro p) p).length + (yKs pg (ro j) j).length) 0 0 kn = some z3 := by
      rcases hval e1 p j kn p1 j1 p2 j2 kn1 kn2 with ⟨y1, y2⟩ | ⟨y1, y2⟩
      · exact absurd (yans_max.mpr y1) hne
      · exact ⟨y2, y1⟩
    obtain ⟨hcode, hy⟩ := hcode
    have hout : vp_updL f' 0 z.toInt64 0 = z3.toInt64 := by
      rw [hy] at er
      cases er
      refine (if_pos rfl).trans ?_
      show ((z3.toInt64).toInt32).toInt64 = z3.toInt64
      rw [i64_i32]
    obtain ⟨s3, I3, J3, hA3, hc3, -⟩ := id hM3
    refine v_istore i_L_law_760 (by decide) rfl ?_
    refine v_loc [(0, .ref b), (1, .ref x), (2, .ref (x + 25)), (3, .ref (x + 55)), (4, .int (nI i)), (5, .int 0), (6, .int z3)] rfl ?_
    exact end_differs B hA3 (hc3.trans hcode) z3 (hZ2.ref hsm hM3).2.2 (fun _ => hout) (by omega) (by omega) (K X3 ⟨_, _, _, _, _, _, _, _, _, _, _, hZ2.ref hsm hM3, hLA⟩)
  · -- S
    have hst := hq.2
    have e1 : D.2.2.2.2 = true := by
      rcases hq.1 with w | w | w | w
      · exact w.1
      · exact absurd w.2.2 (by decide)
      · exact absurd w.2.2.2.2 (by decide)
      · exact absurd w.2.2.2 (by decide)
    have hZ2 := hZ.cls hst
    obtain ⟨s, I, J, hA, hcd, hT, hD⟩ := id hZ2.2.1
    have hb25 := hD.2.1.2.2.2.1
    have hl12 := hT.2.2.1
    refine v_istore i_L_law_736 (by decide) rfl ?_
    refine v_aload_n i_L_law_738 rfl ?_
    refine v_aload_n i_L_law_739 rfl ?_
    refine v_iload i_L_law_740 rfl ?_
    refine v_iconst (v := 1) i_L_law_742 rfl ?_
    refine v_iadd i_L_law_743 ?_
    refine v_sld hX hb (j := i + 1) (nI_add i 1) (by omega) (by omega) i_L_law_744 ?_
    refine v_aload_n i_L_law_745 rfl ?_
    refine v_iload i_L_law_746 rfl ?_
    refine v_iconst (v := 2) i_L_law_748 rfl ?_
    refine v_iadd i_L_law_749 ?_
    refine v_sld hX hb (j := i + 2) (nI_add i 2) (by omega) (by omega) i_L_law_750 ?_
    refine v_aload_n i_L_law_751 rfl ?_
    refine v_iload i_L_law_752 rfl ?_
    refine v_iconst (v := 3) i_L_law_754 rfl ?_
    refine v_iadd i_L_law_755 ?_
    refine v_sld hX hb (j := i + 3) (nI_add i 3) (by omega) (by omega) i_L_law_756 ?_
    refine v_inv B i_L_law_757 kn_m_M_differs (c_M_differs B hA hb25 hl12 hT.2.1.2.2.1 hT (Nat.le_refl _) hgd _ _ _) hA.1 rfl rfl (Nat.le_of_ble_eq_true rfl) ⟨by decide, by decide, by show k + 300 + 0 ≤ 601024; omega, by show n + 4000 + 0 ≤ 7293034; omega⟩ rfl (fun r X3 hq3 => ?_) (fun _ _ h => False.elim h)
    obtain ⟨z3, cd3, rfl, hval, hcd3, hro⟩ := hq3
    have hM3 := MR.rd hT hD hro
    have hsm := hro.same
    have hLA := hL.more ht
    have hcode : cd3 = 1 := by rw [hcd3 (by rw [e1]; rfl), e1]; rfl
    obtain ⟨s3, I3, J3, hA3, hc3, -⟩ := id hM3
    refine v_istore i_L_law_760 (by decide) rfl ?_
    refine v_loc [(0, .ref b), (1, .ref x), (2, .ref (x + 25)), (3, .ref (x + 55)), (4, .int (nI i)), (5, .int 1), (6, .int z3)] rfl ?_
    exact end_differs B hA3 (hc3.trans hcode) z3 (hZ2.ref hsm hM3).2.2 (fun q => absurd q (by decide)) (by omega) (by omega) (K X3 ⟨_, _, _, _, _, _, _, _, _, _, _, hZ2.ref hsm hM3, hLA⟩)
  · -- I
    have hst := hq.2
    have e1 : D.2.2.2.2 = false ∧ (¬ (0 ≤ xs (i + 1) ∧ xs (i + 1) ≤ nI lat) ∨ ¬ (0 ≤ xs (i + 2) ∧ xs (i + 2) ≤ nI lat)) := by
      rcases hq.1 with w | w | w | w
      · exact absurd w.2 (by decide)
      · exact ⟨w.1, w.2.1⟩
      · exact absurd w.2.2.2.2 (by decide)
      · exact absurd w.2.2.2 (by decide)
    have hZ2 := hZ.cls hst
    obtain ⟨s, I, J, hA, hcd, hT, hD⟩ := id hZ2.2.1
    have hb25 := hD.2.1.2.2.2.1
    have hl12 := hT.2.2.1
    refine v_istore i_L_law_736 (by decide) rfl ?_
    refine v_aload_n i_L_law_738 rfl ?_
    refine v_aload_n i_L_law_739 rfl ?_
    refine v_iload i_L_law_740 rfl ?_
    refine v_iconst (v := 1) i_L_law_742 rfl ?_
    refine v_iadd i_L_law_743 ?_
    refine v_sld hX hb (j := i + 1) (nI_add i 1) (by omega) (by omega) i_L_law_744 ?_
    refine v_aload_n i_L_law_745 rfl ?_
    refine v_iload i_L_law_746 rfl ?_
    refine v_iconst (v := 2) i_L_law_748 rfl ?_
    refine v_iadd i_L_law_749 ?_
    refine v_sld hX hb (j := i + 2) (nI_add i 2) (by omega) (by omega) i_L_law_750 ?_
    refine v_aload_n i_L_law_751 rfl ?_
    refine v_iload i_L_law_752 rfl ?_
    refine v_iconst (v := 3) i_L_law_754 rfl ?_
    refine v_iadd i_L_law_755 ?_
    refine v_sld hX hb (j := i + 3) (nI_add i 3) (by omega) (by omega) i_L_law_756 ?_
    refine v_inv B i_L_law_757 kn_m_M_differs (c_M_differs B hA hb25 hl12 hT.2.1.2.2.1 hT (Nat.le_refl _) hgd _ _ _) hA.1 rfl rfl (Nat.le_of_ble_eq_true rfl) ⟨by decide, by decide, by show k + 300 + 0 ≤ 601024; omega, by show n + 4000 + 0 ≤ 7293034; omega⟩ rfl (fun r X3 hq3 => ?_) (fun _ _ h => False.elim h)
    obtain ⟨z3, cd3, rfl, hval, hcd3, hro⟩ := hq3
    have hM3 := MR.rd hT hD hro
    have hsm := hro.same
    have hLA := hL.more ht
    have hor : (!(ver (xs (i + 1)) lat) || !(ver (xs (i + 2)) lat)) = true := by
      rcases e1.2 with w | w
      · rw [show ver (xs (i + 1)) lat = false from decide_eq_false w]; rfl
      · rw [show ver (xs (i + 2)) lat = false from decide_eq_false w, Bool.not_false, Bool.or_true]
    have hcode : cd3 = 2 := by rw [hcd3 (by rw [hor]; simp), e1.1, hor]; rfl
    obtain ⟨s3, I3, J3, hA3, hc3, -⟩ := id hM3
    refine v_istore i_L_law_760 (by decide) rfl ?_
    refine v_loc [(0, .ref b), (1, .ref x), (2, .ref (x + 25)), (3, .ref (x + 55)), (4, .int (nI i)), (5, .int 2), (6, .int z3)] rfl ?_
    exact end_differs B hA3 (hc3.trans hcode) z3 (hZ2.ref hsm hM3).2.2 (fun q => absurd q (by decide)) (by omega) (by omega) (K X3 ⟨_, _, _, _, _, _, _, _, _, _, _, hZ2.ref hsm hM3, hLA⟩)
  · -- A
    have hst := hq.2
    have e1 : D.2.2.2.2 = false ∧ (0 ≤ xs (i + 1) ∧ xs (i + 1) ≤ nI lat) ∧ (0 ≤ xs (i + 2) ∧ xs (i + 2) ≤ nI lat) ∧ xs (i + 3) < 0 := by
      rcases hq.1 with w | w | w | w
      · exact absurd w.2 (by decide)
      · exact absurd w.2.2 (by decide)
      · exact ⟨w.1, w.2.1, w.2.2.1, w.2.2.2.1⟩
      · exact absurd w.2.2.2 (by decide)
    have hZ2 := hZ.cls hst
    obtain ⟨s, I, J, hA, hcd, hT, hD⟩ := id hZ2.2.1
    have hb25 := hD.2.1.2.2.2.1
    have hl12 := hT.2.2.1
    refine v_istore i_L_law_736 (by decide) rfl ?_
    refine v_aload_n i_L_law_738 rfl ?_
    refine v_aload_n i_L_law_739 rfl ?_
    refine v_iload i_L_law_740 rfl ?_
    refine v_iconst (v := 1) i_L_law_742 rfl ?_
    refine v_iadd i_L_law_743 ?_
    refine v_sld hX hb (j := i + 1) (nI_add i 1) (by omega) (by omega) i_L_law_744 ?_
    refine v_aload_n i_L_law_745 rfl ?_
    refine v_iload i_L_law_746 rfl ?_
    refine v_iconst (v := 2) i_L_law_748 rfl ?_
    refine v_iadd i_L_law_749 ?_
    refine v_sld hX hb (j := i + 2) (nI_add i 2) (by omega) (by omega) i_L_law_750 ?_
    refine v_aload_n i_L_law_751 rfl ?_
    refine v_iload i_L_law_752 rfl ?_
    refine v_iconst (v := 3) i_L_law_754 rfl ?_
    refine v_iadd i_L_law_755 ?_
    refine v_sld hX hb (j := i + 3) (nI_add i 3) (by omega) (by omega) i_L_law_756 ?_
    refine v_inv B i_L_law_757 kn_m_M_differs (c_M_differs B hA hb25 hl12 hT.2.1.2.2.1 hT (Nat.le_refl _) hgd _ _ _) hA.1 rfl rfl (Nat.le_of_ble_eq_true rfl) ⟨by decide, by decide, by show k + 300 + 0 ≤ 601024; omega, by show n + 4000 + 0 ≤ 7293034; omega⟩ rfl (fun r X3 hq3 => ?_) (fun _ _ h => False.elim h)
    obtain ⟨z3, cd3, rfl, hval, hcd3, hro⟩ := hq3
    have hM3 := MR.rd hT hD hro
    have hsm := hro.same
    have hLA := hL.more ht
    have hcode : cd3 = 3 := by
      rw [hcd3 (by rw [decide_eq_true e1.2.2.2, Bool.or_true]), e1.1, show ver (xs (i + 1)) lat = true from decide_eq_true e1.2.1, show ver (xs (i + 2)) lat = true from decide_eq_true e1.2.2.1, decide_eq_true e1.2.2.2]; rfl
    obtain ⟨s3, I3, J3, hA3, hc3, -⟩ := id hM3
    refine v_istore i_L_law_760 (by decide) rfl ?_
    refine v_loc [(0, .ref b), (1, .ref x), (2, .ref (x + 25)), (3, .ref (x + 55)), (4, .int (nI i)), (5, .int 3), (6, .int z3)] rfl ?_
    exact end_differs B hA3 (hc3.trans hcode) z3 (hZ2.ref hsm hM3).2.2 (fun q => absurd q (by decide)) (by omega) (by omega) (K X3 ⟨_, _, _, _, _, _, _, _, _, _, _, hZ2.ref hsm hM3, hLA⟩)
  · -- N
    have hst := hq.2
    have e1 : D.2.2.2.2 = false ∧ ¬ xs (i + 3) < 0 ∧ ∃ p j, p ≤ lat ∧ j ≤ lat ∧ xs (i + 1) = nI p ∧ xs (i + 2) = nI j ∧ rdf (cgat pg made ro p (-2147483648) 2147483647 2147483647) (cgat pg made ro j (-2147483648) 2147483647 2147483647) (xs (i + 3)) ((cgat pg made ro p (-2147483648) 2147483647 2147483647).length + (cgat pg made ro j (-2147483648) 2147483647 2147483647).length) 0 0 0 = 9223372036854775807 := by
      rcases hq.1 with w | w | w | w
      · exact absurd w.2 (by decide)
      · exact absurd w.2.2 (by decide)
      · exact absurd w.2.2.2.2 (by decide)
      · exact ⟨w.1, w.2.1, w.2.2.1⟩
    obtain ⟨e1, hk0, p, j, p1, j1, p2, j2, hmx⟩ := e1
    have hZ2 := hZ.cls hst
    obtain ⟨s, I, J, hA, hcd, hT, hD⟩ := id hZ2.2.1
    have hb25 := hD.2.1.2.2.2.1
    have hl12 := hT.2.2.1
    refine v_istore i_L_law_736 (by decide) rfl ?_
    refine v_aload_n i_L_law_738 rfl ?_
    refine v_aload_n i_L_law_739 rfl ?_
    refine v_iload i_L_law_740 rfl ?_
    refine v_iconst (v := 1) i_L_law_742 rfl ?_
    refine v_iadd i_L_law_743 ?_
    refine v_sld hX hb (j := i + 1) (nI_add i 1) (by omega) (by omega) i_L_law_744 ?_
    refine v_aload_n i_L_law_745 rfl ?_
    refine v_iload i_L_law_746 rfl ?_
    refine v_iconst (v := 2) i_L_law_748 rfl ?_
    refine v_iadd i_L_law_749 ?_
    refine v_sld hX hb (j := i + 2) (nI_add i 2) (by omega) (by omega) i_L_law_750 ?_
    refine v_aload_n i_L_law_751 rfl ?_
    refine v_iload i_L_law_752 rfl ?_
    refine v_iconst (v := 3) i_L_law_754 rfl ?_
    refine v_iadd i_L_law_755 ?_
    refine v_sld hX hb (j := i + 3) (nI_add i 3) (by omega) (by omega) i_L_law_756 ?_
    refine v_inv B i_L_law_757 kn_m_M_differs (c_M_differs B hA hb25 hl12 hT.2.1.2.2.1 hT (Nat.le_refl _) hgd _ _ _) hA.1 rfl rfl (Nat.le_of_ble_eq_true rfl) ⟨by decide, by decide, by show k + 300 + 0 ≤ 601024; omega, by show n + 4000 + 0 ≤ 7293034; omega⟩ rfl (fun r X3 hq3 => ?_) (fun _ _ h => False.elim h)
    obtain ⟨z3, cd3, rfl, hval, hcd3, hro⟩ := hq3
    have hM3 := MR.rd hT hD hro
    have hsm := hro.same
    have hLA := hL.more ht
    obtain ⟨kn, kn1, kn2⟩ := nI_of hk0
    have hgp := (ygatA hm hlen (hgd p p1) (by omega) (-2147483648) 2147483647).2
    have hgj := (ygatA hm hlen (hgd j j1) (by omega) (-2147483648) 2147483647).2
    rw [yKs_all] at hgp hgj
    have hsp := (yKs_spec hm (hgd p p1)).2
    have hsj := (yKs_spec hm (hgd j j1)).2
    have hrd : rdf (cgat pg made ro p (-2147483648) 2147483647 2147483647) (cgat pg made ro j (-2147483648) 2147483647 2147483647) (xs (i + 3)) ((cgat pg made ro p (-2147483648) 2147483647 2147483647).length + (cgat pg made ro j (-2147483648) 2147483647 2147483647).length) 0 0 0 = yans (ydx (yKs pg (ro p) p) (yKs pg (ro j) j) ((yKs pg (ro p) p).length + (yKs pg (ro j) j).length) 0 0 kn) := by
      rw [hgp, hgj, kn2]
      exact rdf_ydx kn1 (by omega) (by omega) _ 0 0 0 (by omega) (by omega) (by omega) (Nat.zero_le _)
    rw [hrd] at hmx
    have hcode : cd3 = 4 := by
      rcases hval e1 p j kn p1 j1 p2 j2 kn1 kn2 with ⟨y1, y2⟩ | ⟨y1, y2⟩
      · exact y2
      · rw [yans_max.mp hmx] at y1; cases y1
    obtain ⟨s3, I3, J3, hA3, hc3, -⟩ := id hM3
    refine v_istore i_L_law_760 (by decide) rfl ?_
    refine v_loc [(0, .ref b), (1, .ref x), (2, .ref (x + 25)), (3, .ref (x + 55)), (4, .int (nI i)), (5, .int 4), (6, .int z3)] rfl ?_
    exact end_differs B hA3 (hc3.trans hcode) z3 (hZ2.ref hsm hM3).2.2 (fun q => absurd q (by decide)) (by omega) (by omega) (K X3 ⟨_, _, _, _, _, _, _, _, _, _, _, hZ2.ref hsm hM3, hLA⟩)
theorem law_put (B : qB l s0 C) (hX : va_X b N xs s0 s0.heap) (hb : b < s0.heap.size) (hN : N ≤ 2048) (hi : i + 4 ≤ N) (h : LR X x t) (ht : t + 1 ≤ 512) (hk : k + 300 ≤ 601024) (hn : n + 4000 ≤ 7293034)
    (K : ∀ X', LR X' x (t + 1) → qV l s0 C m_L_law rmW Qp Ep (k + 300) (n + 4000) X' 1487 [(0, .ref b), (1, .ref x), (2, .ref (x + 25)), (3, .ref (x + 55)), (4, .int (nI i))] []) : qV l s0 C m_L_law rmW Qp Ep k n X 144 [(0, .ref b), (1, .ref x), (2, .ref (x + 25)), (3, .ref (x + 55)), (4, .int (nI i))] [] := by
  obtain ⟨pg, made, lat, ro, db, D, pgK, madeK, op, cd, f, hZ, hL⟩ := h
  obtain ⟨hm, hlen, hgd⟩ := hL.len
  have hx := hZ.1.obj
  have hl5 : lat ≤ 512 := by have := hL.2.2.2.1; have := hL.2.2.2.2.1; omega
  have hkp := hL.kp
  refine v_aload_n i_L_law_144 rfl ?_
  refine v_aload_n i_L_law_145 rfl ?_
  refine v_iload i_L_law_146 rfl ?_
  refine v_iconst (v := 1) i_L_law_148 rfl ?_
  refine v_iadd i_L_law_149 ?_
  refine v_sld hX hb (j := i + 1) (nI_add i 1) (by omega) (by omega) i_L_law_150 ?_
  refine v_aload_n i_L_law_151 rfl ?_
  refine v_iload i_L_law_152 rfl ?_
  refine v_iconst (v := 2) i_L_law_154 rfl ?_
  refine v_iadd i_L_law_155 ?_
  refine v_sld hX hb (j := i + 2) (nI_add i 2) (by omega) (by omega) i_L_law_156 ?_
  refine v_i2l i_L_law_157 ?_
  refine v_bipush (v := 32) i_L_law_158 rfl ?_
  refine v_lshl i_L_law_160 ?_
  refine v_aload_n i_L_law_161 rfl ?_
  refine v_iload i_L_law_162 rfl ?_
  refine v_iconst (v := 3) i_L_law_164 rfl ?_
  refine v_iadd i_L_law_165 ?_
  refine v_sld hX hb (j := i + 3) (nI_add i 3) (by omega) (by omega) i_L_law_166 ?_
  refine v_i2l i_L_law_167 ?_
  refine v_ldc2 B i_L_law_168 i_L_law_168_w ?_
  refine v_land i_L_law_171 ?_
  refine v_lor i_L_law_172 ?_
  refine v_aload_n i_L_law_173 rfl ?_
  refine v_invS B i_L_law_174 kn_m_L_put (c_L_put (x := x) (o := x + 55) B _ _ (c_P_put B hZ.1 _ _ _ (hL.up _ _ true)) hx (fun r X' h => by obtain ⟨e1, e2, er, hst⟩ := h; exact ⟨⟨_, er⟩, _, (hZ.cls hst).2.2⟩) (fun e X' h => by rcases h.1 with w | w; exact Or.inl w.2; exact Or.inr w.2.2)) rfl rfl (Nat.le_of_ble_eq_true rfl) ⟨by decide, by decide, by show k + 300 ≤ 601024; omega, by show n + 4000 ≤ 7293034; omega⟩ rfl (fun r X2 hq => ?_) (fun _ _ h => False.elim h)
  rcases hq with ⟨z, X', f', hq, hf', rfl, rfl⟩ | ⟨hq, rfl⟩ | ⟨hq, rfl⟩
  · -- ok
    obtain ⟨e1, e2, er, hst⟩ := hq
    have hZ2 := (hZ.cls hst).out (vp_updL f' 0 (z.toInt64))
    obtain ⟨s, I, J, hA, hcd, hT, hD⟩ := id hZ2.2.1
    have hb25 := hD.2.1.2.2.2.1
    have hl12 := hT.2.2.1
    refine v_istore i_L_law_177 (by decide) rfl ?_
    refine v_aload_n i_L_law_179 rfl ?_
    refine v_aload_n i_L_law_180 rfl ?_
    refine v_iload i_L_law_181 rfl ?_
    refine v_iconst (v := 1) i_L_law_183 rfl ?_
    refine v_iadd i_L_law_184 ?_
    refine v_sld hX hb (j := i + 1) (nI_add i 1) (by omega) (by omega) i_L_law_185 ?_
    refine v_aload_n i_L_law_186 rfl ?_
    refine v_iload i_L_law_187 rfl ?_
    refine v_iconst (v := 2) i_L_law_189 rfl ?_
    refine v_iadd i_L_law_190 ?_
    refine v_sld hX hb (j := i + 2) (nI_add i 2) (by omega) (by omega) i_L_law_191 ?_
    refine v_i2l i_L_law_192 ?_
    refine v_bipush (v := 32) i_L_law_193 rfl ?_
    refine v_lshl i_L_law_195 ?_
    refine v_aload_n i_L_law_196 rfl ?_
    refine v_iload i_L_law_197 rfl ?_
    refine v_iconst (v := 3) i_L_law_199 rfl ?_
    refine v_iadd i_L_law_200 ?_
    refine v_sld hX hb (j := i + 3) (nI_add i 3) (by omega) (by omega) i_L_law_201 ?_
    refine v_i2l i_L_law_202 ?_
    refine v_ldc2 B i_L_law_203 i_L_law_203_w ?_
    refine v_land i_L_law_206 ?_
    refine v_lor i_L_law_207 ?_
    refine v_inv B i_L_law_208 kn_m_M_put (c_M_put B hZ2.2.1 hkp (by omega) (by obtain ⟨_, _, g1, _⟩ := hgd lat (Nat.le_refl _); exact g1) (fun p _ => by have := hL.2.1 p; omega) _ _ (ythere hm hlen (hgd lat (Nat.le_refl _)) (by omega) _).1 (fun hr => (yupd hL.1.1 ((tref_rfs hL).trans hr) _ _ true).2.2.2 (Or.inl rfl))) hA.1 rfl rfl (Nat.le_of_ble_eq_true rfl) ⟨by decide, by decide, by show k + 300 + 0 ≤ 601024; omega, by show n + 4000 + 0 ≤ 7293034; omega⟩ rfl (fun r X3 hq3 => ?_) (fun _ _ h => False.elim h)
    obtain ⟨hd3, ⟨z3, rfl⟩, hsm⟩ := hq3
    rw [tref_rfs hL] at e2
    rcases hd3 with ⟨w1, -⟩ | ⟨w1, w2, -⟩ | ⟨w1, w2, rz, hM3⟩
    · rw [e1] at w1; cases w1
    · rw [e2] at w2; cases w2
    have hcode : (0 : Int32) = 0 := rfl
    have hLA := hL.next (o := (xs (i + 1), (xs (i + 2)).toInt64 <<< (Int32.toInt64 32 &&& 63) ||| (xs (i + 3)).toInt64 &&& 4294967295, true)) ht ⟨(tref_rfs hL).trans e2, Or.inl rfl⟩
    have hout : vp_updL f' 0 z.toInt64 0 = z3.toInt64 := by
      cases er
      cases rz
      exact if_pos rfl
    obtain ⟨s3, I3, J3, hA3, hc3, -⟩ := id hM3
    refine v_istore i_L_law_211 (by decide) rfl ?_
    refine v_loc [(0, .ref b), (1, .ref x), (2, .ref (x + 25)), (3, .ref (x + 55)), (4, .int (nI i)), (5, .int 0), (6, .int z3)] rfl ?_
    exact end_put B hA3 (hc3.trans hcode) z3 (hZ2.ref hsm hM3).2.2 (fun _ => hout) (by omega) (by omega) (K X3 ⟨_, _, _, _, _, _, _, _, _, _, _, hZ2.ref hsm hM3, hLA⟩)
  · -- S
    have hst := hq.2
    have e1 : D.2.2.2.2 = true := by
      rcases hq.1 with w | w
      · exact w.1
      · exact absurd w.2.2 (by decide)
    have hZ2 := hZ.cls hst
    obtain ⟨s, I, J, hA, hcd, hT, hD⟩ := id hZ2.2.1
    have hb25 := hD.2.1.2.2.2.1
    have hl12 := hT.2.2.1
    refine v_istore i_L_law_177 (by decide) rfl ?_
    refine v_aload_n i_L_law_179 rfl ?_
    refine v_aload_n i_L_law_180 rfl ?_
    refine v_iload i_L_law_181 rfl ?_
    refine v_iconst (v := 1) i_L_law_183 rfl ?_
    refine v_iadd i_L_law_184 ?_
    refine v_sld hX hb (j := i + 1) (nI_add i 1) (by omega) (by omega) i_L_law_185 ?_
    refine v_aload_n i_L_law_186 rfl ?_
    refine v_iload i_L_law_187 rfl ?_
    refine v_iconst (v := 2) i_L_law_189 rfl ?_
    refine v_iadd i_L_law_190 ?_
    refine v_sld hX hb (j := i + 2) (nI_add i 2) (by omega) (by omega) i_L_law_191 ?_
    refine v_i2l i_L_law_192 ?_
    refine v_bipush (v := 32) i_L_law_193 rfl ?_
    refine v_lshl i_L_law_195 ?_
    refine v_aload_n i_L_law_196 rfl ?_
    refine v_iload i_L_law_197 rfl ?_
    refine v_iconst (v := 3) i_L_law_199 rfl ?_
    refine v_iadd i_L_law_200 ?_
    refine v_sld hX hb (j := i + 3) (nI_add i 3) (by omega) (by omega) i_L_law_201 ?_
    refine v_i2l i_L_law_202 ?_
    refine v_ldc2 B i_L_law_203 i_L_law_203_w ?_
    refine v_land i_L_law_206 ?_
    refine v_lor i_L_law_207 ?_
    refine v_inv B i_L_law_208 kn_m_M_put (c_M_put B hZ2.2.1 hkp (by omega) (by obtain ⟨_, _, g1, _⟩ := hgd lat (Nat.le_refl _); exact g1) (fun p _ => by have := hL.2.1 p; omega) _ _ (ythere hm hlen (hgd lat (Nat.le_refl _)) (by omega) _).1 (fun hr => (yupd hL.1.1 ((tref_rfs hL).trans hr) _ _ true).2.2.2 (Or.inl rfl))) hA.1 rfl rfl (Nat.le_of_ble_eq_true rfl) ⟨by decide, by decide, by show k + 300 + 0 ≤ 601024; omega, by show n + 4000 + 0 ≤ 7293034; omega⟩ rfl (fun r X3 hq3 => ?_) (fun _ _ h => False.elim h)
    obtain ⟨hd3, ⟨z3, rfl⟩, hsm⟩ := hq3
    rcases hd3 with ⟨w1, hM3⟩ | ⟨w1, w2, -⟩ | ⟨w1, w2, rz, -⟩
    rotate_left
    · rw [e1] at w1; cases w1
    · rw [e1] at w1; cases w1
    have hcode : (1 : Int32) = 1 := rfl
    have hLA := hL.more ht
    obtain ⟨s3, I3, J3, hA3, hc3, -⟩ := id hM3
    refine v_istore i_L_law_211 (by decide) rfl ?_
    refine v_loc [(0, .ref b), (1, .ref x), (2, .ref (x + 25)), (3, .ref (x + 55)), (4, .int (nI i)), (5, .int 1), (6, .int z3)] rfl ?_
    exact end_put B hA3 (hc3.trans hcode) z3 (hZ2.ref hsm hM3).2.2 (fun q => absurd q (by decide)) (by omega) (by omega) (K X3 ⟨_, _, _, _, _, _, _, _, _, _, _, hZ2.ref hsm hM3, hLA⟩)
  · -- U
    have hst := hq.2
    have e1 : D.2.2.2.2 = false ∧ tref pg made lat ro = true := by
      rcases hq.1 with w | w
      · exact absurd w.2 (by decide)
      · exact ⟨w.1, w.2.1⟩
    have hZ2 := hZ.cls hst
    obtain ⟨s, I, J, hA, hcd, hT, hD⟩ := id hZ2.2.1
    have hb25 := hD.2.1.2.2.2.1
    have hl12 := hT.2.2.1
    refine v_istore i_L_law_177 (by decide) rfl ?_
    refine v_aload_n i_L_law_179 rfl ?_
    refine v_aload_n i_L_law_180 rfl ?_
    refine v_iload i_L_law_181 rfl ?_
    refine v_iconst (v := 1) i_L_law_183 rfl ?_
    refine v_iadd i_L_law_184 ?_
    refine v_sld hX hb (j := i + 1) (nI_add i 1) (by omega) (by omega) i_L_law_185 ?_
    refine v_aload_n i_L_law_186 rfl ?_
    refine v_iload i_L_law_187 rfl ?_
    refine v_iconst (v := 2) i_L_law_189 rfl ?_
    refine v_iadd i_L_law_190 ?_
    refine v_sld hX hb (j := i + 2) (nI_add i 2) (by omega) (by omega) i_L_law_191 ?_
    refine v_i2l i_L_law_192 ?_
    refine v_bipush (v := 32) i_L_law_193 rfl ?_
    refine v_lshl i_L_law_195 ?_
    refine v_aload_n i_L_law_196 rfl ?_
    refine v_iload i_L_law_197 rfl ?_
    refine v_iconst (v := 3) i_L_law_199 rfl ?_
    refine v_iadd i_L_law_200 ?_
    refine v_sld hX hb (j := i + 3) (nI_add i 3) (by omega) (by omega) i_L_law_201 ?_
    refine v_i2l i_L_law_202 ?_
    refine v_ldc2 B i_L_law_203 i_L_law_203_w ?_
    refine v_land i_L_law_206 ?_
    refine v_lor i_L_law_207 ?_
    refine v_inv B i_L_law_208 kn_m_M_put (c_M_put B hZ2.2.1 hkp (by omega) (by obtain ⟨_, _, g1, _⟩ := hgd lat (Nat.le_refl _); exact g1) (fun p _ => by have := hL.2.1 p; omega) _ _ (ythere hm hlen (hgd lat (Nat.le_refl _)) (by omega) _).1 (fun hr => (yupd hL.1.1 ((tref_rfs hL).trans hr) _ _ true).2.2.2 (Or.inl rfl))) hA.1 rfl rfl (Nat.le_of_ble_eq_true rfl) ⟨by decide, by decide, by show k + 300 + 0 ≤ 601024; omega, by show n + 4000 + 0 ≤ 7293034; omega⟩ rfl (fun r X3 hq3 => ?_) (fun _ _ h => False.elim h)
    obtain ⟨hd3, ⟨z3, rfl⟩, hsm⟩ := hq3
    rw [tref_rfs hL] at e1
    rcases hd3 with ⟨w1, -⟩ | ⟨w1, w2, hM3⟩ | ⟨w1, w2, rz, -⟩
    · rw [e1.1] at w1; cases w1
    rotate_left
    · rw [e1.2] at w2; cases w2
    have hcode : (2 : Int32) = 2 := rfl
    have hLA := hL.more ht
    obtain ⟨s3, I3, J3, hA3, hc3, -⟩ := id hM3
    refine v_istore i_L_law_211 (by decide) rfl ?_
    refine v_loc [(0, .ref b), (1, .ref x), (2, .ref (x + 25)), (3, .ref (x + 55)), (4, .int (nI i)), (5, .int 2), (6, .int z3)] rfl ?_
    exact end_put B hA3 (hc3.trans hcode) z3 (hZ2.ref hsm hM3).2.2 (fun q => absurd q (by decide)) (by omega) (by omega) (K X3 ⟨_, _, _, _, _, _, _, _, _, _, _, hZ2.ref hsm hM3, hLA⟩)
theorem law_remove (B : qB l s0 C) (hX : va_X b N xs s0 s0.heap) (hb : b < s0.heap.size) (hN : N ≤ 2048) (hi : i + 4 ≤ N) (h : LR X x t) (ht : t + 1 ≤ 512) (hk : k + 300 ≤ 601024) (hn : n + 4000 ≤ 7293034)
    (K : ∀ X', LR X' x (t + 1) → qV l s0 C m_L_law rmW Qp Ep (k + 300) (n + 4000) X' 1487 [(0, .ref b), (1, .ref x), (2, .ref (x + 25)), (3, .ref (x + 55)), (4, .int (nI i))] []) : qV l s0 C m_L_law rmW Qp Ep k n X 244 [(0, .ref b), (1, .ref x), (2, .ref (x + 25)), (3, .ref (x + 55)), (4, .int (nI i))] [] := by
  obtain ⟨pg, made, lat, ro, db, D, pgK, madeK, op, cd, f, hZ, hL⟩ := h
  obtain ⟨hm, hlen, hgd⟩ := hL.len
  have hx := hZ.1.obj
  have hl5 : lat ≤ 512 := by have := hL.2.2.2.1; have := hL.2.2.2.2.1; omega
  have hkp := hL.kp
  refine v_aload_n i_L_law_244 rfl ?_
  refine v_aload_n i_L_law_245 rfl ?_
  refine v_iload i_L_law_246 rfl ?_
  refine v_iconst (v := 1) i_L_law_248 rfl ?_
  refine v_iadd i_L_law_249 ?_
  refine v_sld hX hb (j := i + 1) (nI_add i 1) (by omega) (by omega) i_L_law_250 ?_
  refine v_aload_n i_L_law_251 rfl ?_
  refine v_invS B i_L_law_252 kn_m_L_remove (c_L_remove (x := x) (o := x + 55) B _ (c_P_remove B hZ.1 _ (ygatA hm hlen (hgd lat (Nat.le_refl _)) (by omega) _ _).1 _ (hL.up _ _ false)) hx (fun r X' h => by obtain ⟨e1, e3, e2, er, hst⟩ := h; exact ⟨⟨_, er⟩, _, (hZ.cls hst).2.2⟩) (fun e X' h => by rcases h.1 with w | w | w; exact Or.inl w.2; exact Or.inr (Or.inl w.2.2); exact Or.inr (Or.inr w.2.2.2))) rfl rfl (Nat.le_of_ble_eq_true rfl) ⟨by decide, by decide, by show k + 300 ≤ 601024; omega, by show n + 4000 ≤ 7293034; omega⟩ rfl (fun r X2 hq => ?_) (fun _ _ h => False.elim h)
  rcases hq with ⟨z, X', f', hq, hf', rfl, rfl⟩ | ⟨hq, rfl⟩ | ⟨hq, rfl⟩ | ⟨hq, rfl⟩
  · -- ok
    obtain ⟨e1, e3, e2, er, hst⟩ := hq
    have hZ2 := (hZ.cls hst).out (vp_updL f' 0 (z.toInt64))
    obtain ⟨s, I, J, hA, hcd, hT, hD⟩ := id hZ2.2.1
    have hb25 := hD.2.1.2.2.2.1
    have hl12 := hT.2.2.1
    refine v_istore i_L_law_255 (by decide) rfl ?_
    refine v_aload_n i_L_law_257 rfl ?_
    refine v_aload_n i_L_law_258 rfl ?_
    refine v_iload i_L_law_259 rfl ?_
    refine v_iconst (v := 1) i_L_law_261 rfl ?_
    refine v_iadd i_L_law_262 ?_
    refine v_sld hX hb (j := i + 1) (nI_add i 1) (by omega) (by omega) i_L_law_263 ?_
    refine v_inv B i_L_law_264 kn_m_M_remove (c_M_remove B hZ2.2.1 hkp (by omega) (by obtain ⟨_, _, g1, _⟩ := hgd lat (Nat.le_refl _); exact g1) (fun p _ => by have := hL.2.1 p; omega) _ (ythere hm hlen (hgd lat (Nat.le_refl _)) (by omega) _).1 (fun hr hth => (yupd hL.1.1 ((tref_rfs hL).trans hr) _ _ false).2.2.2 (Or.inr (by rw [(ythere hm hlen (hgd lat (Nat.le_refl _)) (by omega) _).2.1]; exact Option.isSome_iff_exists.mp hth)))) hA.1 rfl rfl (Nat.le_of_ble_eq_true rfl) ⟨by decide, by decide, by show k + 300 + 0 ≤ 601024; omega, by show n + 4000 + 0 ≤ 7293034; omega⟩ rfl (fun r X3 hq3 => ?_) (fun _ _ h => False.elim h)
    obtain ⟨hd3, ⟨z3, rfl⟩, hsm⟩ := hq3
    have hth : thr pg made lat ro (xs (i + 1)) = decide (0 < (cgat pg made ro lat (xs (i + 1)) (xs (i + 1)) 2147483647).length) := by
      rcases (ythere hm hlen (hgd lat (Nat.le_refl _)) (by omega) (xs (i + 1))).2.2 with ⟨y1, y2⟩ | ⟨y, y1, y2⟩
      · show (gslot _ _ _).isSome = _; rw [y1, y2]; rfl
      · show (gslot _ _ _).isSome = _; rw [y1, y2]; rfl
    rw [decide_eq_true e3] at hth
    rw [tref_rfs hL] at e2
    rcases hd3 with ⟨w1, -⟩ | ⟨w1, w2, -⟩ | ⟨w1, w2, w3, -⟩ | ⟨w1, w2, w3, rz, hM3⟩
    · rw [e1] at w1; cases w1
    · rw [hth] at w2; cases w2
    · rw [e2] at w3; cases w3
    have hcode : (0 : Int32) = 0 := rfl
    have hLA := hL.next (o := (xs (i + 1), 0, false)) ht ⟨(tref_rfs hL).trans e2, Or.inr (by rw [(ythere hm hlen (hgd lat (Nat.le_refl _)) (by omega) (xs (i + 1))).2.1]; exact Option.isSome_iff_exists.mp hth)⟩
    have hout : vp_updL f' 0 z.toInt64 0 = z3.toInt64 := by
      cases er
      cases rz
      exact if_pos rfl
    obtain ⟨s3, I3, J3, hA3, hc3, -⟩ := id hM3
    refine v_istore i_L_law_267 (by decide) rfl ?_
    refine v_loc [(0, .ref b), (1, .ref x), (2, .ref (x + 25)), (3, .ref (x + 55)), (4, .int (nI i)), (5, .int 0), (6, .int z3)] rfl ?_
    exact end_remove B hA3 (hc3.trans hcode) z3 (hZ2.ref hsm hM3).2.2 (fun _ => hout) (by omega) (by omega) (K X3 ⟨_, _, _, _, _, _, _, _, _, _, _, hZ2.ref hsm hM3, hLA⟩)
  · -- S
    have hst := hq.2
    have e1 : D.2.2.2.2 = true := by
      rcases hq.1 with w | w | w
      · exact w.1
      · exact absurd w.2.2 (by decide)
      · exact absurd w.2.2.2 (by decide)
    have hZ2 := hZ.cls hst
    obtain ⟨s, I, J, hA, hcd, hT, hD⟩ := id hZ2.2.1
    have hb25 := hD.2.1.2.2.2.1
    have hl12 := hT.2.2.1
    refine v_istore i_L_law_255 (by decide) rfl ?_
    refine v_aload_n i_L_law_257 rfl ?_
    refine v_aload_n i_L_law_258 rfl ?_
    refine v_iload i_L_law_259 rfl ?_
    refine v_iconst (v := 1) i_L_law_261 rfl ?_
    refine v_iadd i_L_law_262 ?_
    refine v_sld hX hb (j := i + 1) (nI_add i 1) (by omega) (by omega) i_L_law_263 ?_
    refine v_inv B i_L_law_264 kn_m_M_remove (c_M_remove B hZ2.2.1 hkp (by omega) (by obtain ⟨_, _, g1, _⟩ := hgd lat (Nat.le_refl _); exact g1) (fun p _ => by have := hL.2.1 p; omega) _ (ythere hm hlen (hgd lat (Nat.le_refl _)) (by omega) _).1 (fun hr hth => (yupd hL.1.1 ((tref_rfs hL).trans hr) _ _ false).2.2.2 (Or.inr (by rw [(ythere hm hlen (hgd lat (Nat.le_refl _)) (by omega) _).2.1]; exact Option.isSome_iff_exists.mp hth)))) hA.1 rfl rfl (Nat.le_of_ble_eq_true rfl) ⟨by decide, by decide, by show k + 300 + 0 ≤ 601024; omega, by show n + 4000 + 0 ≤ 7293034; omega⟩ rfl (fun r X3 hq3 => ?_) (fun _ _ h => False.elim h)
    obtain ⟨hd3, ⟨z3, rfl⟩, hsm⟩ := hq3
    rcases hd3 with ⟨w1, hM3⟩ | ⟨w1, w2, -⟩ | ⟨w1, w2, w3, -⟩ | ⟨w1, w2, w3, rz, -⟩
    rotate_left
    · rw [e1] at w1; cases w1
    · rw [e1] at w1; cases w1
    · rw [e1] at w1; cases w1
    have hcode : (1 : Int32) = 1 := rfl
    have hLA := hL.more ht
    obtain ⟨s3, I3, J3, hA3, hc3, -⟩ := id hM3
    refine v_istore i_L_law_267 (by decide) rfl ?_
    refine v_loc [(0, .ref b), (1, .ref x), (2, .ref (x + 25)), (3, .ref (x + 55)), (4, .int (nI i)), (5, .int 1), (6, .int z3)] rfl ?_
    exact end_remove B hA3 (hc3.trans hcode) z3 (hZ2.ref hsm hM3).2.2 (fun q => absurd q (by decide)) (by omega) (by omega) (K X3 ⟨_, _, _, _, _, _, _, _, _, _, _, hZ2.ref hsm hM3, hLA⟩)
  · -- N
    have hst := hq.2
    have e1 : D.2.2.2.2 = false ∧ (cgat pg made ro lat (xs (i + 1)) (xs (i + 1)) 2147483647).length = 0 := by
      rcases hq.1 with w | w | w
      · exact absurd w.2 (by decide)
      · exact ⟨w.1, w.2.1⟩
      · exact absurd w.2.2.2 (by decide)
    have hZ2 := hZ.cls hst
    obtain ⟨s, I, J, hA, hcd, hT, hD⟩ := id hZ2.2.1
    have hb25 := hD.2.1.2.2.2.1
    have hl12 := hT.2.2.1
    refine v_istore i_L_law_255 (by decide) rfl ?_
    refine v_aload_n i_L_law_257 rfl ?_
    refine v_aload_n i_L_law_258 rfl ?_
    refine v_iload i_L_law_259 rfl ?_
    refine v_iconst (v := 1) i_L_law_261 rfl ?_
    refine v_iadd i_L_law_262 ?_
    refine v_sld hX hb (j := i + 1) (nI_add i 1) (by omega) (by omega) i_L_law_263 ?_
    refine v_inv B i_L_law_264 kn_m_M_remove (c_M_remove B hZ2.2.1 hkp (by omega) (by obtain ⟨_, _, g1, _⟩ := hgd lat (Nat.le_refl _); exact g1) (fun p _ => by have := hL.2.1 p; omega) _ (ythere hm hlen (hgd lat (Nat.le_refl _)) (by omega) _).1 (fun hr hth => (yupd hL.1.1 ((tref_rfs hL).trans hr) _ _ false).2.2.2 (Or.inr (by rw [(ythere hm hlen (hgd lat (Nat.le_refl _)) (by omega) _).2.1]; exact Option.isSome_iff_exists.mp hth)))) hA.1 rfl rfl (Nat.le_of_ble_eq_true rfl) ⟨by decide, by decide, by show k + 300 + 0 ≤ 601024; omega, by show n + 4000 + 0 ≤ 7293034; omega⟩ rfl (fun r X3 hq3 => ?_) (fun _ _ h => False.elim h)
    obtain ⟨hd3, ⟨z3, rfl⟩, hsm⟩ := hq3
    have hth : thr pg made lat ro (xs (i + 1)) = decide (0 < (cgat pg made ro lat (xs (i + 1)) (xs (i + 1)) 2147483647).length) := by
      rcases (ythere hm hlen (hgd lat (Nat.le_refl _)) (by omega) (xs (i + 1))).2.2 with ⟨y1, y2⟩ | ⟨y, y1, y2⟩
      · show (gslot _ _ _).isSome = _; rw [y1, y2]; rfl
      · show (gslot _ _ _).isSome = _; rw [y1, y2]; rfl
    rw [decide_eq_false (by omega)] at hth
    rcases hd3 with ⟨w1, -⟩ | ⟨w1, w2, hM3⟩ | ⟨w1, w2, w3, -⟩ | ⟨w1, w2, w3, rz, -⟩
    · rw [e1.1] at w1; cases w1
    rotate_left
    · rw [hth] at w2; cases w2
    · rw [hth] at w2; cases w2
    have hcode : (2 : Int32) = 2 := rfl
    have hLA := hL.more ht
    obtain ⟨s3, I3, J3, hA3, hc3, -⟩ := id hM3
    refine v_istore i_L_law_267 (by decide) rfl ?_
    refine v_loc [(0, .ref b), (1, .ref x), (2, .ref (x + 25)), (3, .ref (x + 55)), (4, .int (nI i)), (5, .int 2), (6, .int z3)] rfl ?_
    exact end_remove B hA3 (hc3.trans hcode) z3 (hZ2.ref hsm hM3).2.2 (fun q => absurd q (by decide)) (by omega) (by omega) (K X3 ⟨_, _, _, _, _, _, _, _, _, _, _, hZ2.ref hsm hM3, hLA⟩)
  · -- U
    have hst := hq.2
    have e1 : D.2.2.2.2 = false ∧ 0 < (cgat pg made ro lat (xs (i + 1)) (xs (i + 1)) 2147483647).length ∧ tref pg made lat ro = true := by
      rcases hq.1 with w | w | w
      · exact absurd w.2 (by decide)
      · exact absurd w.2.2 (by decide)
      · exact ⟨w.1, w.2.1, w.2.2.1⟩
    have hZ2 := hZ.cls hst
    obtain ⟨s, I, J, hA, hcd, hT, hD⟩ := id hZ2.2.1
    have hb25 := hD.2.1.2.2.2.1
    have hl12 := hT.2.2.1
    refine v_istore i_L_law_255 (by decide) rfl ?_
    refine v_aload_n i_L_law_257 rfl ?_
    refine v_aload_n i_L_law_258 rfl ?_
    refine v_iload i_L_law_259 rfl ?_
    refine v_iconst (v := 1) i_L_law_261 rfl ?_
    refine v_iadd i_L_law_262 ?_
    refine v_sld hX hb (j := i + 1) (nI_add i 1) (by omega) (by omega) i_L_law_263 ?_
    refine v_inv B i_L_law_264 kn_m_M_remove (c_M_remove B hZ2.2.1 hkp (by omega) (by obtain ⟨_, _, g1, _⟩ := hgd lat (Nat.le_refl _); exact g1) (fun p _ => by have := hL.2.1 p; omega) _ (ythere hm hlen (hgd lat (Nat.le_refl _)) (by omega) _).1 (fun hr hth => (yupd hL.1.1 ((tref_rfs hL).trans hr) _ _ false).2.2.2 (Or.inr (by rw [(ythere hm hlen (hgd lat (Nat.le_refl _)) (by omega) _).2.1]; exact Option.isSome_iff_exists.mp hth)))) hA.1 rfl rfl (Nat.le_of_ble_eq_true rfl) ⟨by decide, by decide, by show k + 300 + 0 ≤ 601024; omega, by show n + 4000 + 0 ≤ 7293034; omega⟩ rfl (fun r X3 hq3 => ?_) (fun _ _ h => False.elim h)
    obtain ⟨hd3, ⟨z3, rfl⟩, hsm⟩ := hq3
    have hth : thr pg made lat ro (xs (i + 1)) = decide (0 < (cgat pg made ro lat (xs (i + 1)) (xs (i + 1)) 2147483647).length) := by
      rcases (ythere hm hlen (hgd lat (Nat.le_refl _)) (by omega) (xs (i + 1))).2.2 with ⟨y1, y2⟩ | ⟨y, y1, y2⟩
      · show (gslot _ _ _).isSome = _; rw [y1, y2]; rfl
      · show (gslot _ _ _).isSome = _; rw [y1, y2]; rfl
    rw [decide_eq_true e1.2.1] at hth
    rw [tref_rfs hL] at e1
    rcases hd3 with ⟨w1, -⟩ | ⟨w1, w2, -⟩ | ⟨w1, w2, w3, hM3⟩ | ⟨w1, w2, w3, rz, -⟩
    · rw [e1.1] at w1; cases w1
    · rw [hth] at w2; cases w2
    rotate_left
    · rw [e1.2.2] at w3; cases w3
    have hcode : (3 : Int32) = 3 := rfl
    have hLA := hL.more ht
    obtain ⟨s3, I3, J3, hA3, hc3, -⟩ := id hM3
    refine v_istore i_L_law_267 (by decide) rfl ?_
    refine v_loc [(0, .ref b), (1, .ref x), (2, .ref (x + 25)), (3, .ref (x + 55)), (4, .int (nI i)), (5, .int 3), (6, .int z3)] rfl ?_
    exact end_remove B hA3 (hc3.trans hcode) z3 (hZ2.ref hsm hM3).2.2 (fun q => absurd q (by decide)) (by omega) (by omega) (K X3 ⟨_, _, _, _, _, _, _, _, _, _, _, hZ2.ref hsm hM3, hLA⟩)
theorem law_sync (B : qB l s0 C) (hX : va_X b N xs s0 s0.heap) (hb : b < s0.heap.size) (hN : N ≤ 2048) (hi : i + 4 ≤ N) (h : LR X x t) (ht : t + 1 ≤ 512) (hk : k + 300 ≤ 601024) (hn : n + 4000 ≤ 7293034)
    (K : ∀ X', LR X' x (t + 1) → qV l s0 C m_L_law rmW Qp Ep (k + 300) (n + 4000) X' 1487 [(0, .ref b), (1, .ref x), (2, .ref (x + 25)), (3, .ref (x + 55)), (4, .int (nI i))] []) : qV l s0 C m_L_law rmW Qp Ep k n X 1203 [(0, .ref b), (1, .ref x), (2, .ref (x + 25)), (3, .ref (x + 55)), (4, .int (nI i))] [] := by
  obtain ⟨pg, made, lat, ro, db, D, pgK, madeK, op, cd, f, hZ, hL⟩ := h
  obtain ⟨hm, hlen, hgd⟩ := hL.len
  have hx := hZ.1.obj
  have hl5 : lat ≤ 512 := by have := hL.2.2.2.1; have := hL.2.2.2.2.1; omega
  have hkp := hL.kp
  refine v_aload_n i_L_law_1203 rfl ?_
  refine v_aload_n i_L_law_1204 rfl ?_
  refine v_invS B i_L_law_1205 kn_m_L_sync (c_L_sync (x := x) (o := x + 55) B  (c_P_sync B hZ.1 hL.2.2.2.2.2.2.1) hx (fun r X' h => by obtain ⟨e1, e2, e3, er, hst⟩ := h; exact ⟨⟨_, er⟩, _, (hZ.cls hst).2.2⟩) (fun e X' h => by rcases h with w | w | w; exact Or.inl w.2.1; exact Or.inr w.2.2.1; exact Or.inl w.2.2.2.1)) rfl rfl (Nat.le_of_ble_eq_true rfl) ⟨by decide, by decide, by show k + 300 ≤ 601024; omega, by show n + 4000 ≤ 7293034; omega⟩ rfl (fun r X2 hq => ?_) (fun _ _ h => False.elim h)
  rcases hq with ⟨z, X', f', hq, hf', rfl, rfl⟩ | ⟨hq, rfl⟩ | ⟨hq, rfl⟩
  · -- ok
    obtain ⟨e1, e2, e3, er, hst⟩ := hq
    have hZ2 := (hZ.cls hst).out (vp_updL f' 0 (z.toInt64))
    obtain ⟨s, I, J, hA, hcd, hT, hD⟩ := id hZ2.2.1
    have hb25 := hD.2.1.2.2.2.1
    have hl12 := hT.2.2.1
    refine v_istore i_L_law_1208 (by decide) rfl ?_
    refine v_aload_n i_L_law_1210 rfl ?_
    refine v_inv B i_L_law_1211 kn_m_M_sync (c_M_sync B hZ2.2.1) hA.1 rfl rfl (Nat.le_of_ble_eq_true rfl) ⟨by decide, by decide, by show k + 300 + 0 ≤ 601024; omega, by show n + 4000 + 0 ≤ 7293034; omega⟩ rfl (fun r X3 hq3 => ?_) (fun _ _ h => False.elim h)
    obtain ⟨hd3, ⟨z3, rfl⟩, hsm⟩ := hq3
    rcases hd3 with ⟨w1, -⟩ | ⟨w1, w2, -⟩ | ⟨w1, w2, w3, -⟩ | ⟨w1, w2, w3, rz, hM3⟩
    · rw [e1] at w1; cases w1
    · exact absurd e2 w2
    · rw [e3] at w3; cases w3
    have hcode : (0 : Int32) = 0 := rfl
    have hLA := hL.disk ht (dws_kp _ _ _ _) hM3.low
    have hout : vp_updL f' 0 z.toInt64 0 = z3.toInt64 := by
      cases er
      cases rz
      exact if_pos rfl
    obtain ⟨s3, I3, J3, hA3, hc3, -⟩ := id hM3
    refine v_istore i_L_law_1214 (by decide) rfl ?_
    refine v_loc [(0, .ref b), (1, .ref x), (2, .ref (x + 25)), (3, .ref (x + 55)), (4, .int (nI i)), (5, .int 0), (6, .int z3)] rfl ?_
    exact end_sync B hA3 (hc3.trans hcode) z3 (hZ2.ref hsm hM3).2.2 (fun _ => hout) (by omega) (by omega) (K X3 ⟨_, _, _, _, _, _, _, _, _, _, _, hZ2.ref hsm hM3, hLA⟩)
  · -- S
    rcases hq with ⟨e1, -, hst⟩ | ⟨-, -, e9, -⟩ | ⟨e1, e2, e3, -, hst⟩
    · have hZ2 := hZ.cls hst
      obtain ⟨s, I, J, hA, hcd, hT, hD⟩ := id hZ2.2.1
      have hb25 := hD.2.1.2.2.2.1
      have hl12 := hT.2.2.1
      refine v_istore i_L_law_1208 (by decide) rfl ?_
      refine v_aload_n i_L_law_1210 rfl ?_
      refine v_inv B i_L_law_1211 kn_m_M_sync (c_M_sync B hZ2.2.1) hA.1 rfl rfl (Nat.le_of_ble_eq_true rfl) ⟨by decide, by decide, by show k + 300 + 0 ≤ 601024; omega, by show n + 4000 + 0 ≤ 7293034; omega⟩ rfl (fun r X3 hq3 => ?_) (fun _ _ h => False.elim h)
      obtain ⟨hd3, ⟨z3, rfl⟩, hsm⟩ := hq3
      rcases hd3 with ⟨w1, hM3⟩ | ⟨w1, w2, -⟩ | ⟨w1, w2, w3, -⟩ | ⟨w1, w2, w3, rz, -⟩
      rotate_left
      · rw [e1] at w1; cases w1
      · rw [e1] at w1; cases w1
      · rw [e1] at w1; cases w1
      have hcode : (1 : Int32) = 1 := rfl
      have hLA := hL.more ht
      obtain ⟨s3, I3, J3, hA3, hc3, -⟩ := id hM3
      refine v_istore i_L_law_1214 (by decide) rfl ?_
      refine v_loc [(0, .ref b), (1, .ref x), (2, .ref (x + 25)), (3, .ref (x + 55)), (4, .int (nI i)), (5, .int 1), (6, .int z3)] rfl ?_
      exact end_sync B hA3 (hc3.trans hcode) z3 (hZ2.ref hsm hM3).2.2 (fun q => absurd q (by decide)) (by omega) (by omega) (K X3 ⟨_, _, _, _, _, _, _, _, _, _, _, hZ2.ref hsm hM3, hLA⟩)
    · exact absurd e9 (by decide)
    · have hZ2 := hZ.cls hst
      obtain ⟨s, I, J, hA, hcd, hT, hD⟩ := id hZ2.2.1
      have hb25 := hD.2.1.2.2.2.1
      have hl12 := hT.2.2.1
      refine v_istore i_L_law_1208 (by decide) rfl ?_
      refine v_aload_n i_L_law_1210 rfl ?_
      refine v_inv B i_L_law_1211 kn_m_M_sync (c_M_sync B hZ2.2.1) hA.1 rfl rfl (Nat.le_of_ble_eq_true rfl) ⟨by decide, by decide, by show k + 300 + 0 ≤ 601024; omega, by show n + 4000 + 0 ≤ 7293034; omega⟩ rfl (fun r X3 hq3 => ?_) (fun _ _ h => False.elim h)
      obtain ⟨hd3, ⟨z3, rfl⟩, hsm⟩ := hq3
      rcases hd3 with ⟨w1, -⟩ | ⟨w1, w2, -⟩ | ⟨w1, w2, w3, hM3⟩ | ⟨w1, w2, w3, rz, -⟩
      · rw [e1] at w1; cases w1
      · exact absurd e2 w2
      rotate_left
      · rw [e3] at w3; cases w3
      have hcode : (1 : Int32) = 1 := rfl
      have hLA := hL.disk ht (dws_kp _ _ _ _) hM3.low
      obtain ⟨s3, I3, J3, hA3, hc3, -⟩ := id hM3
      refine v_istore i_L_law_1214 (by decide) rfl ?_
      refine v_loc [(0, .ref b), (1, .ref x), (2, .ref (x + 25)), (3, .ref (x + 55)), (4, .int (nI i)), (5, .int 1), (6, .int z3)] rfl ?_
      exact end_sync B hA3 (hc3.trans hcode) z3 (hZ2.ref hsm hM3).2.2 (fun q => absurd q (by decide)) (by omega) (by omega) (K X3 ⟨_, _, _, _, _, _, _, _, _, _, _, hZ2.ref hsm hM3, hLA⟩)
  · -- U
    rcases hq with ⟨-, e9, -⟩ | ⟨e1, e2, -, hst⟩ | ⟨-, -, -, e9, -⟩
    · exact absurd e9 (by decide)
    · have hZ2 := hZ.cls hst
      obtain ⟨s, I, J, hA, hcd, hT, hD⟩ := id hZ2.2.1
      have hb25 := hD.2.1.2.2.2.1
      have hl12 := hT.2.2.1
      refine v_istore i_L_law_1208 (by decide) rfl ?_
      refine v_aload_n i_L_law_1210 rfl ?_
      refine v_inv B i_L_law_1211 kn_m_M_sync (c_M_sync B hZ2.2.1) hA.1 rfl rfl (Nat.le_of_ble_eq_true rfl) ⟨by decide, by decide, by show k + 300 + 0 ≤ 601024; omega, by show n + 4000 + 0 ≤ 7293034; omega⟩ rfl (fun r X3 hq3 => ?_) (fun _ _ h => False.elim h)
      obtain ⟨hd3, ⟨z3, rfl⟩, hsm⟩ := hq3
      rcases hd3 with ⟨w1, -⟩ | ⟨w1, w2, hM3⟩ | ⟨w1, w2, w3, -⟩ | ⟨w1, w2, w3, rz, -⟩
      · rw [e1] at w1; cases w1
      rotate_left
      · exact absurd w2 e2
      · exact absurd w2 e2
      have hcode : (2 : Int32) = 2 := rfl
      have hLA := hL.more ht
      obtain ⟨s3, I3, J3, hA3, hc3, -⟩ := id hM3
      refine v_istore i_L_law_1214 (by decide) rfl ?_
      refine v_loc [(0, .ref b), (1, .ref x), (2, .ref (x + 25)), (3, .ref (x + 55)), (4, .int (nI i)), (5, .int 2), (6, .int z3)] rfl ?_
      exact end_sync B hA3 (hc3.trans hcode) z3 (hZ2.ref hsm hM3).2.2 (fun q => absurd q (by decide)) (by omega) (by omega) (K X3 ⟨_, _, _, _, _, _, _, _, _, _, _, hZ2.ref hsm hM3, hLA⟩)
    · exact absurd e9 (by decide)
theorem dck_kp {D : Dk} {dirty lat : Nat} (hd : D.2.2.2.2 = false) (h : (dck D dirty lat).2.2.2.2.2 = true) : (dck D dirty lat).2.2.2.1 = D.2.2.1 := by
  obtain ⟨a, b⟩ := dck_dwn D dirty lat
  obtain ⟨-, f2, f3, -⟩ := dwn_fix (dirty + 1) D
  cases hq : (dwn (dirty + 1) D).1
  · rw [b hq]; exact f2
  · rw [a hq] at h
    have h9 := f3 hq
    rw [hd] at h9
    exact absurd (h.symm.trans h9) (by decide)
theorem LA.kept {pg : Nat → Pg} {made lat : Nat} {ro : Nat → Nat} {db : Nat} {D D' : Dk} {pgK : Nat → Pg} {madeK : Nat} {op : Nat → Int32 × Int64 × Bool} (h : LA pg made lat ro db D pgK madeK op t) (ht : t + 1 ≤ 512) (hk : D'.2.2.1 = lat) (hl : dlat D' ≤ lat) : LA pg made lat ro db D' pg made op (t + 1) := by
  obtain ⟨a, b, c, d, e, f, g, i⟩ := h
  exact ⟨a, b, b, by omega, ht, f, hl, by rw [hk]; exact yTr_cl a.1⟩
theorem LA.back {pg : Nat → Pg} {made lat : Nat} {ro : Nat → Nat} {db : Nat} {D : Dk} {pgK : Nat → Pg} {madeK : Nat} {op : Nat → Int32 × Int64 × Bool} (h : LA pg made lat ro db D pgK madeK op t) (ht : t + 1 ≤ 512) :
    LA (yTp pg made (dlat (dup D))) (yTm pg made (dlat (dup D))) (dlat (dup D)) ro (min db (dlat (dup D) + 1)) (dup D) pgK madeK op (t + 1) := by
  obtain ⟨a, b, c, d, e, f, g, i⟩ := h
  have h1 := dup_le D
  have h2 : D.2.2.1 ≤ dlat (dup D) := by rw [dup_lat]; omega
  exact ⟨a.back (by omega), b.bk _ _, c, by omega, ht, by omega, Nat.le_refl _, (yTr_tr h2).trans i⟩
theorem LA.again {pg : Nat → Pg} {made lat : Nat} {ro : Nat → Nat} {db : Nat} {D : Dk} {pgK : Nat → Pg} {madeK : Nat} {op : Nat → Int32 × Int64 × Bool} (h : LA pg made lat ro db D pgK madeK op t) :
    yAg (yR pgK madeK D.2.2.1 ro op (dlat (dup D) - D.2.2.1)).1 (yR pgK madeK D.2.2.1 ro op (dlat (dup D) - D.2.2.1)).2.1 (dlat (dup D)) (yR pgK madeK D.2.2.1 ro op (dlat (dup D) - D.2.2.1)).2.2 (yTp pg made (dlat (dup D))) (yTm pg made (dlat (dup D))) ro := by
  obtain ⟨a, b, c, d, e, f, g, i⟩ := h
  have h1 := dup_le D
  have h2 : D.2.2.1 ≤ dlat (dup D) := by rw [dup_lat]; omega
  have h3 := (yR_ag a i c (dlat (dup D) - D.2.2.1) (by omega)).1
  rw [show D.2.2.1 + (dlat (dup D) - D.2.2.1) = dlat (dup D) by omega] at h3
  exact h3.symm
theorem law_checkpoint (B : qB l s0 C) (hX : va_X b N xs s0 s0.heap) (hb : b < s0.heap.size) (hN : N ≤ 2048) (hi : i + 4 ≤ N) (h : LR X x t) (ht : t + 1 ≤ 512) (hk : k + 300 ≤ 601024) (hn : n + 4000 ≤ 7293034)
    (K : ∀ X', LR X' x (t + 1) → qV l s0 C m_L_law rmW Qp Ep (k + 300) (n + 4000) X' 1487 [(0, .ref b), (1, .ref x), (2, .ref (x + 25)), (3, .ref (x + 55)), (4, .int (nI i))] []) : qV l s0 C m_L_law rmW Qp Ep k n X 1247 [(0, .ref b), (1, .ref x), (2, .ref (x + 25)), (3, .ref (x + 55)), (4, .int (nI i))] [] := by
  obtain ⟨pg, made, lat, ro, db, D, pgK, madeK, op, cd, f, hZ, hL⟩ := h
  obtain ⟨hm, hlen, hgd⟩ := hL.len
  have hx := hZ.1.obj
  have hl5 : lat ≤ 512 := by have := hL.2.2.2.1; have := hL.2.2.2.2.1; omega
  have hkp := hL.kp
  refine v_aload_n i_L_law_1247 rfl ?_
  refine v_aload_n i_L_law_1248 rfl ?_
  refine v_invS B i_L_law_1249 kn_m_L_checkpoint (c_L_checkpoint (x := x) (o := x + 55) B  (c_P_checkpoint B hZ.1) hx (fun r X' h => by obtain ⟨e1, e2, er, hst⟩ := h; exact ⟨⟨_, er⟩, _, (hZ.cls hst).2.2⟩) (fun e X' h => by rcases h with w | w; exact w.2.1; exact w.2.2.1)) rfl rfl (Nat.le_of_ble_eq_true rfl) ⟨by decide, by decide, by show k + 300 ≤ 601024; omega, by show n + 4000 ≤ 7293034; omega⟩ rfl (fun r X2 hq => ?_) (fun _ _ h => False.elim h)
  rcases hq with ⟨z, X', f', hq, hf', rfl, rfl⟩ | ⟨hq, rfl⟩
  · -- ok
    obtain ⟨e1, e2, er, hst⟩ := hq
    have hZ2 := (hZ.cls hst).out (vp_updL f' 0 (z.toInt64))
    obtain ⟨s, I, J, hA, hcd, hT, hD⟩ := id hZ2.2.1
    have hb25 := hD.2.1.2.2.2.1
    have hl12 := hT.2.2.1
    refine v_istore i_L_law_1252 (by decide) rfl ?_
    refine v_aload_n i_L_law_1254 rfl ?_
    refine v_inv B i_L_law_1255 kn_m_M_checkpoint (c_M_checkpoint B hZ2.2.1 (fun p hp => gchg_cl (hL.1.1.2.2.1 p hp).1)) hA.1 rfl rfl (Nat.le_of_ble_eq_true rfl) ⟨by decide, by decide, by show k + 300 + 0 ≤ 601024; omega, by show n + 4000 + 0 ≤ 7293034; omega⟩ rfl (fun r X3 hq3 => ?_) (fun _ _ h => False.elim h)
    obtain ⟨hd3, ⟨z3, rfl⟩, hsm⟩ := hq3
    rcases hd3 with ⟨w1, -⟩ | ⟨w1, w2, -⟩ | ⟨w1, w2, rz, w4, w5, hM3⟩
    · rw [e1] at w1; cases w1
    · rw [e2] at w2; cases w2
    have hcode : (0 : Int32) = 0 := rfl
    have hLA := hL.kept ht w5 hM3.low
    have hout : vp_updL f' 0 z.toInt64 0 = z3.toInt64 := by
      cases er
      cases rz
      exact if_pos rfl
    obtain ⟨s3, I3, J3, hA3, hc3, -⟩ := id hM3
    refine v_istore i_L_law_1258 (by decide) rfl ?_
    refine v_loc [(0, .ref b), (1, .ref x), (2, .ref (x + 25)), (3, .ref (x + 55)), (4, .int (nI i)), (5, .int 0), (6, .int z3)] rfl ?_
    exact end_checkpoint B hA3 (hc3.trans hcode) z3 (hZ2.ref hsm hM3).2.2 (fun _ => hout) (by omega) (by omega) (K X3 ⟨_, _, _, _, _, _, _, _, _, _, _, hZ2.ref hsm hM3, hLA⟩)
  · -- S
    rcases hq with ⟨e1, -, hst⟩ | ⟨e1, e2, -, hst⟩
    · have hZ2 := hZ.cls hst
      obtain ⟨s, I, J, hA, hcd, hT, hD⟩ := id hZ2.2.1
      have hb25 := hD.2.1.2.2.2.1
      have hl12 := hT.2.2.1
      refine v_istore i_L_law_1252 (by decide) rfl ?_
      refine v_aload_n i_L_law_1254 rfl ?_
      refine v_inv B i_L_law_1255 kn_m_M_checkpoint (c_M_checkpoint B hZ2.2.1 (fun p hp => gchg_cl (hL.1.1.2.2.1 p hp).1)) hA.1 rfl rfl (Nat.le_of_ble_eq_true rfl) ⟨by decide, by decide, by show k + 300 + 0 ≤ 601024; omega, by show n + 4000 + 0 ≤ 7293034; omega⟩ rfl (fun r X3 hq3 => ?_) (fun _ _ h => False.elim h)
      obtain ⟨hd3, ⟨z3, rfl⟩, hsm⟩ := hq3
      rcases hd3 with ⟨w1, hM3⟩ | ⟨w1, w2, -⟩ | ⟨w1, w2, rz, -⟩
      rotate_left
      · rw [e1] at w1; cases w1
      · rw [e1] at w1; cases w1
      have hcode : (1 : Int32) = 1 := rfl
      have hLA := hL.more ht
      obtain ⟨s3, I3, J3, hA3, hc3, -⟩ := id hM3
      refine v_istore i_L_law_1258 (by decide) rfl ?_
      refine v_loc [(0, .ref b), (1, .ref x), (2, .ref (x + 25)), (3, .ref (x + 55)), (4, .int (nI i)), (5, .int 1), (6, .int z3)] rfl ?_
      exact end_checkpoint B hA3 (hc3.trans hcode) z3 (hZ2.ref hsm hM3).2.2 (fun q => absurd q (by decide)) (by omega) (by omega) (K X3 ⟨_, _, _, _, _, _, _, _, _, _, _, hZ2.ref hsm hM3, hLA⟩)
    · have hZ2 := hZ.cls hst
      obtain ⟨s, I, J, hA, hcd, hT, hD⟩ := id hZ2.2.1
      have hb25 := hD.2.1.2.2.2.1
      have hl12 := hT.2.2.1
      refine v_istore i_L_law_1252 (by decide) rfl ?_
      refine v_aload_n i_L_law_1254 rfl ?_
      refine v_inv B i_L_law_1255 kn_m_M_checkpoint (c_M_checkpoint B hZ2.2.1 (fun p hp => gchg_cl (hL.1.1.2.2.1 p hp).1)) hA.1 rfl rfl (Nat.le_of_ble_eq_true rfl) ⟨by decide, by decide, by show k + 300 + 0 ≤ 601024; omega, by show n + 4000 + 0 ≤ 7293034; omega⟩ rfl (fun r X3 hq3 => ?_) (fun _ _ h => False.elim h)
      obtain ⟨hd3, ⟨z3, rfl⟩, hsm⟩ := hq3
      rcases hd3 with ⟨w1, -⟩ | ⟨w1, w2, hM3⟩ | ⟨w1, w2, rz, -⟩
      · rw [e1] at w1; cases w1
      rotate_left
      · rw [e2] at w2; cases w2
      have hcode : (1 : Int32) = 1 := rfl
      have hLA := hL.disk ht (dck_kp e1 e2) hM3.low
      obtain ⟨s3, I3, J3, hA3, hc3, -⟩ := id hM3
      refine v_istore i_L_law_1258 (by decide) rfl ?_
      refine v_loc [(0, .ref b), (1, .ref x), (2, .ref (x + 25)), (3, .ref (x + 55)), (4, .int (nI i)), (5, .int 1), (6, .int z3)] rfl ?_
      exact end_checkpoint B hA3 (hc3.trans hcode) z3 (hZ2.ref hsm hM3).2.2 (fun q => absurd q (by decide)) (by omega) (by omega) (K X3 ⟨_, _, _, _, _, _, _, _, _, _, _, hZ2.ref hsm hM3, hLA⟩)
theorem law_cut (B : qB l s0 C) (hX : va_X b N xs s0 s0.heap) (hb : b < s0.heap.size) (hN : N ≤ 2048) (hi : i + 4 ≤ N) (h : LR X x t) (ht : t + 1 ≤ 512) (hk : k + 300 ≤ 601024) (hn : n + 4000 ≤ 7293034)
    (K : ∀ X', LR X' x (t + 1) → qV l s0 C m_L_law rmW Qp Ep (k + 300) (n + 4000) X' 1487 [(0, .ref b), (1, .ref x), (2, .ref (x + 25)), (3, .ref (x + 55)), (4, .int (nI i))] []) : qV l s0 C m_L_law rmW Qp Ep k n X 1291 [(0, .ref b), (1, .ref x), (2, .ref (x + 25)), (3, .ref (x + 55)), (4, .int (nI i))] [] := by
  obtain ⟨pg, made, lat, ro, db, D, pgK, madeK, op, cd, f, hZ, hL⟩ := h
  obtain ⟨hm, hlen, hgd⟩ := hL.len
  have hx := hZ.1.obj
  have hl5 : lat ≤ 512 := by have := hL.2.2.2.1; have := hL.2.2.2.2.1; omega
  have hkp := hL.kp
  refine v_aload_n i_L_law_1291 rfl ?_
  refine v_aload_n i_L_law_1292 rfl ?_
  refine v_iload i_L_law_1293 rfl ?_
  refine v_iconst (v := 1) i_L_law_1295 rfl ?_
  refine v_iadd i_L_law_1296 ?_
  refine v_sld hX hb (j := i + 1) (nI_add i 1) (by omega) (by omega) i_L_law_1297 ?_
  refine v_invS B i_L_law_1298 kn_m_L_cut (c_L_cut (x := x) B _ (c_P_cut B hZ.1 _) hx (fun r X' h => by obtain ⟨e1, e2, er, hst⟩ := h; exact er) (fun e X' h => by rcases h.1 with w | w; exact Or.inl w.2; exact Or.inr w.2.2)) rfl rfl (Nat.le_of_ble_eq_true rfl) ⟨by decide, by decide, by show k + 300 ≤ 601024; omega, by show n + 4000 ≤ 7293034; omega⟩ rfl (fun r X2 hq => ?_) (fun _ _ h => False.elim h)
  rcases hq with ⟨hq, rfl⟩ | ⟨hq, rfl⟩ | ⟨hq, rfl⟩
  · -- ok
    obtain ⟨e1, e2, er, hst⟩ := hq
    have hZ2 := hZ.cls hst
    obtain ⟨s, I, J, hA, hcd, hT, hD⟩ := id hZ2.2.1
    have hb25 := hD.2.1.2.2.2.1
    have hl12 := hT.2.2.1
    refine v_istore i_L_law_1301 (by decide) rfl ?_
    refine v_aload_n i_L_law_1303 rfl ?_
    refine v_aload_n i_L_law_1304 rfl ?_
    refine v_iload i_L_law_1305 rfl ?_
    refine v_iconst (v := 1) i_L_law_1307 rfl ?_
    refine v_iadd i_L_law_1308 ?_
    refine v_sld hX hb (j := i + 1) (nI_add i 1) (by omega) (by omega) i_L_law_1309 ?_
    refine v_inv B i_L_law_1310 kn_m_M_cut (c_M_cutR B hZ2.2.1 _) hA.1 rfl rfl (Nat.le_of_ble_eq_true rfl) ⟨by decide, by decide, by show k + 300 + 0 ≤ 601024; omega, by show n + 4000 + 0 ≤ 7293034; omega⟩ rfl (fun r X3 hq3 => ?_) (fun _ _ h => False.elim h)
    obtain ⟨rfl, hd3, hsm⟩ := hq3
    rcases hd3 with ⟨w1, -⟩ | ⟨w1, w2, -⟩ | ⟨w1, w2, hM3⟩
    · rw [e1] at w1; cases w1
    · exact absurd w2 e2
    have hcode : (0 : Int32) = 0 := rfl
    have hLA := hL.disk (D' := (D.1, D.2.1, D.2.2.1, ccut (xs (i + 1)), D.2.2.2.2)) ht rfl hM3.low
    obtain ⟨s3, I3, J3, hA3, hc3, -⟩ := id hM3
    refine v_loc [(0, .ref b), (1, .ref x), (2, .ref (x + 25)), (3, .ref (x + 55)), (4, .int (nI i)), (5, .int 0)] rfl ?_
    exact end_cut B hA3 (hc3.trans hcode) (by omega) (by omega) (K X3 ⟨_, _, _, _, _, _, _, _, _, _, _, hZ2.ref hsm hM3, hLA⟩)
  · -- S
    have hst := hq.2
    have e1 : D.2.2.2.2 = true := by
      rcases hq.1 with w | w
      · exact w.1
      · exact absurd w.2.2 (by decide)
    have hZ2 := hZ.cls hst
    obtain ⟨s, I, J, hA, hcd, hT, hD⟩ := id hZ2.2.1
    have hb25 := hD.2.1.2.2.2.1
    have hl12 := hT.2.2.1
    refine v_istore i_L_law_1301 (by decide) rfl ?_
    refine v_aload_n i_L_law_1303 rfl ?_
    refine v_aload_n i_L_law_1304 rfl ?_
    refine v_iload i_L_law_1305 rfl ?_
    refine v_iconst (v := 1) i_L_law_1307 rfl ?_
    refine v_iadd i_L_law_1308 ?_
    refine v_sld hX hb (j := i + 1) (nI_add i 1) (by omega) (by omega) i_L_law_1309 ?_
    refine v_inv B i_L_law_1310 kn_m_M_cut (c_M_cutR B hZ2.2.1 _) hA.1 rfl rfl (Nat.le_of_ble_eq_true rfl) ⟨by decide, by decide, by show k + 300 + 0 ≤ 601024; omega, by show n + 4000 + 0 ≤ 7293034; omega⟩ rfl (fun r X3 hq3 => ?_) (fun _ _ h => False.elim h)
    obtain ⟨rfl, hd3, hsm⟩ := hq3
    rcases hd3 with ⟨w1, hM3⟩ | ⟨w1, w2, -⟩ | ⟨w1, w2, -⟩
    rotate_left
    · rw [e1] at w1; cases w1
    · rw [e1] at w1; cases w1
    have hcode : (1 : Int32) = 1 := rfl
    have hLA := hL.more ht
    obtain ⟨s3, I3, J3, hA3, hc3, -⟩ := id hM3
    refine v_loc [(0, .ref b), (1, .ref x), (2, .ref (x + 25)), (3, .ref (x + 55)), (4, .int (nI i)), (5, .int 1)] rfl ?_
    exact end_cut B hA3 (hc3.trans hcode) (by omega) (by omega) (K X3 ⟨_, _, _, _, _, _, _, _, _, _, _, hZ2.ref hsm hM3, hLA⟩)
  · -- A
    have hst := hq.2
    have e1 : D.2.2.2.2 = false ∧ xs (i + 1) < -1 := by
      rcases hq.1 with w | w
      · exact absurd w.2 (by decide)
      · exact ⟨w.1, w.2.1⟩
    have hZ2 := hZ.cls hst
    obtain ⟨s, I, J, hA, hcd, hT, hD⟩ := id hZ2.2.1
    have hb25 := hD.2.1.2.2.2.1
    have hl12 := hT.2.2.1
    refine v_istore i_L_law_1301 (by decide) rfl ?_
    refine v_aload_n i_L_law_1303 rfl ?_
    refine v_aload_n i_L_law_1304 rfl ?_
    refine v_iload i_L_law_1305 rfl ?_
    refine v_iconst (v := 1) i_L_law_1307 rfl ?_
    refine v_iadd i_L_law_1308 ?_
    refine v_sld hX hb (j := i + 1) (nI_add i 1) (by omega) (by omega) i_L_law_1309 ?_
    refine v_inv B i_L_law_1310 kn_m_M_cut (c_M_cutR B hZ2.2.1 _) hA.1 rfl rfl (Nat.le_of_ble_eq_true rfl) ⟨by decide, by decide, by show k + 300 + 0 ≤ 601024; omega, by show n + 4000 + 0 ≤ 7293034; omega⟩ rfl (fun r X3 hq3 => ?_) (fun _ _ h => False.elim h)
    obtain ⟨rfl, hd3, hsm⟩ := hq3
    rcases hd3 with ⟨w1, -⟩ | ⟨w1, w2, hM3⟩ | ⟨w1, w2, -⟩
    · rw [e1.1] at w1; cases w1
    rotate_left
    · exact absurd e1.2 w2
    have hcode : (2 : Int32) = 2 := rfl
    have hLA := hL.more ht
    obtain ⟨s3, I3, J3, hA3, hc3, -⟩ := id hM3
    refine v_loc [(0, .ref b), (1, .ref x), (2, .ref (x + 25)), (3, .ref (x + 55)), (4, .int (nI i)), (5, .int 2)] rfl ?_
    exact end_cut B hA3 (hc3.trans hcode) (by omega) (by omega) (K X3 ⟨_, _, _, _, _, _, _, _, _, _, _, hZ2.ref hsm hM3, hLA⟩)
theorem law_down (B : qB l s0 C) (hX : va_X b N xs s0 s0.heap) (hb : b < s0.heap.size) (hN : N ≤ 2048) (hi : i + 4 ≤ N) (h : LR X x t) (ht : t + 1 ≤ 512) (hk : k + 300 ≤ 601024) (hn : n + 4000 ≤ 7293034)
    (K : ∀ X', LR X' x (t + 1) → qV l s0 C m_L_law rmW Qp Ep (k + 300) (n + 4000) X' 1487 [(0, .ref b), (1, .ref x), (2, .ref (x + 25)), (3, .ref (x + 55)), (4, .int (nI i))] []) : qV l s0 C m_L_law rmW Qp Ep k n X 1327 [(0, .ref b), (1, .ref x), (2, .ref (x + 25)), (3, .ref (x + 55)), (4, .int (nI i))] [] := by
  obtain ⟨pg, made, lat, ro, db, D, pgK, madeK, op, cd, f, hZ, hL⟩ := h
  obtain ⟨hm, hlen, hgd⟩ := hL.len
  have hx := hZ.1.obj
  have hl5 : lat ≤ 512 := by have := hL.2.2.2.1; have := hL.2.2.2.2.1; omega
  have hkp := hL.kp
  refine v_aload_n i_L_law_1327 rfl ?_
  refine v_invS B i_L_law_1328 kn_m_L_down (c_L_down (x := x) B  (c_P_down B hZ.1) hx (fun r X' h => by obtain ⟨e1, er, hst⟩ := h; exact er) (fun e X' h => by exact h.2.1)) rfl rfl (Nat.le_of_ble_eq_true rfl) ⟨by decide, by decide, by show k + 300 ≤ 601024; omega, by show n + 4000 ≤ 7293034; omega⟩ rfl (fun r X2 hq => ?_) (fun _ _ h => False.elim h)
  rcases hq with ⟨hq, rfl⟩ | ⟨hq, rfl⟩
  · -- ok
    obtain ⟨e1, er, hst⟩ := hq
    have hZ2 := hZ.cls hst
    obtain ⟨s, I, J, hA, hcd, hT, hD⟩ := id hZ2.2.1
    have hb25 := hD.2.1.2.2.2.1
    have hl12 := hT.2.2.1
    refine v_istore i_L_law_1331 (by decide) rfl ?_
    refine v_aload_n i_L_law_1333 rfl ?_
    refine v_inv B i_L_law_1334 kn_m_M_down (c_M_downR B hZ2.2.1) hA.1 rfl rfl (Nat.le_of_ble_eq_true rfl) ⟨by decide, by decide, by show k + 300 + 0 ≤ 601024; omega, by show n + 4000 + 0 ≤ 7293034; omega⟩ rfl (fun r X3 hq3 => ?_) (fun _ _ h => False.elim h)
    obtain ⟨rfl, hd3, hsm⟩ := hq3
    rcases hd3 with ⟨w1, -⟩ | ⟨w1, hM3⟩
    · rw [e1] at w1; cases w1
    have hcode : (0 : Int32) = 0 := rfl
    have hLA := hL.disk (D' := (D.1, D.2.1, D.2.2.1, D.2.2.2.1, true)) ht rfl hM3.low
    obtain ⟨s3, I3, J3, hA3, hc3, -⟩ := id hM3
    refine v_loc [(0, .ref b), (1, .ref x), (2, .ref (x + 25)), (3, .ref (x + 55)), (4, .int (nI i)), (5, .int 0)] rfl ?_
    exact end_down B hA3 (hc3.trans hcode) (by omega) (by omega) (K X3 ⟨_, _, _, _, _, _, _, _, _, _, _, hZ2.ref hsm hM3, hLA⟩)
  · -- S
    obtain ⟨e1, -, hst⟩ := hq
    have hZ2 := hZ.cls hst
    obtain ⟨s, I, J, hA, hcd, hT, hD⟩ := id hZ2.2.1
    have hb25 := hD.2.1.2.2.2.1
    have hl12 := hT.2.2.1
    refine v_istore i_L_law_1331 (by decide) rfl ?_
    refine v_aload_n i_L_law_1333 rfl ?_
    refine v_inv B i_L_law_1334 kn_m_M_down (c_M_downR B hZ2.2.1) hA.1 rfl rfl (Nat.le_of_ble_eq_true rfl) ⟨by decide, by decide, by show k + 300 + 0 ≤ 601024; omega, by show n + 4000 + 0 ≤ 7293034; omega⟩ rfl (fun r X3 hq3 => ?_) (fun _ _ h => False.elim h)
    obtain ⟨rfl, hd3, hsm⟩ := hq3
    rcases hd3 with ⟨w1, hM3⟩ | ⟨w1, -⟩
    rotate_left
    · rw [e1] at w1; cases w1
    have hcode : (1 : Int32) = 1 := rfl
    have hLA := hL.more ht
    obtain ⟨s3, I3, J3, hA3, hc3, -⟩ := id hM3
    refine v_loc [(0, .ref b), (1, .ref x), (2, .ref (x + 25)), (3, .ref (x + 55)), (4, .int (nI i)), (5, .int 1)] rfl ?_
    exact end_down B hA3 (hc3.trans hcode) (by omega) (by omega) (K X3 ⟨_, _, _, _, _, _, _, _, _, _, _, hZ2.ref hsm hM3, hLA⟩)
theorem law_spoil (B : qB l s0 C) (hX : va_X b N xs s0 s0.heap) (hb : b < s0.heap.size) (hN : N ≤ 2048) (hi : i + 4 ≤ N) (h : LR X x t) (ht : t + 1 ≤ 512) (hk : k + 300 ≤ 601024) (hn : n + 4000 ≤ 7293034)
    (K : ∀ X', LR X' x (t + 1) → qV l s0 C m_L_law rmW Qp Ep (k + 300) (n + 4000) X' 1487 [(0, .ref b), (1, .ref x), (2, .ref (x + 25)), (3, .ref (x + 55)), (4, .int (nI i))] []) : qV l s0 C m_L_law rmW Qp Ep k n X 1351 [(0, .ref b), (1, .ref x), (2, .ref (x + 25)), (3, .ref (x + 55)), (4, .int (nI i))] [] := by
  obtain ⟨pg, made, lat, ro, db, D, pgK, madeK, op, cd, f, hZ, hL⟩ := h
  obtain ⟨hm, hlen, hgd⟩ := hL.len
  have hx := hZ.1.obj
  have hl5 : lat ≤ 512 := by have := hL.2.2.2.1; have := hL.2.2.2.2.1; omega
  have hkp := hL.kp
  refine v_aload_n i_L_law_1351 rfl ?_
  refine v_aload_n i_L_law_1352 rfl ?_
  refine v_iload i_L_law_1353 rfl ?_
  refine v_iconst (v := 1) i_L_law_1355 rfl ?_
  refine v_iadd i_L_law_1356 ?_
  refine v_sld hX hb (j := i + 1) (nI_add i 1) (by omega) (by omega) i_L_law_1357 ?_
  refine v_invS B i_L_law_1358 kn_m_L_spoil (c_L_spoil (x := x) B _ (c_P_spoil B hZ.1 _) hx (fun r X' h => by obtain ⟨j, j1, j2, er, hst⟩ := h; exact er) (fun e X' h => by exact h.2.1)) rfl rfl (Nat.le_of_ble_eq_true rfl) ⟨by decide, by decide, by show k + 300 ≤ 601024; omega, by show n + 4000 ≤ 7293034; omega⟩ rfl (fun r X2 hq => ?_) (fun _ _ h => False.elim h)
  rcases hq with ⟨hq, rfl⟩ | ⟨hq, rfl⟩
  · -- ok
    obtain ⟨j, j1, j2, er, hst⟩ := hq
    have hZ2 := hZ.cls hst
    obtain ⟨s, I, J, hA, hcd, hT, hD⟩ := id hZ2.2.1
    have hb25 := hD.2.1.2.2.2.1
    have hl12 := hT.2.2.1
    refine v_istore i_L_law_1361 (by decide) rfl ?_
    refine v_aload_n i_L_law_1363 rfl ?_
    refine v_aload_n i_L_law_1364 rfl ?_
    refine v_iload i_L_law_1365 rfl ?_
    refine v_iconst (v := 1) i_L_law_1367 rfl ?_
    refine v_iadd i_L_law_1368 ?_
    refine v_sld hX hb (j := i + 1) (nI_add i 1) (by omega) (by omega) i_L_law_1369 ?_
    refine v_inv B i_L_law_1370 kn_m_M_spoil (c_M_spoilR B hZ2.2.1 _) hA.1 rfl rfl (Nat.le_of_ble_eq_true rfl) ⟨by decide, by decide, by show k + 300 + 0 ≤ 601024; omega, by show n + 4000 + 0 ≤ 7293034; omega⟩ rfl (fun r X3 hq3 => ?_) (fun _ _ h => False.elim h)
    obtain ⟨rfl, h1, -, hsm⟩ := hq3
    have hM3 := h1 j j1 j2
    have hcode : (0 : Int32) = 0 := rfl
    have hLA := hL.disk (D' := (D.1.set j ((lg D.1 j).1, true), D.2)) ht rfl hM3.low
    obtain ⟨s3, I3, J3, hA3, hc3, -⟩ := id hM3
    refine v_loc [(0, .ref b), (1, .ref x), (2, .ref (x + 25)), (3, .ref (x + 55)), (4, .int (nI i)), (5, .int 0)] rfl ?_
    exact end_spoil B hA3 (hc3.trans hcode) (by omega) (by omega) (K X3 ⟨_, _, _, _, _, _, _, _, _, _, _, hZ2.ref hsm hM3, hLA⟩)
  · -- I
    obtain ⟨e1, -, hst⟩ := hq
    have hZ2 := hZ.cls hst
    obtain ⟨s, I, J, hA, hcd, hT, hD⟩ := id hZ2.2.1
    have hb25 := hD.2.1.2.2.2.1
    have hl12 := hT.2.2.1
    refine v_istore i_L_law_1361 (by decide) rfl ?_
    refine v_aload_n i_L_law_1363 rfl ?_
    refine v_aload_n i_L_law_1364 rfl ?_
    refine v_iload i_L_law_1365 rfl ?_
    refine v_iconst (v := 1) i_L_law_1367 rfl ?_
    refine v_iadd i_L_law_1368 ?_
    refine v_sld hX hb (j := i + 1) (nI_add i 1) (by omega) (by omega) i_L_law_1369 ?_
    refine v_inv B i_L_law_1370 kn_m_M_spoil (c_M_spoilR B hZ2.2.1 _) hA.1 rfl rfl (Nat.le_of_ble_eq_true rfl) ⟨by decide, by decide, by show k + 300 + 0 ≤ 601024; omega, by show n + 4000 + 0 ≤ 7293034; omega⟩ rfl (fun r X3 hq3 => ?_) (fun _ _ h => False.elim h)
    obtain ⟨rfl, -, h1, hsm⟩ := hq3
    have hM3 := h1 e1
    have hcode : (1 : Int32) = 1 := rfl
    have hLA := hL.more ht
    obtain ⟨s3, I3, J3, hA3, hc3, -⟩ := id hM3
    refine v_loc [(0, .ref b), (1, .ref x), (2, .ref (x + 25)), (3, .ref (x + 55)), (4, .int (nI i)), (5, .int 1)] rfl ?_
    exact end_spoil B hA3 (hc3.trans hcode) (by omega) (by omega) (K X3 ⟨_, _, _, _, _, _, _, _, _, _, _, hZ2.ref hsm hM3, hLA⟩)
theorem law_start (B : qB l s0 C) (hX : va_X b N xs s0 s0.heap) (hb : b < s0.heap.size) (hN : N ≤ 2048) (hi : i + 4 ≤ N) (h : LR X x t) (ht : t + 1 ≤ 512) (hk : k + 300 ≤ 601024) (hn : n + 4000 ≤ 7293034)
    (K : ∀ X', LR X' x (t + 1) → qV l s0 C m_L_law rmW Qp Ep (k + 300) (n + 4000) X' 1487 [(0, .ref b), (1, .ref x), (2, .ref (x + 25)), (3, .ref (x + 55)), (4, .int (nI i))] []) : qV l s0 C m_L_law rmW Qp Ep k n X 1387 [(0, .ref b), (1, .ref x), (2, .ref (x + 25)), (3, .ref (x + 55)), (4, .int (nI i))] [] := by
  obtain ⟨pg, made, lat, ro, db, D, pgK, madeK, op, cd, f, hZ, hL⟩ := h
  obtain ⟨hm, hlen, hgd⟩ := hL.len
  have hx := hZ.1.obj
  have hl5 : lat ≤ 512 := by have := hL.2.2.2.1; have := hL.2.2.2.2.1; omega
  have hkp := hL.kp
  refine v_aload_n i_L_law_1387 rfl ?_
  refine v_aload_n i_L_law_1388 rfl ?_
  refine v_invS B i_L_law_1389 kn_m_L_start (c_L_start (x := x) (o := x + 55) B  (c_P_start B hZ.1 (by have := dup_le D; have := hL.2.2.2.2.2.2.1; omega)) hx (fun r X' h => by obtain ⟨e1, er, hst⟩ := h; exact ⟨⟨_, er⟩, _, (hZ.cls hst).2.2⟩) (fun e X' h => by exact h.2.1)) rfl rfl (Nat.le_of_ble_eq_true rfl) ⟨by decide, by decide, by show k + 300 ≤ 601024; omega, by show n + 4000 ≤ 7293034; omega⟩ rfl (fun r X2 hq => ?_) (fun _ _ h => False.elim h)
  rcases hq with ⟨z, X', f', hq, hf', rfl, rfl⟩ | ⟨hq, rfl⟩
  · -- ok
    obtain ⟨e1, er, hst⟩ := hq
    have hZ2 := (hZ.cls hst).out (vp_updL f' 0 (z.toInt64))
    obtain ⟨s, I, J, hA, hcd, hT, hD⟩ := id hZ2.2.1
    have hb25 := hD.2.1.2.2.2.1
    have hl12 := hT.2.2.1
    refine v_istore i_L_law_1392 (by decide) rfl ?_
    refine v_aload_n i_L_law_1394 rfl ?_
    refine v_inv B i_L_law_1395 kn_m_M_start (c_M_start B hZ2.2.1 (fun p hp => gchg_cl ((hL.2.2.2.2.2.2.2.inv (hL.1.2.1 _ hkp)).2.2.1 p hp).1) (by omega) (fun t ht => yR_rk hL.1 hL.2.2.2.2.2.2.2 hL.2.2.1 t (by have := dup_le D; have := hL.2.2.2.2.2.2.1; omega))) hA.1 rfl rfl (Nat.le_of_ble_eq_true rfl) ⟨by decide, by decide, by show k + 300 + 0 ≤ 601024; omega, by show n + 4000 + 0 ≤ 7293034; omega⟩ rfl (fun r X3 hq3 => ?_) (fun _ _ h => False.elim h)
    obtain ⟨hd3, ⟨z3, rfl⟩, hsm⟩ := hq3
    rcases hd3 with ⟨w1, -⟩ | ⟨w1, rz, hM3⟩
    · rw [e1] at w1; cases w1
    replace hM3 := hM3.ag hL.again
    have hcode : (0 : Int32) = 0 := rfl
    have hLA := hL.back ht
    have hout : vp_updL f' 0 z.toInt64 0 = z3.toInt64 := by
      cases er
      cases rz
      exact if_pos rfl
    obtain ⟨s3, I3, J3, hA3, hc3, -⟩ := id hM3
    refine v_istore i_L_law_1398 (by decide) rfl ?_
    refine v_loc [(0, .ref b), (1, .ref x), (2, .ref (x + 25)), (3, .ref (x + 55)), (4, .int (nI i)), (5, .int 0), (6, .int z3)] rfl ?_
    exact end_start B hA3 (hc3.trans hcode) z3 (hZ2.ref hsm hM3).2.2 (fun _ => hout) (by omega) (by omega) (K X3 ⟨_, _, _, _, _, _, _, _, _, _, _, hZ2.ref hsm hM3, hLA⟩)
  · -- S
    obtain ⟨e1, -, hst⟩ := hq
    have hZ2 := hZ.cls hst
    obtain ⟨s, I, J, hA, hcd, hT, hD⟩ := id hZ2.2.1
    have hb25 := hD.2.1.2.2.2.1
    have hl12 := hT.2.2.1
    refine v_istore i_L_law_1392 (by decide) rfl ?_
    refine v_aload_n i_L_law_1394 rfl ?_
    refine v_inv B i_L_law_1395 kn_m_M_start (c_M_start B hZ2.2.1 (fun p hp => gchg_cl ((hL.2.2.2.2.2.2.2.inv (hL.1.2.1 _ hkp)).2.2.1 p hp).1) (by omega) (fun t ht => yR_rk hL.1 hL.2.2.2.2.2.2.2 hL.2.2.1 t (by have := dup_le D; have := hL.2.2.2.2.2.2.1; omega))) hA.1 rfl rfl (Nat.le_of_ble_eq_true rfl) ⟨by decide, by decide, by show k + 300 + 0 ≤ 601024; omega, by show n + 4000 + 0 ≤ 7293034; omega⟩ rfl (fun r X3 hq3 => ?_) (fun _ _ h => False.elim h)
    obtain ⟨hd3, ⟨z3, rfl⟩, hsm⟩ := hq3
    rcases hd3 with ⟨w1, hM3⟩ | ⟨w1, -⟩
    rotate_left
    · rw [e1] at w1; cases w1
    have hcode : (1 : Int32) = 1 := rfl
    have hLA := hL.more ht
    obtain ⟨s3, I3, J3, hA3, hc3, -⟩ := id hM3
    refine v_istore i_L_law_1398 (by decide) rfl ?_
    refine v_loc [(0, .ref b), (1, .ref x), (2, .ref (x + 25)), (3, .ref (x + 55)), (4, .int (nI i)), (5, .int 1), (6, .int z3)] rfl ?_
    exact end_start B hA3 (hc3.trans hcode) z3 (hZ2.ref hsm hM3).2.2 (fun q => absurd q (by decide)) (by omega) (by omega) (K X3 ⟨_, _, _, _, _, _, _, _, _, _, _, hZ2.ref hsm hM3, hLA⟩)
end LF
