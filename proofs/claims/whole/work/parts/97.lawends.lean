/-! the law: its cases -/
abbrev rmW : Room := { frames := 11, cells := 601024, slots := 7293034, locals := 424 }
theorem mRO.same {X X' : qX} {m : Nat} {s : Nat → Int32} {I : Nat → Nat → Int32} {J : Nat → Nat → Int64} {cd : Int32} (h : mRO X X' m s I J cd) : qSame X X' m (m + 30) := by
  obtain ⟨s', I', J', h1, h2, h3, h4, h5⟩ := h
  exact h5
section LE
variable {l : Launch} {s0 : State} {C : qC} {X : qX} {b x i k n : Nat} {Qp : Option Value → qX → Prop} {Ep : String → qX → Prop} {s : Nat → Int32} {I : Nat → Nat → Int32} {J : Nat → Nat → Int64} {f : Nat → Int64} {kc : Int32}
theorem end_put (B : qB l s0 C) (hA : MAt X (x + 25) s I J) (hc : s 0 = kc) (z : Int32) (hf : X.1 (x + 55) = some (.inl (1, 1, .inr (.inl f)))) (ho : kc = 0 → f 0 = z.toInt64) (hk : k ≤ 601024) (hn : n ≤ 7293034)
    (K : qV l s0 C m_L_law rmW Qp Ep k n X 1487 [(0, .ref b), (1, .ref x), (2, .ref (x + 25)), (3, .ref (x + 55)), (4, .int (nI i))] []) : qV l s0 C m_L_law rmW Qp Ep k n X 213 [(0, .ref b), (1, .ref x), (2, .ref (x + 25)), (3, .ref (x + 55)), (4, .int (nI i)), (5, .int kc), (6, .int z)] [] := by
  obtain ⟨h0, -⟩ := id hA
  refine v_aload_n i_L_law_213 rfl ?_
  refine v_inv B i_L_law_214 kn_m_M_thrown (c_M_thrown B hA) h0 rfl rfl (Nat.le_of_ble_eq_true rfl) ⟨by decide, by decide, by show k + 0 ≤ 601024; omega, by show n + 0 ≤ 7293034; omega⟩ rfl (fun r X' hq => ?_) (fun _ _ h => False.elim h)
  obtain ⟨rfl, rfl⟩ := hq
  rw [hc]
  refine v_iload i_L_law_217 rfl ?_
  refine v_icmp_eq (tgt := 224) i_L_law_219 rfl (fun _ => ?_) (fun q => absurd rfl q)
  refine v_iload i_L_law_224 rfl ?_
  have fin : ∀ L, qV l s0 C m_L_law rmW Qp Ep k n X 241 ([(0, .ref b), (1, .ref x), (2, .ref (x + 25)), (3, .ref (x + 55)), (4, .int (nI i))] ++ L) [] := fun L => by
    refine v_goto (tgt := 1487) i_L_law_241 rfl ?_
    exact v_loc [(0, .ref b), (1, .ref x), (2, .ref (x + 25)), (3, .ref (x + 55)), (4, .int (nI i))] rfl K
  refine v_if_ne (tgt := 241) i_L_law_226 rfl (fun _ => fin _) (fun q => ?_)
  refine v_aload_n i_L_law_229 rfl ?_
  refine v_iconst (v := 0) i_L_law_230 rfl ?_
  refine v_lald (j := 0) B hf rfl (by decide) (by decide) i_L_law_231 ?_
  rw [ho q]
  refine v_iload i_L_law_232 rfl ?_
  refine v_i2l i_L_law_234 ?_
  refine v_lcmp i_L_law_235 ?_
  refine v_if_eq (tgt := 241) i_L_law_236 rfl (fun _ => fin _) (fun q => absurd (lcmp_eq.mpr rfl) q)
theorem end_remove (B : qB l s0 C) (hA : MAt X (x + 25) s I J) (hc : s 0 = kc) (z : Int32) (hf : X.1 (x + 55) = some (.inl (1, 1, .inr (.inl f)))) (ho : kc = 0 → f 0 = z.toInt64) (hk : k ≤ 601024) (hn : n ≤ 7293034)
    (K : qV l s0 C m_L_law rmW Qp Ep k n X 1487 [(0, .ref b), (1, .ref x), (2, .ref (x + 25)), (3, .ref (x + 55)), (4, .int (nI i))] []) : qV l s0 C m_L_law rmW Qp Ep k n X 269 [(0, .ref b), (1, .ref x), (2, .ref (x + 25)), (3, .ref (x + 55)), (4, .int (nI i)), (5, .int kc), (6, .int z)] [] := by
  obtain ⟨h0, -⟩ := id hA
  refine v_aload_n i_L_law_269 rfl ?_
  refine v_inv B i_L_law_270 kn_m_M_thrown (c_M_thrown B hA) h0 rfl rfl (Nat.le_of_ble_eq_true rfl) ⟨by decide, by decide, by show k + 0 ≤ 601024; omega, by show n + 0 ≤ 7293034; omega⟩ rfl (fun r X' hq => ?_) (fun _ _ h => False.elim h)
  obtain ⟨rfl, rfl⟩ := hq
  rw [hc]
  refine v_iload i_L_law_273 rfl ?_
  refine v_icmp_eq (tgt := 280) i_L_law_275 rfl (fun _ => ?_) (fun q => absurd rfl q)
  refine v_iload i_L_law_280 rfl ?_
  have fin : ∀ L, qV l s0 C m_L_law rmW Qp Ep k n X 297 ([(0, .ref b), (1, .ref x), (2, .ref (x + 25)), (3, .ref (x + 55)), (4, .int (nI i))] ++ L) [] := fun L => by
    refine v_goto (tgt := 1487) i_L_law_297 rfl ?_
    exact v_loc [(0, .ref b), (1, .ref x), (2, .ref (x + 25)), (3, .ref (x + 55)), (4, .int (nI i))] rfl K
  refine v_if_ne (tgt := 297) i_L_law_282 rfl (fun _ => fin _) (fun q => ?_)
  refine v_aload_n i_L_law_285 rfl ?_
  refine v_iconst (v := 0) i_L_law_286 rfl ?_
  refine v_lald (j := 0) B hf rfl (by decide) (by decide) i_L_law_287 ?_
  rw [ho q]
  refine v_iload i_L_law_288 rfl ?_
  refine v_i2l i_L_law_290 ?_
  refine v_lcmp i_L_law_291 ?_
  refine v_if_eq (tgt := 297) i_L_law_292 rfl (fun _ => fin _) (fun q => absurd (lcmp_eq.mpr rfl) q)
theorem end_version (B : qB l s0 C) (hA : MAt X (x + 25) s I J) (hc : s 0 = kc) (z : Int32) (hf : X.1 (x + 55) = some (.inl (1, 1, .inr (.inl f)))) (ho : kc = 0 → f 0 = z.toInt64) (hk : k ≤ 601024) (hn : n ≤ 7293034)
    (K : qV l s0 C m_L_law rmW Qp Ep k n X 1487 [(0, .ref b), (1, .ref x), (2, .ref (x + 25)), (3, .ref (x + 55)), (4, .int (nI i))] []) : qV l s0 C m_L_law rmW Qp Ep k n X 313 [(0, .ref b), (1, .ref x), (2, .ref (x + 25)), (3, .ref (x + 55)), (4, .int (nI i)), (5, .int kc), (6, .int z)] [] := by
  obtain ⟨h0, -⟩ := id hA
  refine v_aload_n i_L_law_313 rfl ?_
  refine v_inv B i_L_law_314 kn_m_M_thrown (c_M_thrown B hA) h0 rfl rfl (Nat.le_of_ble_eq_true rfl) ⟨by decide, by decide, by show k + 0 ≤ 601024; omega, by show n + 0 ≤ 7293034; omega⟩ rfl (fun r X' hq => ?_) (fun _ _ h => False.elim h)
  obtain ⟨rfl, rfl⟩ := hq
  rw [hc]
  refine v_iload i_L_law_317 rfl ?_
  refine v_icmp_eq (tgt := 324) i_L_law_319 rfl (fun _ => ?_) (fun q => absurd rfl q)
  refine v_iload i_L_law_324 rfl ?_
  have fin : ∀ L, qV l s0 C m_L_law rmW Qp Ep k n X 341 ([(0, .ref b), (1, .ref x), (2, .ref (x + 25)), (3, .ref (x + 55)), (4, .int (nI i))] ++ L) [] := fun L => by
    refine v_goto (tgt := 1487) i_L_law_341 rfl ?_
    exact v_loc [(0, .ref b), (1, .ref x), (2, .ref (x + 25)), (3, .ref (x + 55)), (4, .int (nI i))] rfl K
  refine v_if_ne (tgt := 341) i_L_law_326 rfl (fun _ => fin _) (fun q => ?_)
  refine v_aload_n i_L_law_329 rfl ?_
  refine v_iconst (v := 0) i_L_law_330 rfl ?_
  refine v_lald (j := 0) B hf rfl (by decide) (by decide) i_L_law_331 ?_
  rw [ho q]
  refine v_iload i_L_law_332 rfl ?_
  refine v_i2l i_L_law_334 ?_
  refine v_lcmp i_L_law_335 ?_
  refine v_if_eq (tgt := 341) i_L_law_336 rfl (fun _ => fin _) (fun q => absurd (lcmp_eq.mpr rfl) q)
theorem end_has (B : qB l s0 C) (hA : MAt X (x + 25) s I J) (hc : s 0 = kc) (z : Int32) (hf : X.1 (x + 55) = some (.inl (1, 1, .inr (.inl f)))) (ho : kc = 0 → f 0 = if z = 0 then 0 else 1) (hk : k ≤ 601024) (hn : n ≤ 7293034)
    (K : qV l s0 C m_L_law rmW Qp Ep k n X 1487 [(0, .ref b), (1, .ref x), (2, .ref (x + 25)), (3, .ref (x + 55)), (4, .int (nI i))] []) : qV l s0 C m_L_law rmW Qp Ep k n X 381 [(0, .ref b), (1, .ref x), (2, .ref (x + 25)), (3, .ref (x + 55)), (4, .int (nI i)), (5, .int kc), (6, .int z)] [] := by
  obtain ⟨h0, -⟩ := id hA
  refine v_aload_n i_L_law_381 rfl ?_
  refine v_inv B i_L_law_382 kn_m_M_thrown (c_M_thrown B hA) h0 rfl rfl (Nat.le_of_ble_eq_true rfl) ⟨by decide, by decide, by show k + 0 ≤ 601024; omega, by show n + 0 ≤ 7293034; omega⟩ rfl (fun r X' hq => ?_) (fun _ _ h => False.elim h)
  obtain ⟨rfl, rfl⟩ := hq
  rw [hc]
  refine v_iload i_L_law_385 rfl ?_
  refine v_icmp_eq (tgt := 392) i_L_law_387 rfl (fun _ => ?_) (fun q => absurd rfl q)
  refine v_iload i_L_law_392 rfl ?_
  have fin : ∀ L, qV l s0 C m_L_law rmW Qp Ep k n X 416 ([(0, .ref b), (1, .ref x), (2, .ref (x + 25)), (3, .ref (x + 55)), (4, .int (nI i))] ++ L) [] := fun L => by
    refine v_goto (tgt := 1487) i_L_law_416 rfl ?_
    exact v_loc [(0, .ref b), (1, .ref x), (2, .ref (x + 25)), (3, .ref (x + 55)), (4, .int (nI i))] rfl K
  refine v_if_ne (tgt := 416) i_L_law_394 rfl (fun _ => fin _) (fun q => ?_)
  refine v_aload_n i_L_law_397 rfl ?_
  refine v_iconst (v := 0) i_L_law_398 rfl ?_
  refine v_lald (j := 0) B hf rfl (by decide) (by decide) i_L_law_399 ?_
  rw [ho q]
  refine v_iload i_L_law_400 rfl ?_
  refine v_if_eq (tgt := 409) i_L_law_402 rfl (fun z0 => ?_) (fun z0 => ?_)
  · rw [if_pos z0]
    refine v_lconst (v := 0) i_L_law_409 rfl ?_
    refine v_lcmp i_L_law_410 ?_
    refine v_if_eq (tgt := 416) i_L_law_411 rfl (fun _ => fin _) (fun q => absurd (lcmp_eq.mpr rfl) q)
  · rw [if_neg z0]
    refine v_lconst (v := 1) i_L_law_405 rfl ?_
    refine v_goto (tgt := 410) i_L_law_406 rfl ?_
    refine v_lcmp i_L_law_410 ?_
    refine v_if_eq (tgt := 416) i_L_law_411 rfl (fun _ => fin _) (fun q => absurd (lcmp_eq.mpr rfl) q)
theorem end_get (B : qB l s0 C) (hA : MAt X (x + 25) s I J) (hc : s 0 = kc) (z : Int64) (hf : X.1 (x + 55) = some (.inl (1, 1, .inr (.inl f)))) (ho : kc = 0 → f 0 = z) (hk : k ≤ 601024) (hn : n ≤ 7293034)
    (K : qV l s0 C m_L_law rmW Qp Ep k n X 1487 [(0, .ref b), (1, .ref x), (2, .ref (x + 25)), (3, .ref (x + 55)), (4, .int (nI i))] []) : qV l s0 C m_L_law rmW Qp Ep k n X 456 [(0, .ref b), (1, .ref x), (2, .ref (x + 25)), (3, .ref (x + 55)), (4, .int (nI i)), (5, .int kc), (6, .long z)] [] := by
  obtain ⟨h0, -⟩ := id hA
  refine v_aload_n i_L_law_456 rfl ?_
  refine v_inv B i_L_law_457 kn_m_M_thrown (c_M_thrown B hA) h0 rfl rfl (Nat.le_of_ble_eq_true rfl) ⟨by decide, by decide, by show k + 0 ≤ 601024; omega, by show n + 0 ≤ 7293034; omega⟩ rfl (fun r X' hq => ?_) (fun _ _ h => False.elim h)
  obtain ⟨rfl, rfl⟩ := hq
  rw [hc]
  refine v_iload i_L_law_460 rfl ?_
  refine v_icmp_eq (tgt := 467) i_L_law_462 rfl (fun _ => ?_) (fun q => absurd rfl q)
  refine v_iload i_L_law_467 rfl ?_
  have fin : ∀ L, qV l s0 C m_L_law rmW Qp Ep k n X 483 ([(0, .ref b), (1, .ref x), (2, .ref (x + 25)), (3, .ref (x + 55)), (4, .int (nI i))] ++ L) [] := fun L => by
    refine v_goto (tgt := 1487) i_L_law_483 rfl ?_
    exact v_loc [(0, .ref b), (1, .ref x), (2, .ref (x + 25)), (3, .ref (x + 55)), (4, .int (nI i))] rfl K
  refine v_if_ne (tgt := 483) i_L_law_469 rfl (fun _ => fin _) (fun q => ?_)
  refine v_aload_n i_L_law_472 rfl ?_
  refine v_iconst (v := 0) i_L_law_473 rfl ?_
  refine v_lald (j := 0) B hf rfl (by decide) (by decide) i_L_law_474 ?_
  rw [ho q]
  refine v_lload i_L_law_475 rfl ?_
  refine v_lcmp i_L_law_477 ?_
  refine v_if_eq (tgt := 483) i_L_law_478 rfl (fun _ => fin _) (fun q => absurd (lcmp_eq.mpr rfl) q)
theorem end_next (B : qB l s0 C) (hA : MAt X (x + 25) s I J) (hc : s 0 = kc) (z : Int32) (hf : X.1 (x + 55) = some (.inl (1, 1, .inr (.inl f)))) (ho : kc = 0 → f 0 = z.toInt64) (hk : k ≤ 601024) (hn : n ≤ 7293034)
    (K : qV l s0 C m_L_law rmW Qp Ep k n X 1487 [(0, .ref b), (1, .ref x), (2, .ref (x + 25)), (3, .ref (x + 55)), (4, .int (nI i))] []) : qV l s0 C m_L_law rmW Qp Ep k n X 523 [(0, .ref b), (1, .ref x), (2, .ref (x + 25)), (3, .ref (x + 55)), (4, .int (nI i)), (5, .int kc), (6, .int z)] [] := by
  obtain ⟨h0, -⟩ := id hA
  refine v_aload_n i_L_law_523 rfl ?_
  refine v_inv B i_L_law_524 kn_m_M_thrown (c_M_thrown B hA) h0 rfl rfl (Nat.le_of_ble_eq_true rfl) ⟨by decide, by decide, by show k + 0 ≤ 601024; omega, by show n + 0 ≤ 7293034; omega⟩ rfl (fun r X' hq => ?_) (fun _ _ h => False.elim h)
  obtain ⟨rfl, rfl⟩ := hq
  rw [hc]
  refine v_iload i_L_law_527 rfl ?_
  refine v_icmp_eq (tgt := 534) i_L_law_529 rfl (fun _ => ?_) (fun q => absurd rfl q)
  refine v_iload i_L_law_534 rfl ?_
  have fin : ∀ L, qV l s0 C m_L_law rmW Qp Ep k n X 551 ([(0, .ref b), (1, .ref x), (2, .ref (x + 25)), (3, .ref (x + 55)), (4, .int (nI i))] ++ L) [] := fun L => by
    refine v_goto (tgt := 1487) i_L_law_551 rfl ?_
    exact v_loc [(0, .ref b), (1, .ref x), (2, .ref (x + 25)), (3, .ref (x + 55)), (4, .int (nI i))] rfl K
  refine v_if_ne (tgt := 551) i_L_law_536 rfl (fun _ => fin _) (fun q => ?_)
  refine v_aload_n i_L_law_539 rfl ?_
  refine v_iconst (v := 0) i_L_law_540 rfl ?_
  refine v_lald (j := 0) B hf rfl (by decide) (by decide) i_L_law_541 ?_
  rw [ho q]
  refine v_iload i_L_law_542 rfl ?_
  refine v_i2l i_L_law_544 ?_
  refine v_lcmp i_L_law_545 ?_
  refine v_if_eq (tgt := 551) i_L_law_546 rfl (fun _ => fin _) (fun q => absurd (lcmp_eq.mpr rfl) q)
theorem end_count (B : qB l s0 C) (hA : MAt X (x + 25) s I J) (hc : s 0 = kc) (z : Int32) (hf : X.1 (x + 55) = some (.inl (1, 1, .inr (.inl f)))) (ho : kc = 0 → f 0 = z.toInt64) (hk : k ≤ 601024) (hn : n ≤ 7293034)
    (K : qV l s0 C m_L_law rmW Qp Ep k n X 1487 [(0, .ref b), (1, .ref x), (2, .ref (x + 25)), (3, .ref (x + 55)), (4, .int (nI i))] []) : qV l s0 C m_L_law rmW Qp Ep k n X 603 [(0, .ref b), (1, .ref x), (2, .ref (x + 25)), (3, .ref (x + 55)), (4, .int (nI i)), (5, .int kc), (6, .int z)] [] := by
  obtain ⟨h0, -⟩ := id hA
  refine v_aload_n i_L_law_603 rfl ?_
  refine v_inv B i_L_law_604 kn_m_M_thrown (c_M_thrown B hA) h0 rfl rfl (Nat.le_of_ble_eq_true rfl) ⟨by decide, by decide, by show k + 0 ≤ 601024; omega, by show n + 0 ≤ 7293034; omega⟩ rfl (fun r X' hq => ?_) (fun _ _ h => False.elim h)
  obtain ⟨rfl, rfl⟩ := hq
  rw [hc]
  refine v_iload i_L_law_607 rfl ?_
  refine v_icmp_eq (tgt := 614) i_L_law_609 rfl (fun _ => ?_) (fun q => absurd rfl q)
  refine v_iload i_L_law_614 rfl ?_
  have fin : ∀ L, qV l s0 C m_L_law rmW Qp Ep k n X 631 ([(0, .ref b), (1, .ref x), (2, .ref (x + 25)), (3, .ref (x + 55)), (4, .int (nI i))] ++ L) [] := fun L => by
    refine v_goto (tgt := 1487) i_L_law_631 rfl ?_
    exact v_loc [(0, .ref b), (1, .ref x), (2, .ref (x + 25)), (3, .ref (x + 55)), (4, .int (nI i))] rfl K
  refine v_if_ne (tgt := 631) i_L_law_616 rfl (fun _ => fin _) (fun q => ?_)
  refine v_aload_n i_L_law_619 rfl ?_
  refine v_iconst (v := 0) i_L_law_620 rfl ?_
  refine v_lald (j := 0) B hf rfl (by decide) (by decide) i_L_law_621 ?_
  rw [ho q]
  refine v_iload i_L_law_622 rfl ?_
  refine v_i2l i_L_law_624 ?_
  refine v_lcmp i_L_law_625 ?_
  refine v_if_eq (tgt := 631) i_L_law_626 rfl (fun _ => fin _) (fun q => absurd (lcmp_eq.mpr rfl) q)
theorem end_sum (B : qB l s0 C) (hA : MAt X (x + 25) s I J) (hc : s 0 = kc) (z : Int64) (hf : X.1 (x + 55) = some (.inl (1, 1, .inr (.inl f)))) (ho : kc = 0 → f 0 = z) (hk : k ≤ 601024) (hn : n ≤ 7293034)
    (K : qV l s0 C m_L_law rmW Qp Ep k n X 1487 [(0, .ref b), (1, .ref x), (2, .ref (x + 25)), (3, .ref (x + 55)), (4, .int (nI i))] []) : qV l s0 C m_L_law rmW Qp Ep k n X 683 [(0, .ref b), (1, .ref x), (2, .ref (x + 25)), (3, .ref (x + 55)), (4, .int (nI i)), (5, .int kc), (6, .long z)] [] := by
  obtain ⟨h0, -⟩ := id hA
  refine v_aload_n i_L_law_683 rfl ?_
  refine v_inv B i_L_law_684 kn_m_M_thrown (c_M_thrown B hA) h0 rfl rfl (Nat.le_of_ble_eq_true rfl) ⟨by decide, by decide, by show k + 0 ≤ 601024; omega, by show n + 0 ≤ 7293034; omega⟩ rfl (fun r X' hq => ?_) (fun _ _ h => False.elim h)
  obtain ⟨rfl, rfl⟩ := hq
  rw [hc]
  refine v_iload i_L_law_687 rfl ?_
  refine v_icmp_eq (tgt := 694) i_L_law_689 rfl (fun _ => ?_) (fun q => absurd rfl q)
  refine v_iload i_L_law_694 rfl ?_
  have fin : ∀ L, qV l s0 C m_L_law rmW Qp Ep k n X 710 ([(0, .ref b), (1, .ref x), (2, .ref (x + 25)), (3, .ref (x + 55)), (4, .int (nI i))] ++ L) [] := fun L => by
    refine v_goto (tgt := 1487) i_L_law_710 rfl ?_
    exact v_loc [(0, .ref b), (1, .ref x), (2, .ref (x + 25)), (3, .ref (x + 55)), (4, .int (nI i))] rfl K
  refine v_if_ne (tgt := 710) i_L_law_696 rfl (fun _ => fin _) (fun q => ?_)
  refine v_aload_n i_L_law_699 rfl ?_
  refine v_iconst (v := 0) i_L_law_700 rfl ?_
  refine v_lald (j := 0) B hf rfl (by decide) (by decide) i_L_law_701 ?_
  rw [ho q]
  refine v_lload i_L_law_702 rfl ?_
  refine v_lcmp i_L_law_704 ?_
  refine v_if_eq (tgt := 710) i_L_law_705 rfl (fun _ => fin _) (fun q => absurd (lcmp_eq.mpr rfl) q)
theorem end_differs (B : qB l s0 C) (hA : MAt X (x + 25) s I J) (hc : s 0 = kc) (z : Int32) (hf : X.1 (x + 55) = some (.inl (1, 1, .inr (.inl f)))) (ho : kc = 0 → f 0 = z.toInt64) (hk : k ≤ 601024) (hn : n ≤ 7293034)
    (K : qV l s0 C m_L_law rmW Qp Ep k n X 1487 [(0, .ref b), (1, .ref x), (2, .ref (x + 25)), (3, .ref (x + 55)), (4, .int (nI i))] []) : qV l s0 C m_L_law rmW Qp Ep k n X 762 [(0, .ref b), (1, .ref x), (2, .ref (x + 25)), (3, .ref (x + 55)), (4, .int (nI i)), (5, .int kc), (6, .int z)] [] := by
  obtain ⟨h0, -⟩ := id hA
  refine v_aload_n i_L_law_762 rfl ?_
  refine v_inv B i_L_law_763 kn_m_M_thrown (c_M_thrown B hA) h0 rfl rfl (Nat.le_of_ble_eq_true rfl) ⟨by decide, by decide, by show k + 0 ≤ 601024; omega, by show n + 0 ≤ 7293034; omega⟩ rfl (fun r X' hq => ?_) (fun _ _ h => False.elim h)
  obtain ⟨rfl, rfl⟩ := hq
  rw [hc]
  refine v_iload i_L_law_766 rfl ?_
  refine v_icmp_eq (tgt := 773) i_L_law_768 rfl (fun _ => ?_) (fun q => absurd rfl q)
  refine v_iload i_L_law_773 rfl ?_
  have fin : ∀ L, qV l s0 C m_L_law rmW Qp Ep k n X 790 ([(0, .ref b), (1, .ref x), (2, .ref (x + 25)), (3, .ref (x + 55)), (4, .int (nI i))] ++ L) [] := fun L => by
    refine v_goto (tgt := 1487) i_L_law_790 rfl ?_
    exact v_loc [(0, .ref b), (1, .ref x), (2, .ref (x + 25)), (3, .ref (x + 55)), (4, .int (nI i))] rfl K
  refine v_if_ne (tgt := 790) i_L_law_775 rfl (fun _ => fin _) (fun q => ?_)
  refine v_aload_n i_L_law_778 rfl ?_
  refine v_iconst (v := 0) i_L_law_779 rfl ?_
  refine v_lald (j := 0) B hf rfl (by decide) (by decide) i_L_law_780 ?_
  rw [ho q]
  refine v_iload i_L_law_781 rfl ?_
  refine v_i2l i_L_law_783 ?_
  refine v_lcmp i_L_law_784 ?_
  refine v_if_eq (tgt := 790) i_L_law_785 rfl (fun _ => fin _) (fun q => absurd (lcmp_eq.mpr rfl) q)
theorem end_pages (B : qB l s0 C) (hA : MAt X (x + 25) s I J) (hc : s 0 = kc) (z : Int32) (hf : X.1 (x + 55) = some (.inl (1, 1, .inr (.inl f)))) (ho : kc = 0 → f 0 = z.toInt64) (hk : k ≤ 601024) (hn : n ≤ 7293034)
    (K : qV l s0 C m_L_law rmW Qp Ep k n X 1487 [(0, .ref b), (1, .ref x), (2, .ref (x + 25)), (3, .ref (x + 55)), (4, .int (nI i))] []) : qV l s0 C m_L_law rmW Qp Ep k n X 806 [(0, .ref b), (1, .ref x), (2, .ref (x + 25)), (3, .ref (x + 55)), (4, .int (nI i)), (5, .int kc), (6, .int z)] [] := by
  obtain ⟨h0, -⟩ := id hA
  refine v_aload_n i_L_law_806 rfl ?_
  refine v_inv B i_L_law_807 kn_m_M_thrown (c_M_thrown B hA) h0 rfl rfl (Nat.le_of_ble_eq_true rfl) ⟨by decide, by decide, by show k + 0 ≤ 601024; omega, by show n + 0 ≤ 7293034; omega⟩ rfl (fun r X' hq => ?_) (fun _ _ h => False.elim h)
  obtain ⟨rfl, rfl⟩ := hq
  rw [hc]
  refine v_iload i_L_law_810 rfl ?_
  refine v_icmp_eq (tgt := 817) i_L_law_812 rfl (fun _ => ?_) (fun q => absurd rfl q)
  refine v_iload i_L_law_817 rfl ?_
  have fin : ∀ L, qV l s0 C m_L_law rmW Qp Ep k n X 834 ([(0, .ref b), (1, .ref x), (2, .ref (x + 25)), (3, .ref (x + 55)), (4, .int (nI i))] ++ L) [] := fun L => by
    refine v_goto (tgt := 1487) i_L_law_834 rfl ?_
    exact v_loc [(0, .ref b), (1, .ref x), (2, .ref (x + 25)), (3, .ref (x + 55)), (4, .int (nI i))] rfl K
  refine v_if_ne (tgt := 834) i_L_law_819 rfl (fun _ => fin _) (fun q => ?_)
  refine v_aload_n i_L_law_822 rfl ?_
  refine v_iconst (v := 0) i_L_law_823 rfl ?_
  refine v_lald (j := 0) B hf rfl (by decide) (by decide) i_L_law_824 ?_
  rw [ho q]
  refine v_iload i_L_law_825 rfl ?_
  refine v_i2l i_L_law_827 ?_
  refine v_lcmp i_L_law_828 ?_
  refine v_if_eq (tgt := 834) i_L_law_829 rfl (fun _ => fin _) (fun q => absurd (lcmp_eq.mpr rfl) q)
theorem end_page (B : qB l s0 C) (hA : MAt X (x + 25) s I J) (hc : s 0 = kc) (z : Int32) (hf : X.1 (x + 55) = some (.inl (1, 1, .inr (.inl f)))) (ho : kc = 0 → f 0 = z.toInt64) (hk : k ≤ 601024) (hn : n ≤ 7293034)
    (K : qV l s0 C m_L_law rmW Qp Ep k n X 1487 [(0, .ref b), (1, .ref x), (2, .ref (x + 25)), (3, .ref (x + 55)), (4, .int (nI i))] []) : qV l s0 C m_L_law rmW Qp Ep k n X 874 [(0, .ref b), (1, .ref x), (2, .ref (x + 25)), (3, .ref (x + 55)), (4, .int (nI i)), (5, .int kc), (6, .int z)] [] := by
  obtain ⟨h0, -⟩ := id hA
  refine v_aload_n i_L_law_874 rfl ?_
  refine v_inv B i_L_law_875 kn_m_M_thrown (c_M_thrown B hA) h0 rfl rfl (Nat.le_of_ble_eq_true rfl) ⟨by decide, by decide, by show k + 0 ≤ 601024; omega, by show n + 0 ≤ 7293034; omega⟩ rfl (fun r X' hq => ?_) (fun _ _ h => False.elim h)
  obtain ⟨rfl, rfl⟩ := hq
  rw [hc]
  refine v_iload i_L_law_878 rfl ?_
  refine v_icmp_eq (tgt := 885) i_L_law_880 rfl (fun _ => ?_) (fun q => absurd rfl q)
  refine v_iload i_L_law_885 rfl ?_
  have fin : ∀ L, qV l s0 C m_L_law rmW Qp Ep k n X 902 ([(0, .ref b), (1, .ref x), (2, .ref (x + 25)), (3, .ref (x + 55)), (4, .int (nI i))] ++ L) [] := fun L => by
    refine v_goto (tgt := 1487) i_L_law_902 rfl ?_
    exact v_loc [(0, .ref b), (1, .ref x), (2, .ref (x + 25)), (3, .ref (x + 55)), (4, .int (nI i))] rfl K
  refine v_if_ne (tgt := 902) i_L_law_887 rfl (fun _ => fin _) (fun q => ?_)
  refine v_aload_n i_L_law_890 rfl ?_
  refine v_iconst (v := 0) i_L_law_891 rfl ?_
  refine v_lald (j := 0) B hf rfl (by decide) (by decide) i_L_law_892 ?_
  rw [ho q]
  refine v_iload i_L_law_893 rfl ?_
  refine v_i2l i_L_law_895 ?_
  refine v_lcmp i_L_law_896 ?_
  refine v_if_eq (tgt := 902) i_L_law_897 rfl (fun _ => fin _) (fun q => absurd (lcmp_eq.mpr rfl) q)
theorem end_alive (B : qB l s0 C) (hA : MAt X (x + 25) s I J) (hc : s 0 = kc) (z : Int32) (hf : X.1 (x + 55) = some (.inl (1, 1, .inr (.inl f)))) (ho : kc = 0 → f 0 = z.toInt64) (hk : k ≤ 601024) (hn : n ≤ 7293034)
    (K : qV l s0 C m_L_law rmW Qp Ep k n X 1487 [(0, .ref b), (1, .ref x), (2, .ref (x + 25)), (3, .ref (x + 55)), (4, .int (nI i))] []) : qV l s0 C m_L_law rmW Qp Ep k n X 942 [(0, .ref b), (1, .ref x), (2, .ref (x + 25)), (3, .ref (x + 55)), (4, .int (nI i)), (5, .int kc), (6, .int z)] [] := by
  obtain ⟨h0, -⟩ := id hA
  refine v_aload_n i_L_law_942 rfl ?_
  refine v_inv B i_L_law_943 kn_m_M_thrown (c_M_thrown B hA) h0 rfl rfl (Nat.le_of_ble_eq_true rfl) ⟨by decide, by decide, by show k + 0 ≤ 601024; omega, by show n + 0 ≤ 7293034; omega⟩ rfl (fun r X' hq => ?_) (fun _ _ h => False.elim h)
  obtain ⟨rfl, rfl⟩ := hq
  rw [hc]
  refine v_iload i_L_law_946 rfl ?_
  refine v_icmp_eq (tgt := 953) i_L_law_948 rfl (fun _ => ?_) (fun q => absurd rfl q)
  refine v_iload i_L_law_953 rfl ?_
  have fin : ∀ L, qV l s0 C m_L_law rmW Qp Ep k n X 970 ([(0, .ref b), (1, .ref x), (2, .ref (x + 25)), (3, .ref (x + 55)), (4, .int (nI i))] ++ L) [] := fun L => by
    refine v_goto (tgt := 1487) i_L_law_970 rfl ?_
    exact v_loc [(0, .ref b), (1, .ref x), (2, .ref (x + 25)), (3, .ref (x + 55)), (4, .int (nI i))] rfl K
  refine v_if_ne (tgt := 970) i_L_law_955 rfl (fun _ => fin _) (fun q => ?_)
  refine v_aload_n i_L_law_958 rfl ?_
  refine v_iconst (v := 0) i_L_law_959 rfl ?_
  refine v_lald (j := 0) B hf rfl (by decide) (by decide) i_L_law_960 ?_
  rw [ho q]
  refine v_iload i_L_law_961 rfl ?_
  refine v_i2l i_L_law_963 ?_
  refine v_lcmp i_L_law_964 ?_
  refine v_if_eq (tgt := 970) i_L_law_965 rfl (fun _ => fin _) (fun q => absurd (lcmp_eq.mpr rfl) q)
theorem end_entry (B : qB l s0 C) (hA : MAt X (x + 25) s I J) (hc : s 0 = kc) (z : Int64) (hf : X.1 (x + 55) = some (.inl (1, 1, .inr (.inl f)))) (ho : kc = 0 → f 0 = z) (hk : k ≤ 601024) (hn : n ≤ 7293034)
    (K : qV l s0 C m_L_law rmW Qp Ep k n X 1487 [(0, .ref b), (1, .ref x), (2, .ref (x + 25)), (3, .ref (x + 55)), (4, .int (nI i))] []) : qV l s0 C m_L_law rmW Qp Ep k n X 1022 [(0, .ref b), (1, .ref x), (2, .ref (x + 25)), (3, .ref (x + 55)), (4, .int (nI i)), (5, .int kc), (6, .long z)] [] := by
  obtain ⟨h0, -⟩ := id hA
  refine v_aload_n i_L_law_1022 rfl ?_
  refine v_inv B i_L_law_1023 kn_m_M_thrown (c_M_thrown B hA) h0 rfl rfl (Nat.le_of_ble_eq_true rfl) ⟨by decide, by decide, by show k + 0 ≤ 601024; omega, by show n + 0 ≤ 7293034; omega⟩ rfl (fun r X' hq => ?_) (fun _ _ h => False.elim h)
  obtain ⟨rfl, rfl⟩ := hq
  rw [hc]
  refine v_iload i_L_law_1026 rfl ?_
  refine v_icmp_eq (tgt := 1033) i_L_law_1028 rfl (fun _ => ?_) (fun q => absurd rfl q)
  refine v_iload i_L_law_1033 rfl ?_
  have fin : ∀ L, qV l s0 C m_L_law rmW Qp Ep k n X 1049 ([(0, .ref b), (1, .ref x), (2, .ref (x + 25)), (3, .ref (x + 55)), (4, .int (nI i))] ++ L) [] := fun L => by
    refine v_goto (tgt := 1487) i_L_law_1049 rfl ?_
    exact v_loc [(0, .ref b), (1, .ref x), (2, .ref (x + 25)), (3, .ref (x + 55)), (4, .int (nI i))] rfl K
  refine v_if_ne (tgt := 1049) i_L_law_1035 rfl (fun _ => fin _) (fun q => ?_)
  refine v_aload_n i_L_law_1038 rfl ?_
  refine v_iconst (v := 0) i_L_law_1039 rfl ?_
  refine v_lald (j := 0) B hf rfl (by decide) (by decide) i_L_law_1040 ?_
  rw [ho q]
  refine v_lload i_L_law_1041 rfl ?_
  refine v_lcmp i_L_law_1043 ?_
  refine v_if_eq (tgt := 1049) i_L_law_1044 rfl (fun _ => fin _) (fun q => absurd (lcmp_eq.mpr rfl) q)
theorem end_root (B : qB l s0 C) (hA : MAt X (x + 25) s I J) (hc : s 0 = kc) (z : Int32) (hf : X.1 (x + 55) = some (.inl (1, 1, .inr (.inl f)))) (ho : kc = 0 → f 0 = z.toInt64) (hk : k ≤ 601024) (hn : n ≤ 7293034)
    (K : qV l s0 C m_L_law rmW Qp Ep k n X 1487 [(0, .ref b), (1, .ref x), (2, .ref (x + 25)), (3, .ref (x + 55)), (4, .int (nI i))] []) : qV l s0 C m_L_law rmW Qp Ep k n X 1077 [(0, .ref b), (1, .ref x), (2, .ref (x + 25)), (3, .ref (x + 55)), (4, .int (nI i)), (5, .int kc), (6, .int z)] [] := by
  obtain ⟨h0, -⟩ := id hA
  refine v_aload_n i_L_law_1077 rfl ?_
  refine v_inv B i_L_law_1078 kn_m_M_thrown (c_M_thrown B hA) h0 rfl rfl (Nat.le_of_ble_eq_true rfl) ⟨by decide, by decide, by show k + 0 ≤ 601024; omega, by show n + 0 ≤ 7293034; omega⟩ rfl (fun r X' hq => ?_) (fun _ _ h => False.elim h)
  obtain ⟨rfl, rfl⟩ := hq
  rw [hc]
  refine v_iload i_L_law_1081 rfl ?_
  refine v_icmp_eq (tgt := 1088) i_L_law_1083 rfl (fun _ => ?_) (fun q => absurd rfl q)
  refine v_iload i_L_law_1088 rfl ?_
  have fin : ∀ L, qV l s0 C m_L_law rmW Qp Ep k n X 1105 ([(0, .ref b), (1, .ref x), (2, .ref (x + 25)), (3, .ref (x + 55)), (4, .int (nI i))] ++ L) [] := fun L => by
    refine v_goto (tgt := 1487) i_L_law_1105 rfl ?_
    exact v_loc [(0, .ref b), (1, .ref x), (2, .ref (x + 25)), (3, .ref (x + 55)), (4, .int (nI i))] rfl K
  refine v_if_ne (tgt := 1105) i_L_law_1090 rfl (fun _ => fin _) (fun q => ?_)
  refine v_aload_n i_L_law_1093 rfl ?_
  refine v_iconst (v := 0) i_L_law_1094 rfl ?_
  refine v_lald (j := 0) B hf rfl (by decide) (by decide) i_L_law_1095 ?_
  rw [ho q]
  refine v_iload i_L_law_1096 rfl ?_
  refine v_i2l i_L_law_1098 ?_
  refine v_lcmp i_L_law_1099 ?_
  refine v_if_eq (tgt := 1105) i_L_law_1100 rfl (fun _ => fin _) (fun q => absurd (lcmp_eq.mpr rfl) q)
theorem end_bound (B : qB l s0 C) (hA : MAt X (x + 25) s I J) (hc : s 0 = kc) (z : Int32) (hf : X.1 (x + 55) = some (.inl (1, 1, .inr (.inl f)))) (ho : kc = 0 → f 0 = z.toInt64) (hk : k ≤ 601024) (hn : n ≤ 7293034)
    (K : qV l s0 C m_L_law rmW Qp Ep k n X 1487 [(0, .ref b), (1, .ref x), (2, .ref (x + 25)), (3, .ref (x + 55)), (4, .int (nI i))] []) : qV l s0 C m_L_law rmW Qp Ep k n X 1121 [(0, .ref b), (1, .ref x), (2, .ref (x + 25)), (3, .ref (x + 55)), (4, .int (nI i)), (5, .int kc), (6, .int z)] [] := by
  obtain ⟨h0, -⟩ := id hA
  refine v_aload_n i_L_law_1121 rfl ?_
  refine v_inv B i_L_law_1122 kn_m_M_thrown (c_M_thrown B hA) h0 rfl rfl (Nat.le_of_ble_eq_true rfl) ⟨by decide, by decide, by show k + 0 ≤ 601024; omega, by show n + 0 ≤ 7293034; omega⟩ rfl (fun r X' hq => ?_) (fun _ _ h => False.elim h)
  obtain ⟨rfl, rfl⟩ := hq
  rw [hc]
  refine v_iload i_L_law_1125 rfl ?_
  refine v_icmp_eq (tgt := 1132) i_L_law_1127 rfl (fun _ => ?_) (fun q => absurd rfl q)
  refine v_iload i_L_law_1132 rfl ?_
  have fin : ∀ L, qV l s0 C m_L_law rmW Qp Ep k n X 1149 ([(0, .ref b), (1, .ref x), (2, .ref (x + 25)), (3, .ref (x + 55)), (4, .int (nI i))] ++ L) [] := fun L => by
    refine v_goto (tgt := 1487) i_L_law_1149 rfl ?_
    exact v_loc [(0, .ref b), (1, .ref x), (2, .ref (x + 25)), (3, .ref (x + 55)), (4, .int (nI i))] rfl K
  refine v_if_ne (tgt := 1149) i_L_law_1134 rfl (fun _ => fin _) (fun q => ?_)
  refine v_aload_n i_L_law_1137 rfl ?_
  refine v_iconst (v := 0) i_L_law_1138 rfl ?_
  refine v_lald (j := 0) B hf rfl (by decide) (by decide) i_L_law_1139 ?_
  rw [ho q]
  refine v_iload i_L_law_1140 rfl ?_
  refine v_i2l i_L_law_1142 ?_
  refine v_lcmp i_L_law_1143 ?_
  refine v_if_eq (tgt := 1149) i_L_law_1144 rfl (fun _ => fin _) (fun q => absurd (lcmp_eq.mpr rfl) q)
theorem end_dense (B : qB l s0 C) (hA : MAt X (x + 25) s I J) (hc : s 0 = kc) (z : Int32) (hf : X.1 (x + 55) = some (.inl (1, 1, .inr (.inl f)))) (ho : kc = 0 → f 0 = if z = 0 then 0 else 1) (hk : k ≤ 601024) (hn : n ≤ 7293034)
    (K : qV l s0 C m_L_law rmW Qp Ep k n X 1487 [(0, .ref b), (1, .ref x), (2, .ref (x + 25)), (3, .ref (x + 55)), (4, .int (nI i))] []) : qV l s0 C m_L_law rmW Qp Ep k n X 1165 [(0, .ref b), (1, .ref x), (2, .ref (x + 25)), (3, .ref (x + 55)), (4, .int (nI i)), (5, .int kc), (6, .int z)] [] := by
  obtain ⟨h0, -⟩ := id hA
  refine v_aload_n i_L_law_1165 rfl ?_
  refine v_inv B i_L_law_1166 kn_m_M_thrown (c_M_thrown B hA) h0 rfl rfl (Nat.le_of_ble_eq_true rfl) ⟨by decide, by decide, by show k + 0 ≤ 601024; omega, by show n + 0 ≤ 7293034; omega⟩ rfl (fun r X' hq => ?_) (fun _ _ h => False.elim h)
  obtain ⟨rfl, rfl⟩ := hq
  rw [hc]
  refine v_iload i_L_law_1169 rfl ?_
  refine v_icmp_eq (tgt := 1176) i_L_law_1171 rfl (fun _ => ?_) (fun q => absurd rfl q)
  refine v_iload i_L_law_1176 rfl ?_
  have fin : ∀ L, qV l s0 C m_L_law rmW Qp Ep k n X 1200 ([(0, .ref b), (1, .ref x), (2, .ref (x + 25)), (3, .ref (x + 55)), (4, .int (nI i))] ++ L) [] := fun L => by
    refine v_goto (tgt := 1487) i_L_law_1200 rfl ?_
    exact v_loc [(0, .ref b), (1, .ref x), (2, .ref (x + 25)), (3, .ref (x + 55)), (4, .int (nI i))] rfl K
  refine v_if_ne (tgt := 1200) i_L_law_1178 rfl (fun _ => fin _) (fun q => ?_)
  refine v_aload_n i_L_law_1181 rfl ?_
  refine v_iconst (v := 0) i_L_law_1182 rfl ?_
  refine v_lald (j := 0) B hf rfl (by decide) (by decide) i_L_law_1183 ?_
  rw [ho q]
  refine v_iload i_L_law_1184 rfl ?_
  refine v_if_eq (tgt := 1193) i_L_law_1186 rfl (fun z0 => ?_) (fun z0 => ?_)
  · rw [if_pos z0]
    refine v_lconst (v := 0) i_L_law_1193 rfl ?_
    refine v_lcmp i_L_law_1194 ?_
    refine v_if_eq (tgt := 1200) i_L_law_1195 rfl (fun _ => fin _) (fun q => absurd (lcmp_eq.mpr rfl) q)
  · rw [if_neg z0]
    refine v_lconst (v := 1) i_L_law_1189 rfl ?_
    refine v_goto (tgt := 1194) i_L_law_1190 rfl ?_
    refine v_lcmp i_L_law_1194 ?_
    refine v_if_eq (tgt := 1200) i_L_law_1195 rfl (fun _ => fin _) (fun q => absurd (lcmp_eq.mpr rfl) q)
theorem end_sync (B : qB l s0 C) (hA : MAt X (x + 25) s I J) (hc : s 0 = kc) (z : Int32) (hf : X.1 (x + 55) = some (.inl (1, 1, .inr (.inl f)))) (ho : kc = 0 → f 0 = z.toInt64) (hk : k ≤ 601024) (hn : n ≤ 7293034)
    (K : qV l s0 C m_L_law rmW Qp Ep k n X 1487 [(0, .ref b), (1, .ref x), (2, .ref (x + 25)), (3, .ref (x + 55)), (4, .int (nI i))] []) : qV l s0 C m_L_law rmW Qp Ep k n X 1216 [(0, .ref b), (1, .ref x), (2, .ref (x + 25)), (3, .ref (x + 55)), (4, .int (nI i)), (5, .int kc), (6, .int z)] [] := by
  obtain ⟨h0, -⟩ := id hA
  refine v_aload_n i_L_law_1216 rfl ?_
  refine v_inv B i_L_law_1217 kn_m_M_thrown (c_M_thrown B hA) h0 rfl rfl (Nat.le_of_ble_eq_true rfl) ⟨by decide, by decide, by show k + 0 ≤ 601024; omega, by show n + 0 ≤ 7293034; omega⟩ rfl (fun r X' hq => ?_) (fun _ _ h => False.elim h)
  obtain ⟨rfl, rfl⟩ := hq
  rw [hc]
  refine v_iload i_L_law_1220 rfl ?_
  refine v_icmp_eq (tgt := 1227) i_L_law_1222 rfl (fun _ => ?_) (fun q => absurd rfl q)
  refine v_iload i_L_law_1227 rfl ?_
  have fin : ∀ L, qV l s0 C m_L_law rmW Qp Ep k n X 1244 ([(0, .ref b), (1, .ref x), (2, .ref (x + 25)), (3, .ref (x + 55)), (4, .int (nI i))] ++ L) [] := fun L => by
    refine v_goto (tgt := 1487) i_L_law_1244 rfl ?_
    exact v_loc [(0, .ref b), (1, .ref x), (2, .ref (x + 25)), (3, .ref (x + 55)), (4, .int (nI i))] rfl K
  refine v_if_ne (tgt := 1244) i_L_law_1229 rfl (fun _ => fin _) (fun q => ?_)
  refine v_aload_n i_L_law_1232 rfl ?_
  refine v_iconst (v := 0) i_L_law_1233 rfl ?_
  refine v_lald (j := 0) B hf rfl (by decide) (by decide) i_L_law_1234 ?_
  rw [ho q]
  refine v_iload i_L_law_1235 rfl ?_
  refine v_i2l i_L_law_1237 ?_
  refine v_lcmp i_L_law_1238 ?_
  refine v_if_eq (tgt := 1244) i_L_law_1239 rfl (fun _ => fin _) (fun q => absurd (lcmp_eq.mpr rfl) q)
theorem end_checkpoint (B : qB l s0 C) (hA : MAt X (x + 25) s I J) (hc : s 0 = kc) (z : Int32) (hf : X.1 (x + 55) = some (.inl (1, 1, .inr (.inl f)))) (ho : kc = 0 → f 0 = z.toInt64) (hk : k ≤ 601024) (hn : n ≤ 7293034)
    (K : qV l s0 C m_L_law rmW Qp Ep k n X 1487 [(0, .ref b), (1, .ref x), (2, .ref (x + 25)), (3, .ref (x + 55)), (4, .int (nI i))] []) : qV l s0 C m_L_law rmW Qp Ep k n X 1260 [(0, .ref b), (1, .ref x), (2, .ref (x + 25)), (3, .ref (x + 55)), (4, .int (nI i)), (5, .int kc), (6, .int z)] [] := by
  obtain ⟨h0, -⟩ := id hA
  refine v_aload_n i_L_law_1260 rfl ?_
  refine v_inv B i_L_law_1261 kn_m_M_thrown (c_M_thrown B hA) h0 rfl rfl (Nat.le_of_ble_eq_true rfl) ⟨by decide, by decide, by show k + 0 ≤ 601024; omega, by show n + 0 ≤ 7293034; omega⟩ rfl (fun r X' hq => ?_) (fun _ _ h => False.elim h)
  obtain ⟨rfl, rfl⟩ := hq
  rw [hc]
  refine v_iload i_L_law_1264 rfl ?_
  refine v_icmp_eq (tgt := 1271) i_L_law_1266 rfl (fun _ => ?_) (fun q => absurd rfl q)
  refine v_iload i_L_law_1271 rfl ?_
  have fin : ∀ L, qV l s0 C m_L_law rmW Qp Ep k n X 1288 ([(0, .ref b), (1, .ref x), (2, .ref (x + 25)), (3, .ref (x + 55)), (4, .int (nI i))] ++ L) [] := fun L => by
    refine v_goto (tgt := 1487) i_L_law_1288 rfl ?_
    exact v_loc [(0, .ref b), (1, .ref x), (2, .ref (x + 25)), (3, .ref (x + 55)), (4, .int (nI i))] rfl K
  refine v_if_ne (tgt := 1288) i_L_law_1273 rfl (fun _ => fin _) (fun q => ?_)
  refine v_aload_n i_L_law_1276 rfl ?_
  refine v_iconst (v := 0) i_L_law_1277 rfl ?_
  refine v_lald (j := 0) B hf rfl (by decide) (by decide) i_L_law_1278 ?_
  rw [ho q]
  refine v_iload i_L_law_1279 rfl ?_
  refine v_i2l i_L_law_1281 ?_
  refine v_lcmp i_L_law_1282 ?_
  refine v_if_eq (tgt := 1288) i_L_law_1283 rfl (fun _ => fin _) (fun q => absurd (lcmp_eq.mpr rfl) q)
theorem end_cut (B : qB l s0 C) (hA : MAt X (x + 25) s I J) (hc : s 0 = kc)   (hk : k ≤ 601024) (hn : n ≤ 7293034)
    (K : qV l s0 C m_L_law rmW Qp Ep k n X 1487 [(0, .ref b), (1, .ref x), (2, .ref (x + 25)), (3, .ref (x + 55)), (4, .int (nI i))] []) : qV l s0 C m_L_law rmW Qp Ep k n X 1313 [(0, .ref b), (1, .ref x), (2, .ref (x + 25)), (3, .ref (x + 55)), (4, .int (nI i)), (5, .int kc)] [] := by
  obtain ⟨h0, -⟩ := id hA
  refine v_aload_n i_L_law_1313 rfl ?_
  refine v_inv B i_L_law_1314 kn_m_M_thrown (c_M_thrown B hA) h0 rfl rfl (Nat.le_of_ble_eq_true rfl) ⟨by decide, by decide, by show k + 0 ≤ 601024; omega, by show n + 0 ≤ 7293034; omega⟩ rfl (fun r X' hq => ?_) (fun _ _ h => False.elim h)
  obtain ⟨rfl, rfl⟩ := hq
  rw [hc]
  refine v_iload i_L_law_1317 rfl ?_
  refine v_icmp_eq (tgt := 1324) i_L_law_1319 rfl (fun _ => ?_) (fun q => absurd rfl q)
  refine v_goto (tgt := 1487) i_L_law_1324 rfl ?_
  exact v_loc [(0, .ref b), (1, .ref x), (2, .ref (x + 25)), (3, .ref (x + 55)), (4, .int (nI i))] rfl K
theorem end_down (B : qB l s0 C) (hA : MAt X (x + 25) s I J) (hc : s 0 = kc)   (hk : k ≤ 601024) (hn : n ≤ 7293034)
    (K : qV l s0 C m_L_law rmW Qp Ep k n X 1487 [(0, .ref b), (1, .ref x), (2, .ref (x + 25)), (3, .ref (x + 55)), (4, .int (nI i))] []) : qV l s0 C m_L_law rmW Qp Ep k n X 1337 [(0, .ref b), (1, .ref x), (2, .ref (x + 25)), (3, .ref (x + 55)), (4, .int (nI i)), (5, .int kc)] [] := by
  obtain ⟨h0, -⟩ := id hA
  refine v_aload_n i_L_law_1337 rfl ?_
  refine v_inv B i_L_law_1338 kn_m_M_thrown (c_M_thrown B hA) h0 rfl rfl (Nat.le_of_ble_eq_true rfl) ⟨by decide, by decide, by show k + 0 ≤ 601024; omega, by show n + 0 ≤ 7293034; omega⟩ rfl (fun r X' hq => ?_) (fun _ _ h => False.elim h)
  obtain ⟨rfl, rfl⟩ := hq
  rw [hc]
  refine v_iload i_L_law_1341 rfl ?_
  refine v_icmp_eq (tgt := 1348) i_L_law_1343 rfl (fun _ => ?_) (fun q => absurd rfl q)
  refine v_goto (tgt := 1487) i_L_law_1348 rfl ?_
  exact v_loc [(0, .ref b), (1, .ref x), (2, .ref (x + 25)), (3, .ref (x + 55)), (4, .int (nI i))] rfl K
theorem end_spoil (B : qB l s0 C) (hA : MAt X (x + 25) s I J) (hc : s 0 = kc)   (hk : k ≤ 601024) (hn : n ≤ 7293034)
    (K : qV l s0 C m_L_law rmW Qp Ep k n X 1487 [(0, .ref b), (1, .ref x), (2, .ref (x + 25)), (3, .ref (x + 55)), (4, .int (nI i))] []) : qV l s0 C m_L_law rmW Qp Ep k n X 1373 [(0, .ref b), (1, .ref x), (2, .ref (x + 25)), (3, .ref (x + 55)), (4, .int (nI i)), (5, .int kc)] [] := by
  obtain ⟨h0, -⟩ := id hA
  refine v_aload_n i_L_law_1373 rfl ?_
  refine v_inv B i_L_law_1374 kn_m_M_thrown (c_M_thrown B hA) h0 rfl rfl (Nat.le_of_ble_eq_true rfl) ⟨by decide, by decide, by show k + 0 ≤ 601024; omega, by show n + 0 ≤ 7293034; omega⟩ rfl (fun r X' hq => ?_) (fun _ _ h => False.elim h)
  obtain ⟨rfl, rfl⟩ := hq
  rw [hc]
  refine v_iload i_L_law_1377 rfl ?_
  refine v_icmp_eq (tgt := 1384) i_L_law_1379 rfl (fun _ => ?_) (fun q => absurd rfl q)
  refine v_goto (tgt := 1487) i_L_law_1384 rfl ?_
  exact v_loc [(0, .ref b), (1, .ref x), (2, .ref (x + 25)), (3, .ref (x + 55)), (4, .int (nI i))] rfl K
theorem end_start (B : qB l s0 C) (hA : MAt X (x + 25) s I J) (hc : s 0 = kc) (z : Int32) (hf : X.1 (x + 55) = some (.inl (1, 1, .inr (.inl f)))) (ho : kc = 0 → f 0 = z.toInt64) (hk : k ≤ 601024) (hn : n ≤ 7293034)
    (K : qV l s0 C m_L_law rmW Qp Ep k n X 1487 [(0, .ref b), (1, .ref x), (2, .ref (x + 25)), (3, .ref (x + 55)), (4, .int (nI i))] []) : qV l s0 C m_L_law rmW Qp Ep k n X 1400 [(0, .ref b), (1, .ref x), (2, .ref (x + 25)), (3, .ref (x + 55)), (4, .int (nI i)), (5, .int kc), (6, .int z)] [] := by
  obtain ⟨h0, -⟩ := id hA
  refine v_aload_n i_L_law_1400 rfl ?_
  refine v_inv B i_L_law_1401 kn_m_M_thrown (c_M_thrown B hA) h0 rfl rfl (Nat.le_of_ble_eq_true rfl) ⟨by decide, by decide, by show k + 0 ≤ 601024; omega, by show n + 0 ≤ 7293034; omega⟩ rfl (fun r X' hq => ?_) (fun _ _ h => False.elim h)
  obtain ⟨rfl, rfl⟩ := hq
  rw [hc]
  refine v_iload i_L_law_1404 rfl ?_
  refine v_icmp_eq (tgt := 1411) i_L_law_1406 rfl (fun _ => ?_) (fun q => absurd rfl q)
  refine v_iload i_L_law_1411 rfl ?_
  have fin : ∀ L, qV l s0 C m_L_law rmW Qp Ep k n X 1428 ([(0, .ref b), (1, .ref x), (2, .ref (x + 25)), (3, .ref (x + 55)), (4, .int (nI i))] ++ L) [] := fun L => by
    refine v_goto (tgt := 1487) i_L_law_1428 rfl ?_
    exact v_loc [(0, .ref b), (1, .ref x), (2, .ref (x + 25)), (3, .ref (x + 55)), (4, .int (nI i))] rfl K
  refine v_if_ne (tgt := 1428) i_L_law_1413 rfl (fun _ => fin _) (fun q => ?_)
  refine v_aload_n i_L_law_1416 rfl ?_
  refine v_iconst (v := 0) i_L_law_1417 rfl ?_
  refine v_lald (j := 0) B hf rfl (by decide) (by decide) i_L_law_1418 ?_
  rw [ho q]
  refine v_iload i_L_law_1419 rfl ?_
  refine v_i2l i_L_law_1421 ?_
  refine v_lcmp i_L_law_1422 ?_
  refine v_if_eq (tgt := 1428) i_L_law_1423 rfl (fun _ => fin _) (fun q => absurd (lcmp_eq.mpr rfl) q)
theorem end_disk (B : qB l s0 C) (hA : MAt X (x + 25) s I J) (hc : s 0 = kc) (z : Int32) (hf : X.1 (x + 55) = some (.inl (1, 1, .inr (.inl f)))) (ho : kc = 0 → f 0 = z.toInt64) (hk : k ≤ 601024) (hn : n ≤ 7293034)
    (K : qV l s0 C m_L_law rmW Qp Ep k n X 1487 [(0, .ref b), (1, .ref x), (2, .ref (x + 25)), (3, .ref (x + 55)), (4, .int (nI i))] []) : qV l s0 C m_L_law rmW Qp Ep k n X 1456 [(0, .ref b), (1, .ref x), (2, .ref (x + 25)), (3, .ref (x + 55)), (4, .int (nI i)), (5, .int kc), (6, .int z)] [] := by
  obtain ⟨h0, -⟩ := id hA
  refine v_aload_n i_L_law_1456 rfl ?_
  refine v_inv B i_L_law_1457 kn_m_M_thrown (c_M_thrown B hA) h0 rfl rfl (Nat.le_of_ble_eq_true rfl) ⟨by decide, by decide, by show k + 0 ≤ 601024; omega, by show n + 0 ≤ 7293034; omega⟩ rfl (fun r X' hq => ?_) (fun _ _ h => False.elim h)
  obtain ⟨rfl, rfl⟩ := hq
  rw [hc]
  refine v_iload i_L_law_1460 rfl ?_
  refine v_icmp_eq (tgt := 1467) i_L_law_1462 rfl (fun _ => ?_) (fun q => absurd rfl q)
  refine v_iload i_L_law_1467 rfl ?_
  have fin : ∀ L, qV l s0 C m_L_law rmW Qp Ep k n X 1484 ([(0, .ref b), (1, .ref x), (2, .ref (x + 25)), (3, .ref (x + 55)), (4, .int (nI i))] ++ L) [] := fun L => by
    refine v_goto (tgt := 1487) i_L_law_1484 rfl ?_
    exact v_loc [(0, .ref b), (1, .ref x), (2, .ref (x + 25)), (3, .ref (x + 55)), (4, .int (nI i))] rfl K
  refine v_if_ne (tgt := 1484) i_L_law_1469 rfl (fun _ => fin _) (fun q => ?_)
  refine v_aload_n i_L_law_1472 rfl ?_
  refine v_iconst (v := 0) i_L_law_1473 rfl ?_
  refine v_lald (j := 0) B hf rfl (by decide) (by decide) i_L_law_1474 ?_
  rw [ho q]
  refine v_iload i_L_law_1475 rfl ?_
  refine v_i2l i_L_law_1477 ?_
  refine v_lcmp i_L_law_1478 ?_
  refine v_if_eq (tgt := 1484) i_L_law_1479 rfl (fun _ => fin _) (fun q => absurd (lcmp_eq.mpr rfl) q)
end LE
