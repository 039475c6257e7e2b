/-! the law: its loop -/
theorem and31 (x : Int32) : ∃ c, c ≤ 31 ∧ x &&& 31 = nI c := by
  refine ⟨(x &&& 31).toBitVec.toNat, ?_, ?_⟩
  · show (x.toBitVec &&& 31#32).toNat ≤ 31
    rw [BitVec.toNat_and]
    exact Nat.and_le_right
  · apply Int32.toBitVec_inj.mp
    show (x &&& 31).toBitVec = BitVec.ofNat 32 _
    rw [BitVec.ofNat_toNat, BitVec.setWidth_eq]
theorem nI_sub4 {N : Nat} (hN : N ≤ 2048) : (nI N - 4).toInt = (N : Int) - 4 := by
  rw [Int32.toInt_sub, nI_toInt (show N < 2147483648 by omega), show (4 : Int32).toInt = 4 by decide]
  exact Int.bmod_eq_of_le (by omega) (by omega)
section LG
variable {l : Launch} {s0 : State} {C : qC} {b N x : Nat} {xs : Nat → Int32} {Qp : Option Value → qX → Prop} {Ep : String → qX → Prop}
theorem law_loop (B : qB l s0 C) (hX : va_X b N xs s0 s0.heap) (hb : b < s0.heap.size) (hN : N ≤ 2048) (hQ : ∀ X t, LR X x t → Qp (some (.int 1)) X) :
    ∀ (r t i k n : Nat) (X : qX), t + r = 512 → i = 4 * t → LR X x t → k + 300 * r ≤ 601024 → n + 4000 * r ≤ 7293034 → qV l s0 C m_L_law rmW Qp Ep k n X 23 [(0, .ref b), (1, .ref x), (2, .ref (x + 25)), (3, .ref (x + 55)), (4, .int (nI i))] [] := by
  intro r
  induction r with
  | zero =>
    intro t i k n X hr hi h hk hn
    refine v_iload i_L_law_23 rfl ?_
    refine v_aload_n i_L_law_25 rfl ?_
    refine v_slen hX hb i_L_law_26 ?_
    refine v_iconst (v := 4) i_L_law_27 rfl ?_
    refine v_isub i_L_law_28 ?_
    have hgt : ¬ (nI i).toInt ≤ (nI N - 4).toInt := by
      rw [nI_toInt (show i < 2147483648 by omega), nI_sub4 hN]; omega
    refine v_icmp_gt (tgt := 1493) i_L_law_29 rfl (fun _ => ?_) (fun q => absurd (Int32.le_iff_toInt_le.mp (Int32.not_lt.mp q)) hgt)
    refine v_iconst (v := 1) i_L_law_1493 rfl ?_
    exact v_zret i_L_law_1494 rfl (Or.inr rfl) (by show k ≤ 601024; omega) (by show n ≤ 7293034; omega) (hQ _ _ h)
  | succ r ih =>
    intro t i k n X hr hi h hk hn
    have hk3 : k + 300 ≤ 601024 := Nat.le_trans (Nat.add_le_add_left (Nat.le_mul_of_pos_right 300 (Nat.succ_pos r)) k) hk
    have hn3 : n + 4000 ≤ 7293034 := Nat.le_trans (Nat.add_le_add_left (Nat.le_mul_of_pos_right 4000 (Nat.succ_pos r)) n) hn
    have ht3 : t + 1 ≤ 512 := by omega
    refine v_iload i_L_law_23 rfl ?_
    refine v_aload_n i_L_law_25 rfl ?_
    refine v_slen hX hb i_L_law_26 ?_
    refine v_iconst (v := 4) i_L_law_27 rfl ?_
    refine v_isub i_L_law_28 ?_
    refine v_icmp_gt (tgt := 1493) i_L_law_29 rfl (fun _ => ?_) (fun q => ?_)
    ·
      refine v_iconst (v := 1) i_L_law_1493 rfl ?_
      exact v_zret i_L_law_1494 rfl (Or.inr rfl) (by show k ≤ 601024; omega) (by show n ≤ 7293034; omega) (hQ _ _ h)
    have hle := Int32.le_iff_toInt_le.mp (Int32.not_lt.mp q)
    rw [nI_toInt (show i < 2147483648 by omega), nI_sub4 hN] at hle
    have hi4 : i + 4 ≤ N := by omega
    have more : ∀ (k' n' : Nat), k' ≤ k + 300 → n' ≤ n + 4000 → ∀ X', LR X' x (t + 1) → qV l s0 C m_L_law rmW Qp Ep k' n' X' 1487 [(0, .ref b), (1, .ref x), (2, .ref (x + 25)), (3, .ref (x + 55)), (4, .int (nI i))] [] := by
      intro k' n' hk' hn' X' h'
      refine v_iinc i_L_law_1487 rfl (nI_add i 4) (by decide) rfl ?_
      refine v_loc [(0, .ref b), (1, .ref x), (2, .ref (x + 25)), (3, .ref (x + 55)), (4, .int (nI (i + 4)))] rfl ?_
      refine v_goto (tgt := 23) i_L_law_1490 rfl ?_
      exact ih (t + 1) (i + 4) k' n' X' (by omega) (by omega) h' (by omega) (by omega)
    have K := more (k + 300) (n + 4000) (Nat.le_refl _) (Nat.le_refl _)
    refine v_aload_n i_L_law_32 rfl ?_
    refine v_iload i_L_law_33 rfl ?_
    refine v_sld hX hb (j := i) rfl (by omega) (by omega) i_L_law_35 ?_
    refine v_bipush (v := 31) i_L_law_36 rfl ?_
    refine v_iand i_L_law_38 ?_
    obtain ⟨c, hc, ec⟩ := and31 (xs i)
    rw [ec]
    by_cases h22 : c ≤ 22
    · rcases (show c = 0 ∨ c = 1 ∨ c = 2 ∨ c = 3 ∨ c = 4 ∨ c = 5 ∨ c = 6 ∨ c = 7 ∨ c = 8 ∨ c = 9 ∨ c = 10 ∨ c = 11 ∨ c = 12 ∨ c = 13 ∨ c = 14 ∨ c = 15 ∨ c = 16 ∨ c = 17 ∨ c = 18 ∨ c = 19 ∨ c = 20 ∨ c = 21 ∨ c = 22 by omega) with rfl | rfl | rfl | rfl | rfl | rfl | rfl | rfl | rfl | rfl | rfl | rfl | rfl | rfl | rfl | rfl | rfl | rfl | rfl | rfl | rfl | rfl | rfl
      · exact v_tableIn (tgt := 144) (off := 105) i_L_law_39 (by decide) (by decide) (by decide) rfl (law_put B hX hb hN hi4 h ht3 hk3 hn3 K)
      · exact v_tableIn (tgt := 244) (off := 205) i_L_law_39 (by decide) (by decide) (by decide) rfl (law_remove B hX hb hN hi4 h ht3 hk3 hn3 K)
      · exact v_tableIn (tgt := 300) (off := 261) i_L_law_39 (by decide) (by decide) (by decide) rfl (law_version B hX hb hN hi4 h ht3 hk3 hn3 K)
      · exact v_tableIn (tgt := 344) (off := 305) i_L_law_39 (by decide) (by decide) (by decide) rfl (law_has B hX hb hN hi4 h ht3 hk3 hn3 K)
      · exact v_tableIn (tgt := 419) (off := 380) i_L_law_39 (by decide) (by decide) (by decide) rfl (law_get B hX hb hN hi4 h ht3 hk3 hn3 K)
      · exact v_tableIn (tgt := 486) (off := 447) i_L_law_39 (by decide) (by decide) (by decide) rfl (law_next B hX hb hN hi4 h ht3 hk3 hn3 K)
      · exact v_tableIn (tgt := 554) (off := 515) i_L_law_39 (by decide) (by decide) (by decide) rfl (law_count B hX hb hN hi4 h ht3 hk3 hn3 K)
      · exact v_tableIn (tgt := 634) (off := 595) i_L_law_39 (by decide) (by decide) (by decide) rfl (law_sum B hX hb hN hi4 h ht3 hk3 hn3 K)
      · exact v_tableIn (tgt := 713) (off := 674) i_L_law_39 (by decide) (by decide) (by decide) rfl (law_differs B hX hb hN hi4 h ht3 hk3 hn3 K)
      · exact v_tableIn (tgt := 793) (off := 754) i_L_law_39 (by decide) (by decide) (by decide) rfl (law_pages B hX hb hN hi4 h ht3 hk3 hn3 K)
      · exact v_tableIn (tgt := 837) (off := 798) i_L_law_39 (by decide) (by decide) (by decide) rfl (law_page B hX hb hN hi4 h ht3 hk3 hn3 K)
      · exact v_tableIn (tgt := 905) (off := 866) i_L_law_39 (by decide) (by decide) (by decide) rfl (law_alive B hX hb hN hi4 h ht3 hk3 hn3 K)
      · exact v_tableIn (tgt := 973) (off := 934) i_L_law_39 (by decide) (by decide) (by decide) rfl (law_entry B hX hb hN hi4 h ht3 hk3 hn3 K)
      · exact v_tableIn (tgt := 1052) (off := 1013) i_L_law_39 (by decide) (by decide) (by decide) rfl (law_root B hX hb hN hi4 h ht3 hk3 hn3 K)
      · exact v_tableIn (tgt := 1108) (off := 1069) i_L_law_39 (by decide) (by decide) (by decide) rfl (law_bound B hX hb hN hi4 h ht3 hk3 hn3 K)
      · exact v_tableIn (tgt := 1152) (off := 1113) i_L_law_39 (by decide) (by decide) (by decide) rfl (law_dense B hX hb hN hi4 h ht3 hk3 hn3 K)
      · exact v_tableIn (tgt := 1203) (off := 1164) i_L_law_39 (by decide) (by decide) (by decide) rfl (law_sync B hX hb hN hi4 h ht3 hk3 hn3 K)
      · exact v_tableIn (tgt := 1247) (off := 1208) i_L_law_39 (by decide) (by decide) (by decide) rfl (law_checkpoint B hX hb hN hi4 h ht3 hk3 hn3 K)
      · exact v_tableIn (tgt := 1291) (off := 1252) i_L_law_39 (by decide) (by decide) (by decide) rfl (law_cut B hX hb hN hi4 h ht3 hk3 hn3 K)
      · exact v_tableIn (tgt := 1327) (off := 1288) i_L_law_39 (by decide) (by decide) (by decide) rfl (law_down B hX hb hN hi4 h ht3 hk3 hn3 K)
      · exact v_tableIn (tgt := 1351) (off := 1312) i_L_law_39 (by decide) (by decide) (by decide) rfl (law_spoil B hX hb hN hi4 h ht3 hk3 hn3 K)
      · exact v_tableIn (tgt := 1387) (off := 1348) i_L_law_39 (by decide) (by decide) (by decide) rfl (law_start B hX hb hN hi4 h ht3 hk3 hn3 K)
      · exact v_tableIn (tgt := 1431) (off := 1392) i_L_law_39 (by decide) (by decide) (by decide) rfl (law_disk B hX hb hN hi4 h ht3 hk3 hn3 K)
    · refine v_tableOut (tgt := 1487) i_L_law_39 (Or.inr ?_) rfl (more k n (by omega) (by omega) X ?_)
      · rw [nI_toInt (show c < 2147483648 by omega)]; omega
      · obtain ⟨pg, made, lat, ro, db, D, pgK, madeK, op, cd, f, hZ, hL⟩ := h
        exact ⟨pg, made, lat, ro, db, D, pgK, madeK, op, cd, f, hZ, hL.more (by omega)⟩
end LG
