/-! pages: the entries that stand for keys -/
theorem i64_lt {x : Int64} {k : Int32} : x < k.toInt64 ↔ x.toInt < k.toInt := by
  rw [Int64.lt_iff_toInt_lt, Int32.toInt_toInt64]
theorem i64_gt {x : Int64} {k : Int32} : k.toInt64 < x ↔ k.toInt < x.toInt := by
  rw [Int64.lt_iff_toInt_lt, Int32.toInt_toInt64]
theorem lcmp_lt {x y : Int64} : lg_cmp x y < 0 ↔ x < y := by
  unfold lg_cmp
  by_cases h1 : y < x
  · simp [h1]
    have h2 : ¬ x < y := fun h => absurd (Int64.lt_trans h1 h) Int64.lt_irrefl
    simp [h2]
    first | done | exact Int64.le_of_lt h1 | decide
  · by_cases h2 : x = y
    · subst h2; simp [h1]; try decide
    · simp [h1, h2]
      have h3 : x < y := by
        rcases Int64.lt_or_le x y with h | h
        · exact h
        · exact absurd (Int64.le_antisymm (Int64.not_lt.mp h1) h) h2
      simp [h3]
      try decide
theorem bI_ne {b : Bool} (h : ¬ bI b = 0) : b = true := by
  cases b with
  | true => rfl
  | false => exact absurd rfl h
section PF
variable {l : Launch} {s0 : State} {C : qC} {X : qX} {a num : Nat} {P : Pg}
theorem c_G_atOrBelow_loop (B : qB l s0 C) (h : PgAt X a num P) (x : Int64) (v : Nat) (hv : v < 2 ^ 30) : ∀ (j i : Nat), i + j = P.2.2.2.length →
      qV l s0 C m_G_atOrBelow rm_G_atOrBelow (fun r X' => X = X' ∧ r = some (.int (vO (gbel P.2.2.2 x.toInt v P.2.2.2.length)))) (fun _ _ => False) 0 0 X 6 [(0, .ref a), (1, .long x), (3, .int (nI v)), (4, .int (vO (gbel P.2.2.2 x.toInt v i))), (5, .int (nI i))] [] := by
  obtain ⟨h0, ⟨ok1, ok2, ok3, ok4, ok5⟩, fk, ff, ft, fw, hk, hf, ht, hw, hg⟩ := id h
  intro j
  induction j with
  | zero =>
    intro i hi
    refine v_iload i_G_atOrBelow_6 rfl ?_
    refine v_aload_n i_G_atOrBelow_8 rfl ?_
    refine v_get B i_G_atOrBelow_9 (by first | assumption | exact qset_self _ _ _ | (rw [qset_ne _ _ (by omega)]; first | assumption | exact qset_self _ _ _ | (rw [qset_ne _ _ (by omega)]; first | assumption | exact qset_self _ _ _ | (rw [qset_ne _ _ (by omega)]; first | assumption | exact qset_self _ _ _ | (rw [qset_ne _ _ (by omega)]; first | assumption | exact qset_self _ _ _ | (rw [qset_ne _ _ (by omega)]; first | assumption | exact qset_self _ _ _ | (rw [qset_ne _ _ (by omega)]; first | assumption | exact qset_self _ _ _))))))) rfl ?_
    refine v_icmp_ge (tgt := 71) i_G_atOrBelow_12 rfl (fun h12 => ?_) (fun h12 => ?_)
    · refine v_iload i_G_atOrBelow_71 rfl ?_
      refine v_iret i_G_atOrBelow_73 rfl (by decide) (by decide) ⟨rfl, ?_⟩
      rw [show i = P.2.2.2.length by omega]
    · exact absurd (nI_le (by omega) (by omega)) h12
  | succ j ih =>
    intro i hi
    have tail : ∀ b : Option Nat, gbel P.2.2.2 x.toInt v (i + 1) = b → qV l s0 C m_G_atOrBelow rm_G_atOrBelow (fun r X' => X = X' ∧ r = some (.int (vO (gbel P.2.2.2 x.toInt v P.2.2.2.length)))) (fun _ _ => False) 0 0 X 65 [(0, .ref a), (1, .long x), (3, .int (nI v)), (4, .int (vO b)), (5, .int (nI i))] [] := by
      intro b hb
      refine v_iinc (v := nI (i + 1)) i_G_atOrBelow_65 rfl (nI_1 i) (by decide) rfl ?_
      refine v_goto (tgt := 6) i_G_atOrBelow_68 rfl ?_
      refine v_loc [(0, .ref a), (1, .long x), (3, .int (nI v)), (4, .int (vO (gbel P.2.2.2 x.toInt v (i + 1)))), (5, .int (nI (i + 1)))] (by rw [hb]; rfl) (ih (i + 1) (by omega))
    have take : gbel P.2.2.2 x.toInt v (i + 1) = some i → qV l s0 C m_G_atOrBelow rm_G_atOrBelow (fun r X' => X = X' ∧ r = some (.int (vO (gbel P.2.2.2 x.toInt v P.2.2.2.length)))) (fun _ _ => False) 0 0 X 61 [(0, .ref a), (1, .long x), (3, .int (nI v)), (4, .int (vO (gbel P.2.2.2 x.toInt v i))), (5, .int (nI i))] [] := by
      intro hb
      refine v_iload i_G_atOrBelow_61 rfl ?_
      refine v_istore i_G_atOrBelow_63 (by decide) rfl ?_
      refine v_loc [(0, .ref a), (1, .long x), (3, .int (nI v)), (4, .int (vO (some i))), (5, .int (nI i))] rfl ?_
      exact tail _ hb
    refine v_iload i_G_atOrBelow_6 rfl ?_
    refine v_aload_n i_G_atOrBelow_8 rfl ?_
    refine v_get B i_G_atOrBelow_9 (by first | assumption | exact qset_self _ _ _ | (rw [qset_ne _ _ (by omega)]; first | assumption | exact qset_self _ _ _ | (rw [qset_ne _ _ (by omega)]; first | assumption | exact qset_self _ _ _ | (rw [qset_ne _ _ (by omega)]; first | assumption | exact qset_self _ _ _ | (rw [qset_ne _ _ (by omega)]; first | assumption | exact qset_self _ _ _ | (rw [qset_ne _ _ (by omega)]; first | assumption | exact qset_self _ _ _ | (rw [qset_ne _ _ (by omega)]; first | assumption | exact qset_self _ _ _))))))) rfl ?_
    refine v_icmp_ge (tgt := 71) i_G_atOrBelow_12 rfl (fun h12 => ?_) (fun h12 => ?_)
    · exact absurd h12 (nI_ge (by omega) (by omega))
    refine v_aload_n i_G_atOrBelow_15 rfl ?_
    refine v_iload i_G_atOrBelow_16 rfl ?_
    refine v_iload_n i_G_atOrBelow_18 rfl ?_
    refine v_inv B i_G_atOrBelow_19 kn_m_G_livesAt (c_G_lives B h (j := i) (by omega) v hv) (by first | assumption | exact qset_self _ _ _ | (rw [qset_ne _ _ (by omega)]; first | assumption | exact qset_self _ _ _ | (rw [qset_ne _ _ (by omega)]; first | assumption | exact qset_self _ _ _ | (rw [qset_ne _ _ (by omega)]; first | assumption | exact qset_self _ _ _ | (rw [qset_ne _ _ (by omega)]; first | assumption | exact qset_self _ _ _ | (rw [qset_ne _ _ (by omega)]; first | assumption | exact qset_self _ _ _ | (rw [qset_ne _ _ (by omega)]; first | assumption | exact qset_self _ _ _))))))) rfl rfl (Nat.le_of_ble_eq_true rfl) ⟨by decide, by decide, by first | decide | (simp; omega), by first | decide | (simp; omega)⟩ rfl (fun r X' hq => ?_) (fun _ _ h => False.elim h)
    obtain ⟨rfl, rfl⟩ := hq
    obtain ⟨g1, -, -, -⟩ := hg i (by omega)
    refine v_if_eq (tgt := 65) i_G_atOrBelow_22 rfl (fun h22 => ?_) (fun h22 => ?_)
    · refine tail _ ?_
      rw [gbel, if_neg (fun q => by rw [bI_0.mp h22] at q; exact absurd q.1 (by decide))]
    have hal := bI_ne h22
    refine v_aload_n i_G_atOrBelow_25 rfl ?_
    refine v_get B i_G_atOrBelow_26 (by first | assumption | exact qset_self _ _ _ | (rw [qset_ne _ _ (by omega)]; first | assumption | exact qset_self _ _ _ | (rw [qset_ne _ _ (by omega)]; first | assumption | exact qset_self _ _ _ | (rw [qset_ne _ _ (by omega)]; first | assumption | exact qset_self _ _ _ | (rw [qset_ne _ _ (by omega)]; first | assumption | exact qset_self _ _ _ | (rw [qset_ne _ _ (by omega)]; first | assumption | exact qset_self _ _ _ | (rw [qset_ne _ _ (by omega)]; first | assumption | exact qset_self _ _ _))))))) rfl ?_
    refine v_iload i_G_atOrBelow_29 rfl ?_
    refine v_iald B (by first | assumption | exact qset_self _ _ _ | (rw [qset_ne _ _ (by omega)]; first | assumption | exact qset_self _ _ _ | (rw [qset_ne _ _ (by omega)]; first | assumption | exact qset_self _ _ _ | (rw [qset_ne _ _ (by omega)]; first | assumption | exact qset_self _ _ _ | (rw [qset_ne _ _ (by omega)]; first | assumption | exact qset_self _ _ _ | (rw [qset_ne _ _ (by omega)]; first | assumption | exact qset_self _ _ _ | (rw [qset_ne _ _ (by omega)]; first | assumption | exact qset_self _ _ _))))))) rfl (by omega) (by omega) i_G_atOrBelow_31 ?_
    refine v_i2l i_G_atOrBelow_32 ?_
    refine v_lload_n i_G_atOrBelow_33 rfl ?_
    refine v_lcmp i_G_atOrBelow_34 ?_
    rw [g1]
    refine v_if_gt (tgt := 65) i_G_atOrBelow_35 rfl (fun h35 => ?_) (fun h35 => ?_)
    · refine tail _ ?_
      rw [gbel, if_neg (fun q => by have := i64_lt.mp (lcmp_gt.mp h35); omega)]
    have hK : (en P.2.2.2 i).1.toInt ≤ x.toInt := by
      have : ¬ x.toInt < (en P.2.2.2 i).1.toInt := fun q => h35 (lcmp_gt.mpr (i64_lt.mpr q))
      omega
    refine v_iload i_G_atOrBelow_38 rfl ?_
    refine v_iconst (v := (-1)) i_G_atOrBelow_40 rfl ?_
    cases hb : gbel P.2.2.2 x.toInt v i with
    | none =>
      rw [hb] at take
      refine v_icmp_eq (tgt := 61) i_G_atOrBelow_41 rfl (fun h41 => ?_) (fun h41 => ?_)
      · refine take ?_
        rw [gbel, if_pos ⟨hal, hK, fun b hb' => by rw [hb] at hb'; cases hb'⟩]
      · exact absurd rfl h41
    | some b =>
      rw [hb] at take
      have hbl := gbel_lt _ _ _ _ _ hb
      refine v_icmp_eq (tgt := 61) i_G_atOrBelow_41 rfl (fun h41 => ?_) (fun h41 => ?_)
      · have := (vO_none (o := some b) (fun t ht => by cases ht; omega)).mp h41
        cases this
      refine v_aload_n i_G_atOrBelow_44 rfl ?_
      refine v_get B i_G_atOrBelow_45 (by first | assumption | exact qset_self _ _ _ | (rw [qset_ne _ _ (by omega)]; first | assumption | exact qset_self _ _ _ | (rw [qset_ne _ _ (by omega)]; first | assumption | exact qset_self _ _ _ | (rw [qset_ne _ _ (by omega)]; first | assumption | exact qset_self _ _ _ | (rw [qset_ne _ _ (by omega)]; first | assumption | exact qset_self _ _ _ | (rw [qset_ne _ _ (by omega)]; first | assumption | exact qset_self _ _ _ | (rw [qset_ne _ _ (by omega)]; first | assumption | exact qset_self _ _ _))))))) rfl ?_
      refine v_iload i_G_atOrBelow_48 rfl ?_
      refine v_iald B (by first | assumption | exact qset_self _ _ _ | (rw [qset_ne _ _ (by omega)]; first | assumption | exact qset_self _ _ _ | (rw [qset_ne _ _ (by omega)]; first | assumption | exact qset_self _ _ _ | (rw [qset_ne _ _ (by omega)]; first | assumption | exact qset_self _ _ _ | (rw [qset_ne _ _ (by omega)]; first | assumption | exact qset_self _ _ _ | (rw [qset_ne _ _ (by omega)]; first | assumption | exact qset_self _ _ _ | (rw [qset_ne _ _ (by omega)]; first | assumption | exact qset_self _ _ _))))))) rfl (by omega) (by omega) i_G_atOrBelow_50 ?_
      refine v_aload_n i_G_atOrBelow_51 rfl ?_
      refine v_get B i_G_atOrBelow_52 (by first | assumption | exact qset_self _ _ _ | (rw [qset_ne _ _ (by omega)]; first | assumption | exact qset_self _ _ _ | (rw [qset_ne _ _ (by omega)]; first | assumption | exact qset_self _ _ _ | (rw [qset_ne _ _ (by omega)]; first | assumption | exact qset_self _ _ _ | (rw [qset_ne _ _ (by omega)]; first | assumption | exact qset_self _ _ _ | (rw [qset_ne _ _ (by omega)]; first | assumption | exact qset_self _ _ _ | (rw [qset_ne _ _ (by omega)]; first | assumption | exact qset_self _ _ _))))))) rfl ?_
      refine v_iload i_G_atOrBelow_55 rfl ?_
      refine v_iald (j := b) B hk rfl (by omega) (by omega) i_G_atOrBelow_57 ?_
      rw [g1, (hg b (by omega)).1]
      refine v_icmp_le (tgt := 65) i_G_atOrBelow_58 rfl (fun h58 => ?_) (fun h58 => ?_)
      · refine tail _ ?_
        rw [gbel, if_neg (fun q => by have := q.2.2 b hb; exact absurd this (Int32.not_lt.mpr h58))]
        exact hb
      · refine take ?_
        rw [gbel, if_pos ⟨hal, hK, fun b' hb' => by rw [hb] at hb'; cases hb'; exact Int32.not_le.mp h58⟩]
theorem c_G_atOrBelow (B : qB l s0 C) (h : PgAt X a num P) (x : Int64) (v : Nat) (hv : v < 2 ^ 30) : qMet l s0 C m_G_atOrBelow rm_G_atOrBelow [.ref a, .long x, .int (nI v)] X (fun r X' => X = X' ∧ r = some (.int (vO (gbel P.2.2.2 x.toInt v P.2.2.2.length)))) (fun _ _ => False) := by
  refine q_of (by decide +kernel) (Nat.le_of_ble_eq_true rfl) ?_
  refine v_L (L' := [(0, .ref a), (1, .long x), (3, .int (nI v))]) rfl ?_
  refine v_iconst (v := (-1)) i_G_atOrBelow_0 rfl ?_
  refine v_istore i_G_atOrBelow_1 (by decide) rfl ?_
  refine v_iconst (v := 0) i_G_atOrBelow_3 rfl ?_
  refine v_istore i_G_atOrBelow_4 (by decide) rfl ?_
  refine v_loc [(0, .ref a), (1, .long x), (3, .int (nI v)), (4, .int (vO none)), (5, .int (nI 0))] rfl ?_
  exact c_G_atOrBelow_loop B h x v hv _ 0 (Nat.zero_add _)
theorem c_G_atOrAbove_loop (B : qB l s0 C) (h : PgAt X a num P) (x : Int64) (v : Nat) (hv : v < 2 ^ 30) : ∀ (j i : Nat), i + j = P.2.2.2.length →
      qV l s0 C m_G_atOrAbove rm_G_atOrAbove (fun r X' => X = X' ∧ r = some (.int (vO (gabo P.2.2.2 x.toInt v P.2.2.2.length)))) (fun _ _ => False) 0 0 X 6 [(0, .ref a), (1, .long x), (3, .int (nI v)), (4, .int (vO (gabo P.2.2.2 x.toInt v i))), (5, .int (nI i))] [] := by
  obtain ⟨h0, ⟨ok1, ok2, ok3, ok4, ok5⟩, fk, ff, ft, fw, hk, hf, ht, hw, hg⟩ := id h
  intro j
  induction j with
  | zero =>
    intro i hi
    refine v_iload i_G_atOrAbove_6 rfl ?_
    refine v_aload_n i_G_atOrAbove_8 rfl ?_
    refine v_get B i_G_atOrAbove_9 (by first | assumption | exact qset_self _ _ _ | (rw [qset_ne _ _ (by omega)]; first | assumption | exact qset_self _ _ _ | (rw [qset_ne _ _ (by omega)]; first | assumption | exact qset_self _ _ _ | (rw [qset_ne _ _ (by omega)]; first | assumption | exact qset_self _ _ _ | (rw [qset_ne _ _ (by omega)]; first | assumption | exact qset_self _ _ _ | (rw [qset_ne _ _ (by omega)]; first | assumption | exact qset_self _ _ _ | (rw [qset_ne _ _ (by omega)]; first | assumption | exact qset_self _ _ _))))))) rfl ?_
    refine v_icmp_ge (tgt := 71) i_G_atOrAbove_12 rfl (fun h12 => ?_) (fun h12 => ?_)
    · refine v_iload i_G_atOrAbove_71 rfl ?_
      refine v_iret i_G_atOrAbove_73 rfl (by decide) (by decide) ⟨rfl, ?_⟩
      rw [show i = P.2.2.2.length by omega]
    · exact absurd (nI_le (by omega) (by omega)) h12
  | succ j ih =>
    intro i hi
    have tail : ∀ b : Option Nat, gabo P.2.2.2 x.toInt v (i + 1) = b → qV l s0 C m_G_atOrAbove rm_G_atOrAbove (fun r X' => X = X' ∧ r = some (.int (vO (gabo P.2.2.2 x.toInt v P.2.2.2.length)))) (fun _ _ => False) 0 0 X 65 [(0, .ref a), (1, .long x), (3, .int (nI v)), (4, .int (vO b)), (5, .int (nI i))] [] := by
      intro b hb
      refine v_iinc (v := nI (i + 1)) i_G_atOrAbove_65 rfl (nI_1 i) (by decide) rfl ?_
      refine v_goto (tgt := 6) i_G_atOrAbove_68 rfl ?_
      refine v_loc [(0, .ref a), (1, .long x), (3, .int (nI v)), (4, .int (vO (gabo P.2.2.2 x.toInt v (i + 1)))), (5, .int (nI (i + 1)))] (by rw [hb]; rfl) (ih (i + 1) (by omega))
    have take : gabo P.2.2.2 x.toInt v (i + 1) = some i → qV l s0 C m_G_atOrAbove rm_G_atOrAbove (fun r X' => X = X' ∧ r = some (.int (vO (gabo P.2.2.2 x.toInt v P.2.2.2.length)))) (fun _ _ => False) 0 0 X 61 [(0, .ref a), (1, .long x), (3, .int (nI v)), (4, .int (vO (gabo P.2.2.2 x.toInt v i))), (5, .int (nI i))] [] := by
      intro hb
      refine v_iload i_G_atOrAbove_61 rfl ?_
      refine v_istore i_G_atOrAbove_63 (by decide) rfl ?_
      refine v_loc [(0, .ref a), (1, .long x), (3, .int (nI v)), (4, .int (vO (some i))), (5, .int (nI i))] rfl ?_
      exact tail _ hb
    refine v_iload i_G_atOrAbove_6 rfl ?_
    refine v_aload_n i_G_atOrAbove_8 rfl ?_
    refine v_get B i_G_atOrAbove_9 (by first | assumption | exact qset_self _ _ _ | (rw [qset_ne _ _ (by omega)]; first | assumption | exact qset_self _ _ _ | (rw [qset_ne _ _ (by omega)]; first | assumption | exact qset_self _ _ _ | (rw [qset_ne _ _ (by omega)]; first | assumption | exact qset_self _ _ _ | (rw [qset_ne _ _ (by omega)]; first | assumption | exact qset_self _ _ _ | (rw [qset_ne _ _ (by omega)]; first | assumption | exact qset_self _ _ _ | (rw [qset_ne _ _ (by omega)]; first | assumption | exact qset_self _ _ _))))))) rfl ?_
    refine v_icmp_ge (tgt := 71) i_G_atOrAbove_12 rfl (fun h12 => ?_) (fun h12 => ?_)
    · exact absurd h12 (nI_ge (by omega) (by omega))
    refine v_aload_n i_G_atOrAbove_15 rfl ?_
    refine v_iload i_G_atOrAbove_16 rfl ?_
    refine v_iload_n i_G_atOrAbove_18 rfl ?_
    refine v_inv B i_G_atOrAbove_19 kn_m_G_livesAt (c_G_lives B h (j := i) (by omega) v hv) (by first | assumption | exact qset_self _ _ _ | (rw [qset_ne _ _ (by omega)]; first | assumption | exact qset_self _ _ _ | (rw [qset_ne _ _ (by omega)]; first | assumption | exact qset_self _ _ _ | (rw [qset_ne _ _ (by omega)]; first | assumption | exact qset_self _ _ _ | (rw [qset_ne _ _ (by omega)]; first | assumption | exact qset_self _ _ _ | (rw [qset_ne _ _ (by omega)]; first | assumption | exact qset_self _ _ _ | (rw [qset_ne _ _ (by omega)]; first | assumption | exact qset_self _ _ _))))))) rfl rfl (Nat.le_of_ble_eq_true rfl) ⟨by decide, by decide, by first | decide | (simp; omega), by first | decide | (simp; omega)⟩ rfl (fun r X' hq => ?_) (fun _ _ h => False.elim h)
    obtain ⟨rfl, rfl⟩ := hq
    obtain ⟨g1, -, -, -⟩ := hg i (by omega)
    refine v_if_eq (tgt := 65) i_G_atOrAbove_22 rfl (fun h22 => ?_) (fun h22 => ?_)
    · refine tail _ ?_
      rw [gabo, if_neg (fun q => by rw [bI_0.mp h22] at q; exact absurd q.1 (by decide))]
    have hal := bI_ne h22
    refine v_aload_n i_G_atOrAbove_25 rfl ?_
    refine v_get B i_G_atOrAbove_26 (by first | assumption | exact qset_self _ _ _ | (rw [qset_ne _ _ (by omega)]; first | assumption | exact qset_self _ _ _ | (rw [qset_ne _ _ (by omega)]; first | assumption | exact qset_self _ _ _ | (rw [qset_ne _ _ (by omega)]; first | assumption | exact qset_self _ _ _ | (rw [qset_ne _ _ (by omega)]; first | assumption | exact qset_self _ _ _ | (rw [qset_ne _ _ (by omega)]; first | assumption | exact qset_self _ _ _ | (rw [qset_ne _ _ (by omega)]; first | assumption | exact qset_self _ _ _))))))) rfl ?_
    refine v_iload i_G_atOrAbove_29 rfl ?_
    refine v_iald B (by first | assumption | exact qset_self _ _ _ | (rw [qset_ne _ _ (by omega)]; first | assumption | exact qset_self _ _ _ | (rw [qset_ne _ _ (by omega)]; first | assumption | exact qset_self _ _ _ | (rw [qset_ne _ _ (by omega)]; first | assumption | exact qset_self _ _ _ | (rw [qset_ne _ _ (by omega)]; first | assumption | exact qset_self _ _ _ | (rw [qset_ne _ _ (by omega)]; first | assumption | exact qset_self _ _ _ | (rw [qset_ne _ _ (by omega)]; first | assumption | exact qset_self _ _ _))))))) rfl (by omega) (by omega) i_G_atOrAbove_31 ?_
    refine v_i2l i_G_atOrAbove_32 ?_
    refine v_lload_n i_G_atOrAbove_33 rfl ?_
    refine v_lcmp i_G_atOrAbove_34 ?_
    rw [g1]
    refine v_if_lt (tgt := 65) i_G_atOrAbove_35 rfl (fun h35 => ?_) (fun h35 => ?_)
    · refine tail _ ?_
      rw [gabo, if_neg (fun q => by have := i64_gt.mp (lcmp_lt.mp h35); omega)]
    have hK : x.toInt ≤ (en P.2.2.2 i).1.toInt := by
      have : ¬ (en P.2.2.2 i).1.toInt < x.toInt := fun q => h35 (lcmp_lt.mpr (i64_gt.mpr q))
      omega
    refine v_iload i_G_atOrAbove_38 rfl ?_
    refine v_iconst (v := (-1)) i_G_atOrAbove_40 rfl ?_
    cases hb : gabo P.2.2.2 x.toInt v i with
    | none =>
      rw [hb] at take
      refine v_icmp_eq (tgt := 61) i_G_atOrAbove_41 rfl (fun h41 => ?_) (fun h41 => ?_)
      · refine take ?_
        rw [gabo, if_pos ⟨hal, hK, fun b hb' => by rw [hb] at hb'; cases hb'⟩]
      · exact absurd rfl h41
    | some b =>
      rw [hb] at take
      have hbl := gabo_lt _ _ _ _ _ hb
      refine v_icmp_eq (tgt := 61) i_G_atOrAbove_41 rfl (fun h41 => ?_) (fun h41 => ?_)
      · have := (vO_none (o := some b) (fun t ht => by cases ht; omega)).mp h41
        cases this
      refine v_aload_n i_G_atOrAbove_44 rfl ?_
      refine v_get B i_G_atOrAbove_45 (by first | assumption | exact qset_self _ _ _ | (rw [qset_ne _ _ (by omega)]; first | assumption | exact qset_self _ _ _ | (rw [qset_ne _ _ (by omega)]; first | assumption | exact qset_self _ _ _ | (rw [qset_ne _ _ (by omega)]; first | assumption | exact qset_self _ _ _ | (rw [qset_ne _ _ (by omega)]; first | assumption | exact qset_self _ _ _ | (rw [qset_ne _ _ (by omega)]; first | assumption | exact qset_self _ _ _ | (rw [qset_ne _ _ (by omega)]; first | assumption | exact qset_self _ _ _))))))) rfl ?_
      refine v_iload i_G_atOrAbove_48 rfl ?_
      refine v_iald B (by first | assumption | exact qset_self _ _ _ | (rw [qset_ne _ _ (by omega)]; first | assumption | exact qset_self _ _ _ | (rw [qset_ne _ _ (by omega)]; first | assumption | exact qset_self _ _ _ | (rw [qset_ne _ _ (by omega)]; first | assumption | exact qset_self _ _ _ | (rw [qset_ne _ _ (by omega)]; first | assumption | exact qset_self _ _ _ | (rw [qset_ne _ _ (by omega)]; first | assumption | exact qset_self _ _ _ | (rw [qset_ne _ _ (by omega)]; first | assumption | exact qset_self _ _ _))))))) rfl (by omega) (by omega) i_G_atOrAbove_50 ?_
      refine v_aload_n i_G_atOrAbove_51 rfl ?_
      refine v_get B i_G_atOrAbove_52 (by first | assumption | exact qset_self _ _ _ | (rw [qset_ne _ _ (by omega)]; first | assumption | exact qset_self _ _ _ | (rw [qset_ne _ _ (by omega)]; first | assumption | exact qset_self _ _ _ | (rw [qset_ne _ _ (by omega)]; first | assumption | exact qset_self _ _ _ | (rw [qset_ne _ _ (by omega)]; first | assumption | exact qset_self _ _ _ | (rw [qset_ne _ _ (by omega)]; first | assumption | exact qset_self _ _ _ | (rw [qset_ne _ _ (by omega)]; first | assumption | exact qset_self _ _ _))))))) rfl ?_
      refine v_iload i_G_atOrAbove_55 rfl ?_
      refine v_iald (j := b) B hk rfl (by omega) (by omega) i_G_atOrAbove_57 ?_
      rw [g1, (hg b (by omega)).1]
      refine v_icmp_ge (tgt := 65) i_G_atOrAbove_58 rfl (fun h58 => ?_) (fun h58 => ?_)
      · refine tail _ ?_
        rw [gabo, if_neg (fun q => by have := q.2.2 b hb; exact absurd this (Int32.not_lt.mpr h58))]
        exact hb
      · refine take ?_
        rw [gabo, if_pos ⟨hal, hK, fun b' hb' => by rw [hb] at hb'; cases hb'; exact Int32.not_le.mp h58⟩]
theorem c_G_atOrAbove (B : qB l s0 C) (h : PgAt X a num P) (x : Int64) (v : Nat) (hv : v < 2 ^ 30) : qMet l s0 C m_G_atOrAbove rm_G_atOrAbove [.ref a, .long x, .int (nI v)] X (fun r X' => X = X' ∧ r = some (.int (vO (gabo P.2.2.2 x.toInt v P.2.2.2.length)))) (fun _ _ => False) := by
  refine q_of (by decide +kernel) (Nat.le_of_ble_eq_true rfl) ?_
  refine v_L (L' := [(0, .ref a), (1, .long x), (3, .int (nI v))]) rfl ?_
  refine v_iconst (v := (-1)) i_G_atOrAbove_0 rfl ?_
  refine v_istore i_G_atOrAbove_1 (by decide) rfl ?_
  refine v_iconst (v := 0) i_G_atOrAbove_3 rfl ?_
  refine v_istore i_G_atOrAbove_4 (by decide) rfl ?_
  refine v_loc [(0, .ref a), (1, .long x), (3, .int (nI v)), (4, .int (vO none)), (5, .int (nI 0))] rfl ?_
  exact c_G_atOrAbove_loop B h x v hv _ 0 (Nat.zero_add _)
/-- the entry alive of a key -/
def gslot (P : Pg) (k : Int32) (v : Nat) : Option Nat := match gbel P.2.2.2 k.toInt v P.2.2.2.length with
  | none => none
  | some i => if (en P.2.2.2 i).1 = k then some i else none
/-- the entry that stands for a key -/
def gstand (P : Pg) (k : Int32) (v : Nat) : Option Nat := match gbel P.2.2.2 k.toInt v P.2.2.2.length with
  | none => gabo P.2.2.2 k.toInt v P.2.2.2.length
  | some i => some i
def gnext (P : Pg) (i : Int32) (v : Nat) : Option Nat := gabo P.2.2.2 ((gkeyAt P i).toInt + 1) v P.2.2.2.length
def gneigh (P : Pg) (i : Int32) (v : Nat) : Option Nat := match gnext P i v with
  | none => gbel P.2.2.2 ((gkeyAt P i).toInt - 1) v P.2.2.2.length
  | some j => some j
theorem gkeyAt_nI {j : Nat} (h : j < P.2.2.2.length) (hl : P.2.2.2.length ≤ 16) : gkeyAt P (nI j) = (en P.2.2.2 j).1 := by
  rw [gkeyAt, if_pos ⟨nI_pos' (by omega), nI_lt h (by omega)⟩, nI_clamp (by omega)]
theorem k_add1 (k : Int32) : (k.toInt64 + 1).toInt = k.toInt + 1 := by
  have h1 := k.toInt_lt
  have h2 := k.le_toInt
  rw [Int64.toInt_add, Int32.toInt_toInt64, show (1 : Int64).toInt = 1 from rfl]
  rw [Int.bmod_eq_of_le] <;> omega
theorem k_sub1 (k : Int32) : (k.toInt64 - 1).toInt = k.toInt - 1 := by
  have h1 := k.toInt_lt
  have h2 := k.le_toInt
  rw [Int64.toInt_sub, Int32.toInt_toInt64, show (1 : Int64).toInt = 1 from rfl]
  rw [Int.bmod_eq_of_le] <;> omega
theorem c_G_slotOf (B : qB l s0 C) (h : PgAt X a num P) (k : Int32) (v : Nat) (hv : v < 2 ^ 30) : qMet l s0 C m_G_slotOf rm_G_slotOf [.ref a, .int k, .int (nI v)] X (fun r X' => X = X' ∧ r = some (.int (vO (gslot P k v)))) (fun _ _ => False) := by
  obtain ⟨h0, ⟨ok1, ok2, ok3, ok4, ok5⟩, -⟩ := id h
  refine q_of (by decide +kernel) (Nat.le_of_ble_eq_true rfl) ?_
  refine v_L (L' := [(0, .ref a), (1, .int k), (2, .int (nI v))]) rfl ?_
  refine v_aload_n i_G_slotOf_0 rfl ?_
  refine v_iload_n i_G_slotOf_1 rfl ?_
  refine v_i2l i_G_slotOf_2 ?_
  refine v_iload_n i_G_slotOf_3 rfl ?_
  refine v_inv B i_G_slotOf_4 kn_m_G_atOrBelow (c_G_atOrBelow B h k.toInt64 v hv) (by first | assumption | exact qset_self _ _ _ | (rw [qset_ne _ _ (by omega)]; first | assumption | exact qset_self _ _ _ | (rw [qset_ne _ _ (by omega)]; first | assumption | exact qset_self _ _ _ | (rw [qset_ne _ _ (by omega)]; first | assumption | exact qset_self _ _ _ | (rw [qset_ne _ _ (by omega)]; first | assumption | exact qset_self _ _ _ | (rw [qset_ne _ _ (by omega)]; first | assumption | exact qset_self _ _ _ | (rw [qset_ne _ _ (by omega)]; first | assumption | exact qset_self _ _ _))))))) rfl rfl (Nat.le_of_ble_eq_true rfl) ⟨by decide, by decide, by first | decide | (simp; omega), by first | decide | (simp; omega)⟩ rfl (fun r X' hq => ?_) (fun _ _ h => False.elim h)
  obtain ⟨rfl, rfl⟩ := hq
  rw [Int32.toInt_toInt64]
  refine v_istore_n i_G_slotOf_7 (by decide) rfl ?_
  refine v_iload_n i_G_slotOf_8 rfl ?_
  refine v_iconst (v := (-1)) i_G_slotOf_9 rfl ?_
  cases hb : gbel P.2.2.2 k.toInt v P.2.2.2.length with
  | none =>
    refine v_icmp_eq (tgt := 26) i_G_slotOf_10 rfl (fun h10 => ?_) (fun h10 => ?_)
    · refine v_iconst (v := (-1)) i_G_slotOf_26 rfl ?_
      refine v_iret i_G_slotOf_27 rfl (by decide) (by decide) ⟨rfl, ?_⟩
      simp only [gslot, hb]; rfl
    · exact absurd rfl h10
  | some b =>
    have hbl := gbel_lt _ _ _ _ _ hb
    refine v_icmp_eq (tgt := 26) i_G_slotOf_10 rfl (fun h10 => ?_) (fun h10 => ?_)
    · have := (vO_none (o := some b) (fun t ht => by cases ht; omega)).mp h10
      cases this
    refine v_aload_n i_G_slotOf_13 rfl ?_
    refine v_iload_n i_G_slotOf_14 rfl ?_
    refine v_inv B i_G_slotOf_15 kn_m_G_keyAt (c_G_keyAt B h (nI b)) (by first | assumption | exact qset_self _ _ _ | (rw [qset_ne _ _ (by omega)]; first | assumption | exact qset_self _ _ _ | (rw [qset_ne _ _ (by omega)]; first | assumption | exact qset_self _ _ _ | (rw [qset_ne _ _ (by omega)]; first | assumption | exact qset_self _ _ _ | (rw [qset_ne _ _ (by omega)]; first | assumption | exact qset_self _ _ _ | (rw [qset_ne _ _ (by omega)]; first | assumption | exact qset_self _ _ _ | (rw [qset_ne _ _ (by omega)]; first | assumption | exact qset_self _ _ _))))))) rfl rfl (Nat.le_of_ble_eq_true rfl) ⟨by decide, by decide, by first | decide | (simp; omega), by first | decide | (simp; omega)⟩ rfl (fun r X' hq => ?_) (fun _ _ h => False.elim h)
    obtain ⟨rfl, rfl⟩ := hq
    rw [gkeyAt_nI hbl ok4]
    refine v_iload_n i_G_slotOf_18 rfl ?_
    refine v_icmp_ne (tgt := 26) i_G_slotOf_19 rfl (fun h19 => ?_) (fun h19 => ?_)
    · refine v_iconst (v := (-1)) i_G_slotOf_26 rfl ?_
      refine v_iret i_G_slotOf_27 rfl (by decide) (by decide) ⟨rfl, ?_⟩
      simp only [gslot, hb, if_neg h19]; rfl
    · refine v_iload_n i_G_slotOf_22 rfl ?_
      refine v_goto (tgt := 27) i_G_slotOf_23 rfl ?_
      refine v_iret i_G_slotOf_27 rfl (by decide) (by decide) ⟨rfl, ?_⟩
      simp only [gslot, hb, if_pos h19]
theorem c_G_standingFor (B : qB l s0 C) (h : PgAt X a num P) (k : Int32) (v : Nat) (hv : v < 2 ^ 30) : qMet l s0 C m_G_standingFor rm_G_standingFor [.ref a, .int k, .int (nI v)] X (fun r X' => X = X' ∧ r = some (.int (vO (gstand P k v)))) (fun _ _ => False) := by
  obtain ⟨h0, ⟨ok1, ok2, ok3, ok4, ok5⟩, -⟩ := id h
  refine q_of (by decide +kernel) (Nat.le_of_ble_eq_true rfl) ?_
  refine v_L (L' := [(0, .ref a), (1, .int k), (2, .int (nI v))]) rfl ?_
  refine v_aload_n i_G_standingFor_0 rfl ?_
  refine v_iload_n i_G_standingFor_1 rfl ?_
  refine v_i2l i_G_standingFor_2 ?_
  refine v_iload_n i_G_standingFor_3 rfl ?_
  refine v_inv B i_G_standingFor_4 kn_m_G_atOrBelow (c_G_atOrBelow B h k.toInt64 v hv) (by first | assumption | exact qset_self _ _ _ | (rw [qset_ne _ _ (by omega)]; first | assumption | exact qset_self _ _ _ | (rw [qset_ne _ _ (by omega)]; first | assumption | exact qset_self _ _ _ | (rw [qset_ne _ _ (by omega)]; first | assumption | exact qset_self _ _ _ | (rw [qset_ne _ _ (by omega)]; first | assumption | exact qset_self _ _ _ | (rw [qset_ne _ _ (by omega)]; first | assumption | exact qset_self _ _ _ | (rw [qset_ne _ _ (by omega)]; first | assumption | exact qset_self _ _ _))))))) rfl rfl (Nat.le_of_ble_eq_true rfl) ⟨by decide, by decide, by first | decide | (simp; omega), by first | decide | (simp; omega)⟩ rfl (fun r X' hq => ?_) (fun _ _ h => False.elim h)
  obtain ⟨rfl, rfl⟩ := hq
  rw [Int32.toInt_toInt64]
  refine v_istore_n i_G_standingFor_7 (by decide) rfl ?_
  refine v_iload_n i_G_standingFor_8 rfl ?_
  refine v_iconst (v := (-1)) i_G_standingFor_9 rfl ?_
  cases hb : gbel P.2.2.2 k.toInt v P.2.2.2.length with
  | none =>
    refine v_icmp_eq (tgt := 17) i_G_standingFor_10 rfl (fun h10 => ?_) (fun h10 => ?_)
    · refine v_aload_n i_G_standingFor_17 rfl ?_
      refine v_iload_n i_G_standingFor_18 rfl ?_
      refine v_i2l i_G_standingFor_19 ?_
      refine v_iload_n i_G_standingFor_20 rfl ?_
      refine v_inv B i_G_standingFor_21 kn_m_G_atOrAbove (c_G_atOrAbove B h k.toInt64 v hv) (by first | assumption | exact qset_self _ _ _ | (rw [qset_ne _ _ (by omega)]; first | assumption | exact qset_self _ _ _ | (rw [qset_ne _ _ (by omega)]; first | assumption | exact qset_self _ _ _ | (rw [qset_ne _ _ (by omega)]; first | assumption | exact qset_self _ _ _ | (rw [qset_ne _ _ (by omega)]; first | assumption | exact qset_self _ _ _ | (rw [qset_ne _ _ (by omega)]; first | assumption | exact qset_self _ _ _ | (rw [qset_ne _ _ (by omega)]; first | assumption | exact qset_self _ _ _))))))) rfl rfl (Nat.le_of_ble_eq_true rfl) ⟨by decide, by decide, by first | decide | (simp; omega), by first | decide | (simp; omega)⟩ rfl (fun r X' hq => ?_) (fun _ _ h => False.elim h)
      obtain ⟨rfl, rfl⟩ := hq
      rw [Int32.toInt_toInt64]
      refine v_iret i_G_standingFor_24 rfl (by decide) (by decide) ⟨rfl, ?_⟩
      simp only [gstand, hb]
    · exact absurd rfl h10
  | some b =>
    have hbl := gbel_lt _ _ _ _ _ hb
    refine v_icmp_eq (tgt := 17) i_G_standingFor_10 rfl (fun h10 => ?_) (fun h10 => ?_)
    · have := (vO_none (o := some b) (fun t ht => by cases ht; omega)).mp h10
      cases this
    · refine v_iload_n i_G_standingFor_13 rfl ?_
      refine v_goto (tgt := 24) i_G_standingFor_14 rfl ?_
      refine v_iret i_G_standingFor_24 rfl (by decide) (by decide) ⟨rfl, ?_⟩
      simp only [gstand, hb]
theorem c_G_behind (B : qB l s0 C) (h : PgAt X a num P) (i : Int32) (v : Nat) (hv : v < 2 ^ 30) : qMet l s0 C m_G_behind rm_G_behind [.ref a, .int i, .int (nI v)] X (fun r X' => X = X' ∧ r = some (.int (vO (gnext P i v)))) (fun _ _ => False) := by
  obtain ⟨h0, ⟨ok1, ok2, ok3, ok4, ok5⟩, -⟩ := id h
  refine q_of (by decide +kernel) (Nat.le_of_ble_eq_true rfl) ?_
  refine v_L (L' := [(0, .ref a), (1, .int i), (2, .int (nI v))]) rfl ?_
  refine v_aload_n i_G_behind_0 rfl ?_
  refine v_aload_n i_G_behind_1 rfl ?_
  refine v_iload_n i_G_behind_2 rfl ?_
  refine v_inv B i_G_behind_3 kn_m_G_keyAt (c_G_keyAt B h i) (by first | assumption | exact qset_self _ _ _ | (rw [qset_ne _ _ (by omega)]; first | assumption | exact qset_self _ _ _ | (rw [qset_ne _ _ (by omega)]; first | assumption | exact qset_self _ _ _ | (rw [qset_ne _ _ (by omega)]; first | assumption | exact qset_self _ _ _ | (rw [qset_ne _ _ (by omega)]; first | assumption | exact qset_self _ _ _ | (rw [qset_ne _ _ (by omega)]; first | assumption | exact qset_self _ _ _ | (rw [qset_ne _ _ (by omega)]; first | assumption | exact qset_self _ _ _))))))) rfl rfl (Nat.le_of_ble_eq_true rfl) ⟨by decide, by decide, by first | decide | (simp; omega), by first | decide | (simp; omega)⟩ rfl (fun r X' hq => ?_) (fun _ _ h => False.elim h)
  obtain ⟨rfl, rfl⟩ := hq
  refine v_i2l i_G_behind_6 ?_
  refine v_lconst (v := 1) i_G_behind_7 rfl ?_
  refine v_ladd i_G_behind_8 ?_
  refine v_iload_n i_G_behind_9 rfl ?_
  refine v_inv B i_G_behind_10 kn_m_G_atOrAbove (c_G_atOrAbove B h ((gkeyAt P i).toInt64 + 1) v hv) (by first | assumption | exact qset_self _ _ _ | (rw [qset_ne _ _ (by omega)]; first | assumption | exact qset_self _ _ _ | (rw [qset_ne _ _ (by omega)]; first | assumption | exact qset_self _ _ _ | (rw [qset_ne _ _ (by omega)]; first | assumption | exact qset_self _ _ _ | (rw [qset_ne _ _ (by omega)]; first | assumption | exact qset_self _ _ _ | (rw [qset_ne _ _ (by omega)]; first | assumption | exact qset_self _ _ _ | (rw [qset_ne _ _ (by omega)]; first | assumption | exact qset_self _ _ _))))))) rfl rfl (Nat.le_of_ble_eq_true rfl) ⟨by decide, by decide, by first | decide | (simp; omega), by first | decide | (simp; omega)⟩ rfl (fun r X' hq => ?_) (fun _ _ h => False.elim h)
  obtain ⟨rfl, rfl⟩ := hq
  rw [k_add1]
  exact v_iret i_G_behind_13 rfl (by decide) (by decide) ⟨rfl, rfl⟩
theorem c_G_neighbourOf (B : qB l s0 C) (h : PgAt X a num P) (i : Int32) (v : Nat) (hv : v < 2 ^ 30) : qMet l s0 C m_G_neighbourOf rm_G_neighbourOf [.ref a, .int i, .int (nI v)] X (fun r X' => X = X' ∧ r = some (.int (vO (gneigh P i v)))) (fun _ _ => False) := by
  obtain ⟨h0, ⟨ok1, ok2, ok3, ok4, ok5⟩, -⟩ := id h
  refine q_of (by decide +kernel) (Nat.le_of_ble_eq_true rfl) ?_
  refine v_L (L' := [(0, .ref a), (1, .int i), (2, .int (nI v))]) rfl ?_
  refine v_aload_n i_G_neighbourOf_0 rfl ?_
  refine v_aload_n i_G_neighbourOf_1 rfl ?_
  refine v_iload_n i_G_neighbourOf_2 rfl ?_
  refine v_inv B i_G_neighbourOf_3 kn_m_G_keyAt (c_G_keyAt B h i) (by first | assumption | exact qset_self _ _ _ | (rw [qset_ne _ _ (by omega)]; first | assumption | exact qset_self _ _ _ | (rw [qset_ne _ _ (by omega)]; first | assumption | exact qset_self _ _ _ | (rw [qset_ne _ _ (by omega)]; first | assumption | exact qset_self _ _ _ | (rw [qset_ne _ _ (by omega)]; first | assumption | exact qset_self _ _ _ | (rw [qset_ne _ _ (by omega)]; first | assumption | exact qset_self _ _ _ | (rw [qset_ne _ _ (by omega)]; first | assumption | exact qset_self _ _ _))))))) rfl rfl (Nat.le_of_ble_eq_true rfl) ⟨by decide, by decide, by first | decide | (simp; omega), by first | decide | (simp; omega)⟩ rfl (fun r X' hq => ?_) (fun _ _ h => False.elim h)
  obtain ⟨rfl, rfl⟩ := hq
  refine v_i2l i_G_neighbourOf_6 ?_
  refine v_lconst (v := 1) i_G_neighbourOf_7 rfl ?_
  refine v_ladd i_G_neighbourOf_8 ?_
  refine v_iload_n i_G_neighbourOf_9 rfl ?_
  refine v_inv B i_G_neighbourOf_10 kn_m_G_atOrAbove (c_G_atOrAbove B h ((gkeyAt P i).toInt64 + 1) v hv) (by first | assumption | exact qset_self _ _ _ | (rw [qset_ne _ _ (by omega)]; first | assumption | exact qset_self _ _ _ | (rw [qset_ne _ _ (by omega)]; first | assumption | exact qset_self _ _ _ | (rw [qset_ne _ _ (by omega)]; first | assumption | exact qset_self _ _ _ | (rw [qset_ne _ _ (by omega)]; first | assumption | exact qset_self _ _ _ | (rw [qset_ne _ _ (by omega)]; first | assumption | exact qset_self _ _ _ | (rw [qset_ne _ _ (by omega)]; first | assumption | exact qset_self _ _ _))))))) rfl rfl (Nat.le_of_ble_eq_true rfl) ⟨by decide, by decide, by first | decide | (simp; omega), by first | decide | (simp; omega)⟩ rfl (fun r X' hq => ?_) (fun _ _ h => False.elim h)
  obtain ⟨rfl, rfl⟩ := hq
  rw [k_add1]
  refine v_istore_n i_G_neighbourOf_13 (by decide) rfl ?_
  refine v_iload_n i_G_neighbourOf_14 rfl ?_
  refine v_iconst (v := (-1)) i_G_neighbourOf_15 rfl ?_
  cases hb : gabo P.2.2.2 ((gkeyAt P i).toInt + 1) v P.2.2.2.length with
  | none =>
    refine v_icmp_eq (tgt := 23) i_G_neighbourOf_16 rfl (fun h16 => ?_) (fun h16 => ?_)
    · refine v_aload_n i_G_neighbourOf_23 rfl ?_
      refine v_aload_n i_G_neighbourOf_24 rfl ?_
      refine v_iload_n i_G_neighbourOf_25 rfl ?_
      refine v_inv B i_G_neighbourOf_26 kn_m_G_keyAt (c_G_keyAt B h i) (by first | assumption | exact qset_self _ _ _ | (rw [qset_ne _ _ (by omega)]; first | assumption | exact qset_self _ _ _ | (rw [qset_ne _ _ (by omega)]; first | assumption | exact qset_self _ _ _ | (rw [qset_ne _ _ (by omega)]; first | assumption | exact qset_self _ _ _ | (rw [qset_ne _ _ (by omega)]; first | assumption | exact qset_self _ _ _ | (rw [qset_ne _ _ (by omega)]; first | assumption | exact qset_self _ _ _ | (rw [qset_ne _ _ (by omega)]; first | assumption | exact qset_self _ _ _))))))) rfl rfl (Nat.le_of_ble_eq_true rfl) ⟨by decide, by decide, by first | decide | (simp; omega), by first | decide | (simp; omega)⟩ rfl (fun r X' hq => ?_) (fun _ _ h => False.elim h)
      obtain ⟨rfl, rfl⟩ := hq
      refine v_i2l i_G_neighbourOf_29 ?_
      refine v_lconst (v := 1) i_G_neighbourOf_30 rfl ?_
      refine v_lsub i_G_neighbourOf_31 ?_
      refine v_iload_n i_G_neighbourOf_32 rfl ?_
      refine v_inv B i_G_neighbourOf_33 kn_m_G_atOrBelow (c_G_atOrBelow B h ((gkeyAt P i).toInt64 - 1) v hv) (by first | assumption | exact qset_self _ _ _ | (rw [qset_ne _ _ (by omega)]; first | assumption | exact qset_self _ _ _ | (rw [qset_ne _ _ (by omega)]; first | assumption | exact qset_self _ _ _ | (rw [qset_ne _ _ (by omega)]; first | assumption | exact qset_self _ _ _ | (rw [qset_ne _ _ (by omega)]; first | assumption | exact qset_self _ _ _ | (rw [qset_ne _ _ (by omega)]; first | assumption | exact qset_self _ _ _ | (rw [qset_ne _ _ (by omega)]; first | assumption | exact qset_self _ _ _))))))) rfl rfl (Nat.le_of_ble_eq_true rfl) ⟨by decide, by decide, by first | decide | (simp; omega), by first | decide | (simp; omega)⟩ rfl (fun r X' hq => ?_) (fun _ _ h => False.elim h)
      obtain ⟨rfl, rfl⟩ := hq
      rw [k_sub1]
      refine v_iret i_G_neighbourOf_36 rfl (by decide) (by decide) ⟨rfl, ?_⟩
      simp only [gneigh, gnext, hb]
    · exact absurd rfl h16
  | some b =>
    have hbl := gabo_lt _ _ _ _ _ hb
    refine v_icmp_eq (tgt := 23) i_G_neighbourOf_16 rfl (fun h16 => ?_) (fun h16 => ?_)
    · have := (vO_none (o := some b) (fun t ht => by cases ht; omega)).mp h16
      cases this
    · refine v_iload_n i_G_neighbourOf_19 rfl ?_
      refine v_goto (tgt := 36) i_G_neighbourOf_20 rfl ?_
      refine v_iret i_G_neighbourOf_36 rfl (by decide) (by decide) ⟨rfl, ?_⟩
      simp only [gneigh, gnext, hb]
end PF
