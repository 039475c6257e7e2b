/-! where two versions differ: the class and the reference walk alike -/
def ydx (R S : qRw) : Nat → Nat → Nat → Nat → Option Int32
  | 0, _, _, _ => none
  | f + 1, j, i, c => if j < R.length ∧ i < S.length then
      (if rk R j < rk S i then (if c = 0 then some (rk R j) else ydx R S f (j + 1) i (c - 1))
       else if rk S i < rk R j then (if c = 0 then some (rk S i) else ydx R S f j (i + 1) (c - 1))
       else if rv R j = rv S i then ydx R S f (j + 1) (i + 1) c else (if c = 0 then some (rk R j) else ydx R S f (j + 1) (i + 1) (c - 1)))
    else if j < R.length then (if c = 0 then some (rk R j) else ydx R S f (j + 1) i (c - 1))
    else if i < S.length then (if c = 0 then some (rk S i) else ydx R S f j (i + 1) (c - 1))
    else none
theorem ydx_end {R S : qRw} : ∀ {f j i c : Nat}, R.length ≤ j → S.length ≤ i → ydx R S f j i c = none
  | 0, _, _, _, _, _ => rfl
  | f + 1, j, i, c, h1, h2 => by rw [ydx, if_neg (by omega), if_neg (by omega), if_neg (by omega)]
def yans (o : Option Int32) : Int64 := match o with
  | none => 9223372036854775807
  | some x => x.toInt64
theorem toInt64_lt {x y : Int32} : x.toInt64 < y.toInt64 ↔ x < y := by rw [Int64.lt_iff_toInt_lt, Int32.lt_iff_toInt_lt, Int32.toInt_toInt64, Int32.toInt_toInt64]
theorem toInt64_eq {x y : Int32} : x.toInt64 = y.toInt64 ↔ x = y := by rw [← Int64.toInt_inj, Int32.toInt_toInt64, Int32.toInt_toInt64, Int32.toInt_inj]
theorem toInt64_max (x : Int32) : x.toInt64 < 9223372036854775807 := by
  rw [Int64.lt_iff_toInt_lt, Int32.toInt_toInt64]
  have := Int32.toInt_lt x
  have e : (9223372036854775807 : Int64).toInt = 9223372036854775807 := by decide
  omega
theorem rkeyAt_out {R : qRw} {j : Nat} (h : R.length ≤ j) (hj : j < 2 ^ 31) : rkeyAt R (nI j) = 9223372036854775807 ∧ rwhatAt R (nI j) = 0 := by
  have hn : ¬ (0 ≤ nI j ∧ nI j < nI R.length) := fun q => nI_nlt h hj q.2
  exact ⟨by rw [rkeyAt, if_neg hn], by rw [rwhatAt, if_neg hn]⟩
theorem i64_irr (x : Int64) : ¬ x < x := Int64.lt_irrefl
theorem rdf_ydx {R S : qRw} {kn : Nat} (hk : kn < 2 ^ 31) (hR : R.length < 2 ^ 20) (hS : S.length < 2 ^ 20) : ∀ (f j i p : Nat), j + f < 2 ^ 30 → i + f < 2 ^ 30 → p + f < 2 ^ 31 → p ≤ kn → rdf R S (nI kn) f (nI j) (nI i) (nI p) = yans (ydx R S f j i (kn - p))
  | 0, _, _, _, _, _, _, _ => rfl
  | f + 1, j, i, p, h1, h2, h3, h4 => by
    have hp : (nI p = nI kn ↔ kn - p = 0) := by rw [nI_eq (by omega) hk]; omega
    have hd : ∀ j' i', ¬ kn - p = 0 → j' + f < 2 ^ 30 → i' + f < 2 ^ 30 → rdf R S (nI kn) f (nI j') (nI i') (nI p + 1) = yans (ydx R S f j' i' (kn - p - 1)) := by
      intro j' i' q q1 q2
      rw [nI_1, rdf_ydx hk hR hS f j' i' (p + 1) q1 q2 (by omega) (by omega), show kn - (p + 1) = kn - p - 1 by omega]
    have hs : ∀ j' i', j' + f < 2 ^ 30 → i' + f < 2 ^ 30 → rdf R S (nI kn) f (nI j') (nI i') (nI p) = yans (ydx R S f j' i' (kn - p)) := fun j' i' q1 q2 => rdf_ydx hk hR hS f j' i' p q1 q2 (by omega) h4
    rw [rdf, ydx]
    by_cases cj : j < R.length
    · have a1 := rkeyAt_nI (R := R) cj (by omega)
      have a2 := rwhatAt_nI (R := R) cj (by omega)
      by_cases ci : i < S.length
      · have b1 := rkeyAt_nI (R := S) ci (by omega)
        have b2 := rwhatAt_nI (R := S) ci (by omega)
        rw [if_pos (show j < R.length ∧ i < S.length from ⟨cj, ci⟩), a1, a2, b1, b2]
        by_cases l1 : rk R j < rk S i
        · have ne : (rk R j).toInt64 ≠ (rk S i).toInt64 := fun q => by rw [toInt64_eq.mp q] at l1; exact Int32.lt_irrefl l1
          have nl : ¬ (rk S i).toInt64 < (rk R j).toInt64 := fun q => Int32.lt_irrefl (Int32.lt_trans l1 (toInt64_lt.mp q))
          rw [if_pos (Or.inl ne), if_pos l1, if_neg nl, if_pos (toInt64_lt.mpr l1)]
          by_cases q : kn - p = 0
          · rw [if_pos (hp.mpr q), if_pos q, lmin, if_neg nl]; rfl
          · rw [if_neg (fun z => q (hp.mp z)), if_neg q, nI_1, Int32.add_zero, hd _ _ q (by omega) (by omega)]
        · rw [if_neg l1]
          by_cases l2 : rk S i < rk R j
          · have ne : (rk R j).toInt64 ≠ (rk S i).toInt64 := fun q => by rw [toInt64_eq.mp q] at l2; exact Int32.lt_irrefl l2
            have nl : ¬ (rk R j).toInt64 < (rk S i).toInt64 := fun q => l1 (toInt64_lt.mp q)
            rw [if_pos (Or.inl ne), if_pos l2, if_pos (toInt64_lt.mpr l2), if_neg nl]
            by_cases q : kn - p = 0
            · rw [if_pos (hp.mpr q), if_pos q, lmin, if_pos (toInt64_lt.mpr l2)]; rfl
            · rw [if_neg (fun z => q (hp.mp z)), if_neg q, nI_1, Int32.add_zero, hd _ _ q (by omega) (by omega)]
          · rw [if_neg l2]
            have eq : rk R j = rk S i := by
              refine Int32.toInt_inj.mp ?_
              have m1 : ¬ (rk R j).toInt < (rk S i).toInt := fun q => l1 (Int32.lt_iff_toInt_lt.mpr q)
              have m2 : ¬ (rk S i).toInt < (rk R j).toInt := fun q => l2 (Int32.lt_iff_toInt_lt.mpr q)
              omega
            rw [eq, if_neg (i64_irr _), nI_1, nI_1]
            by_cases w : rv R j = rv S i
            · rw [if_neg (fun z => by rcases z with z | z; exact z rfl; exact z w), if_pos w, hs _ _ (by omega) (by omega)]
            · rw [if_pos (Or.inr w), if_neg w]
              by_cases q : kn - p = 0
              · rw [if_pos (hp.mpr q), if_pos q, lmin, if_neg (i64_irr _)]; rfl
              · rw [if_neg (fun z => q (hp.mp z)), if_neg q, hd _ _ q (by omega) (by omega)]
      · obtain ⟨b1, b2⟩ := rkeyAt_out (R := S) (j := i) (by omega) (by omega)
        have ne : (rk R j).toInt64 ≠ 9223372036854775807 := fun q => by have := toInt64_max (rk R j); rw [q] at this; exact i64_irr _ this
        have nl : ¬ (9223372036854775807 : Int64) < (rk R j).toInt64 := fun q => i64_irr _ (Int64.lt_trans q (toInt64_max _))
        rw [if_neg (show ¬ (j < R.length ∧ i < S.length) by omega), if_pos cj, a1, b1, if_pos (Or.inl ne), if_neg nl, if_pos (toInt64_max _)]
        by_cases q : kn - p = 0
        · rw [if_pos (hp.mpr q), if_pos q, lmin, if_neg nl]; rfl
        · rw [if_neg (fun z => q (hp.mp z)), if_neg q, nI_1, Int32.add_zero, hd _ _ q (by omega) (by omega)]
    · obtain ⟨a1, a2⟩ := rkeyAt_out (R := R) (j := j) (by omega) (by omega)
      rw [if_neg (show ¬ (j < R.length ∧ i < S.length) by omega), if_neg cj]
      by_cases ci : i < S.length
      · have b1 := rkeyAt_nI (R := S) ci (by omega)
        have ne : (9223372036854775807 : Int64) ≠ (rk S i).toInt64 := fun q => by have := toInt64_max (rk S i); rw [← q] at this; exact i64_irr _ this
        have nl : ¬ (9223372036854775807 : Int64) < (rk S i).toInt64 := fun q => i64_irr _ (Int64.lt_trans q (toInt64_max _))
        rw [if_pos ci, a1, b1, if_pos (Or.inl ne), if_pos (toInt64_max _), if_neg nl]
        by_cases q : kn - p = 0
        · rw [if_pos (hp.mpr q), if_pos q, lmin, if_pos (toInt64_max _)]; rfl
        · rw [if_neg (fun z => q (hp.mp z)), if_neg q, nI_1, Int32.add_zero, hd _ _ q (by omega) (by omega)]
      · obtain ⟨b1, b2⟩ := rkeyAt_out (R := S) (j := i) (by omega) (by omega)
        rw [if_neg ci, a1, b1, a2, b2, if_neg (fun z => by rcases z with z | z; exact z rfl; exact z rfl), if_neg (i64_irr _), nI_1, nI_1, hs _ _ (by omega) (by omega), ydx_end (by omega) (by omega)]
theorem yans_max {o : Option Int32} : yans o = 9223372036854775807 ↔ o = none := by
  cases o with
  | none => exact ⟨fun _ => rfl, fun _ => rfl⟩
  | some x => exact ⟨fun q => by have := toInt64_max x; rw [show x.toInt64 = _ from q] at this; exact absurd this (i64_irr _), fun q => by cases q⟩
def mTwo (I : Nat → Nat → Int32) (J : Nat → Nat → Int64) (K : qRw) : Prop := ∀ i, i < K.length → I 26 i = rk K i ∧ J 27 i = rv K i
section MF2
variable {X X' : qX} {m : Nat} {s : Nat → Int32} {I : Nat → Nat → Int32} {J : Nat → Nat → Int64}
variable {pg : Nat → Pg} {made lat rb : Nat} {dt : Nat → Bool} {ro : Nat → Nat}
variable {l : Launch} {s0 : State} {C : qC}
theorem c_M_differs_c (B : qB l s0 C) {K : qRw} (hO : mOne s I J K) (z1 z2 z3 z4 : Int32) {Qp : Option Value → qX → Prop}
    (G : ∀ (X2 : qX) (I2 : Nat → Nat → Int32) (J2 : Nat → Nat → Int64), MAt X2 m s I2 J2 → mTwo I2 J2 K → mK [26, 27] I J I2 J2 → qSame X X2 m (m + 30) → qV l s0 C m_M_differs rm_M_differs Qp (fun _ _ => False) 0 0 X2 101 [(0, .ref m), (1, .int z1), (2, .int z2), (3, .int z3), (4, .int z4)] []) :
    ∀ (j i : Nat) (X' : qX) (I' : Nat → Nat → Int32) (J' : Nat → Nat → Int64), i + j = K.length → MAt X' m s I' J' → (∀ t, t < i → I' 26 t = rk K t ∧ J' 27 t = rv K t) → mK [26, 27] I J I' J' → qSame X X' m (m + 30) →
      qV l s0 C m_M_differs rm_M_differs Qp (fun _ _ => False) 0 0 X' 58 [(0, .ref m), (1, .int z1), (2, .int z2), (3, .int z3), (4, .int z4), (5, .int (nI i))] [] := by
  obtain ⟨o1, o2, o3⟩ := id hO
  intro j
  induction j with
  | zero =>
    intro i X' I' J' hj h ha hk hf
    obtain ⟨h0, -⟩ := id h
    refine v_iload i_M_differs_58 rfl ?_
    refine v_aload_n i_M_differs_60 rfl ?_
    refine v_get B i_M_differs_61 (by first | assumption | exact qset_self _ _ _ | (rw [qset_ne _ _ (by omega)]; first | assumption | exact qset_self _ _ _ | (rw [qset_ne _ _ (by omega)]; first | assumption | exact qset_self _ _ _ | (rw [qset_ne _ _ (by omega)]; first | assumption | exact qset_self _ _ _ | (rw [qset_ne _ _ (by omega)]; first | assumption | exact qset_self _ _ _ | (rw [qset_ne _ _ (by omega)]; first | assumption | exact qset_self _ _ _ | (rw [qset_ne _ _ (by omega)]; first | assumption | exact qset_self _ _ _))))))) rfl ?_
    rw [o1]
    refine v_icmp_ge (tgt := 101) i_M_differs_64 rfl (fun _ => ?_) (fun q64 => absurd (nI_le (by omega) (by omega)) q64)
    exact v_loc [(0, .ref m), (1, .int z1), (2, .int z2), (3, .int z3), (4, .int z4)] rfl (G X' I' J' h (fun t ht => ha t (by omega)) hk hf)
  | succ j ih =>
    intro i X' I' J' hj h ha hk hf
    obtain ⟨h0, a1, a2, a3, a4, a5, a6, a7, a8, a9, a10, a11, a12, a13, a14, a15, a16, a17, a18, a19, a20, a21, a22, a23, a24, a25, a26, a27, a28, a29⟩ := h.all
    refine v_iload i_M_differs_58 rfl ?_
    refine v_aload_n i_M_differs_60 rfl ?_
    refine v_get B i_M_differs_61 (by first | assumption | exact qset_self _ _ _ | (rw [qset_ne _ _ (by omega)]; first | assumption | exact qset_self _ _ _ | (rw [qset_ne _ _ (by omega)]; first | assumption | exact qset_self _ _ _ | (rw [qset_ne _ _ (by omega)]; first | assumption | exact qset_self _ _ _ | (rw [qset_ne _ _ (by omega)]; first | assumption | exact qset_self _ _ _ | (rw [qset_ne _ _ (by omega)]; first | assumption | exact qset_self _ _ _ | (rw [qset_ne _ _ (by omega)]; first | assumption | exact qset_self _ _ _))))))) rfl ?_
    rw [o1]
    refine v_icmp_ge (tgt := 101) i_M_differs_64 rfl (fun q64 => absurd q64 (nI_ge (by omega) (by omega))) (fun _ => ?_)
    refine v_aload_n i_M_differs_67 rfl ?_
    refine v_get B i_M_differs_68 (by first | assumption | exact qset_self _ _ _ | (rw [qset_ne _ _ (by omega)]; first | assumption | exact qset_self _ _ _ | (rw [qset_ne _ _ (by omega)]; first | assumption | exact qset_self _ _ _ | (rw [qset_ne _ _ (by omega)]; first | assumption | exact qset_self _ _ _ | (rw [qset_ne _ _ (by omega)]; first | assumption | exact qset_self _ _ _ | (rw [qset_ne _ _ (by omega)]; first | assumption | exact qset_self _ _ _ | (rw [qset_ne _ _ (by omega)]; first | assumption | exact qset_self _ _ _))))))) rfl ?_
    refine v_iload i_M_differs_71 rfl ?_
    refine v_aload_n i_M_differs_73 rfl ?_
    refine v_get B i_M_differs_74 (by first | assumption | exact qset_self _ _ _ | (rw [qset_ne _ _ (by omega)]; first | assumption | exact qset_self _ _ _ | (rw [qset_ne _ _ (by omega)]; first | assumption | exact qset_self _ _ _ | (rw [qset_ne _ _ (by omega)]; first | assumption | exact qset_self _ _ _ | (rw [qset_ne _ _ (by omega)]; first | assumption | exact qset_self _ _ _ | (rw [qset_ne _ _ (by omega)]; first | assumption | exact qset_self _ _ _ | (rw [qset_ne _ _ (by omega)]; first | assumption | exact qset_self _ _ _))))))) rfl ?_
    refine v_iload i_M_differs_77 rfl ?_
    refine v_iald B (by first | assumption | exact qset_self _ _ _ | (rw [qset_ne _ _ (by omega)]; first | assumption | exact qset_self _ _ _ | (rw [qset_ne _ _ (by omega)]; first | assumption | exact qset_self _ _ _ | (rw [qset_ne _ _ (by omega)]; first | assumption | exact qset_self _ _ _ | (rw [qset_ne _ _ (by omega)]; first | assumption | exact qset_self _ _ _ | (rw [qset_ne _ _ (by omega)]; first | assumption | exact qset_self _ _ _ | (rw [qset_ne _ _ (by omega)]; first | assumption | exact qset_self _ _ _))))))) rfl (by omega) (by omega) i_M_differs_79 ?_
    rw [(hk 24 (by decide)).1, (o3 i (by omega)).1]
    refine v_mist B h (a := 26) (N := 4200) (j := i) rfl rfl (by decide) (by decide) (rfl) (by omega) (by omega) i_M_differs_80 (fun X2 h2 f2 => ?_)
    obtain ⟨b0, b1, b2, b3, b4, b5, b6, b7, b8, b9, b10, b11, b12, b13, b14, b15, b16, b17, b18, b19, b20, b21, b22, b23, b24, b25, b26, b27, -⟩ := h2.all
    refine v_aload_n i_M_differs_81 rfl ?_
    refine v_get B i_M_differs_82 (by first | assumption | exact qset_self _ _ _ | (rw [qset_ne _ _ (by omega)]; first | assumption | exact qset_self _ _ _ | (rw [qset_ne _ _ (by omega)]; first | assumption | exact qset_self _ _ _ | (rw [qset_ne _ _ (by omega)]; first | assumption | exact qset_self _ _ _ | (rw [qset_ne _ _ (by omega)]; first | assumption | exact qset_self _ _ _ | (rw [qset_ne _ _ (by omega)]; first | assumption | exact qset_self _ _ _ | (rw [qset_ne _ _ (by omega)]; first | assumption | exact qset_self _ _ _))))))) rfl ?_
    refine v_iload i_M_differs_85 rfl ?_
    refine v_aload_n i_M_differs_87 rfl ?_
    refine v_get B i_M_differs_88 (by first | assumption | exact qset_self _ _ _ | (rw [qset_ne _ _ (by omega)]; first | assumption | exact qset_self _ _ _ | (rw [qset_ne _ _ (by omega)]; first | assumption | exact qset_self _ _ _ | (rw [qset_ne _ _ (by omega)]; first | assumption | exact qset_self _ _ _ | (rw [qset_ne _ _ (by omega)]; first | assumption | exact qset_self _ _ _ | (rw [qset_ne _ _ (by omega)]; first | assumption | exact qset_self _ _ _ | (rw [qset_ne _ _ (by omega)]; first | assumption | exact qset_self _ _ _))))))) rfl ?_
    refine v_iload i_M_differs_91 rfl ?_
    refine v_lald B (by first | assumption | exact qset_self _ _ _ | (rw [qset_ne _ _ (by omega)]; first | assumption | exact qset_self _ _ _ | (rw [qset_ne _ _ (by omega)]; first | assumption | exact qset_self _ _ _ | (rw [qset_ne _ _ (by omega)]; first | assumption | exact qset_self _ _ _ | (rw [qset_ne _ _ (by omega)]; first | assumption | exact qset_self _ _ _ | (rw [qset_ne _ _ (by omega)]; first | assumption | exact qset_self _ _ _ | (rw [qset_ne _ _ (by omega)]; first | assumption | exact qset_self _ _ _))))))) rfl (by omega) (by omega) i_M_differs_93 ?_
    rw [(hk 25 (by decide)).2, (o3 i (by omega)).2]
    refine v_mlst B h2 (a := 27) (N := 4200) (j := i) rfl rfl (by decide) (by decide) (rfl) (by omega) (by omega) i_M_differs_94 (fun X3 h3 f3 => ?_)
    refine v_iinc (v := nI (i + 1)) i_M_differs_95 rfl (nI_1 _) (by decide) rfl ?_
    refine v_goto (tgt := 58) i_M_differs_98 rfl ?_
    refine v_loc [(0, .ref m), (1, .int z1), (2, .int z2), (3, .int z3), (4, .int z4), (5, .int (nI (i + 1)))] rfl ?_
    refine ih (i + 1) X3 _ _ (by omega) h3 (fun t ht => ?_) ((hk.int (by decide)).long (by decide)) ((hf.trans f2).trans f3)
    rw [mIu_self, mJu_self]
    by_cases q : t = i
    · subst q; exact ⟨pk_us, if_pos rfl⟩
    · rw [pk_un q]; exact ⟨(ha t (by omega)).1, (if_neg q).trans (ha t (by omega)).2⟩
/-- the walk side by side: R is the first version's row, S the second's -/
theorem c_M_differs_m (B : qB l s0 C) (h : MAt X m s I J) {R S : qRw} (hO : mOne s I J S) (hR : mTwo I J R) (hRl : R.length ≤ 4200) {kn : Nat} (hk : kn < 2 ^ 31) (z1 z2 : Int32) {Qp : Option Value → qX → Prop}
    (Gs : ∀ x : Int32, ydx R S (R.length + S.length) 0 0 kn = some x → Qp (some (.int x)) X)
    (Gn : ydx R S (R.length + S.length) 0 0 kn = none → ∀ L, qV l s0 C m_M_differs rm_M_differs Qp (fun _ _ => False) 0 0 X 332 ((0, .ref m) :: L) []) :
    ∀ (f j i n : Nat), (R.length - j) + (S.length - i) ≤ f → j ≤ R.length → i ≤ S.length → n ≤ kn → n ≤ j + i → ydx R S (R.length + S.length) 0 0 kn = ydx R S f j i (kn - n) →
      qV l s0 C m_M_differs rm_M_differs Qp (fun _ _ => False) 0 0 X 115 [(0, .ref m), (1, .int z1), (2, .int z2), (3, .int (nI kn)), (4, .int (nI R.length)), (5, .int (nI i)), (6, .int (nI j)), (7, .int (nI n))] [] := by
  obtain ⟨o1, o2, o3⟩ := id hO
  obtain ⟨h0, a1, a2, a3, a4, a5, a6, a7, a8, a9, a10, a11, a12, a13, a14, a15, a16, a17, a18, a19, a20, a21, a22, a23, a24, a25, a26, a27, a28, a29⟩ := h.all
  intro f
  induction f with
  | zero =>
    intro j i n hm hj hi hn hn2 hy
    have ej : j = R.length := by omega
    have ei : i = S.length := by omega
    refine v_iload i_M_differs_115 rfl ?_
    refine v_aload_n i_M_differs_117 rfl ?_
    refine v_get B i_M_differs_118 (by first | assumption | exact qset_self _ _ _ | (rw [qset_ne _ _ (by omega)]; first | assumption | exact qset_self _ _ _ | (rw [qset_ne _ _ (by omega)]; first | assumption | exact qset_self _ _ _ | (rw [qset_ne _ _ (by omega)]; first | assumption | exact qset_self _ _ _ | (rw [qset_ne _ _ (by omega)]; first | assumption | exact qset_self _ _ _ | (rw [qset_ne _ _ (by omega)]; first | assumption | exact qset_self _ _ _ | (rw [qset_ne _ _ (by omega)]; first | assumption | exact qset_self _ _ _))))))) rfl ?_
    rw [o1]
    refine v_icmp_lt (tgt := 131) i_M_differs_121 rfl (fun q121 => absurd q121 (nI_nlt (by omega) (by omega))) (fun _ => ?_)
    refine v_iload i_M_differs_124 rfl ?_
    refine v_iload i_M_differs_126 rfl ?_
    refine v_icmp_ge (tgt := 332) i_M_differs_128 rfl (fun _ => ?_) (fun q128 => absurd (nI_le (by omega) (by omega)) q128)
    exact Gn (by rw [hy]; rfl) _
  | succ f ih =>
    intro j i n hm hj hi hn hn2 hy
    by_cases hend : R.length ≤ j ∧ S.length ≤ i
    · refine v_iload i_M_differs_115 rfl ?_
      refine v_aload_n i_M_differs_117 rfl ?_
      refine v_get B i_M_differs_118 (by first | assumption | exact qset_self _ _ _ | (rw [qset_ne _ _ (by omega)]; first | assumption | exact qset_self _ _ _ | (rw [qset_ne _ _ (by omega)]; first | assumption | exact qset_self _ _ _ | (rw [qset_ne _ _ (by omega)]; first | assumption | exact qset_self _ _ _ | (rw [qset_ne _ _ (by omega)]; first | assumption | exact qset_self _ _ _ | (rw [qset_ne _ _ (by omega)]; first | assumption | exact qset_self _ _ _ | (rw [qset_ne _ _ (by omega)]; first | assumption | exact qset_self _ _ _))))))) rfl ?_
      rw [o1]
      refine v_icmp_lt (tgt := 131) i_M_differs_121 rfl (fun q121 => absurd q121 (nI_nlt (by omega) (by omega))) (fun _ => ?_)
      refine v_iload i_M_differs_124 rfl ?_
      refine v_iload i_M_differs_126 rfl ?_
      refine v_icmp_ge (tgt := 332) i_M_differs_128 rfl (fun _ => ?_) (fun q128 => absurd (nI_le (by omega) (by omega)) q128)
      exact Gn (by rw [hy]; exact ydx_end hend.1 hend.2) _
    -- the end of a turn
    have turn : ∀ (fi se ot : Bool) (now : Int32), (¬ (fi = true ∧ se = true)) → (fi = true → i < S.length) → (se = true → j < R.length) → (fi = false → j < R.length) → (se = false → i < S.length) → (fi = true ∨ se = true → ot = true) →
        (ot = true → n = kn → ydx R S (f + 1) j i (kn - n) = some now) →
        (¬ (ot = true ∧ n = kn) → ydx R S (f + 1) j i (kn - n) = ydx R S f (j + if fi = true then 0 else 1) (i + if se = true then 0 else 1) (kn - (n + if ot = true then 1 else 0))) →
        qV l s0 C m_M_differs rm_M_differs Qp (fun _ _ => False) 0 0 X 270 [(0, .ref m), (1, .int z1), (2, .int z2), (3, .int (nI kn)), (4, .int (nI R.length)), (5, .int (nI i)), (6, .int (nI j)), (7, .int (nI n)), (8, .int (bI fi)), (9, .int (bI se)), (10, .int now), (11, .int (bI ot))] [] := by
      intro fi se ot now t1 t2 t3 t4 t5 t6 t7 t8
      have go : ¬ (ot = true ∧ n = kn) → qV l s0 C m_M_differs rm_M_differs Qp (fun _ _ => False) 0 0 X 284 [(0, .ref m), (1, .int z1), (2, .int z2), (3, .int (nI kn)), (4, .int (nI R.length)), (5, .int (nI i)), (6, .int (nI j)), (7, .int (nI n)), (8, .int (bI fi)), (9, .int (bI se)), (10, .int now), (11, .int (bI ot))] [] := by
        intro hnk
        have fin : qV l s0 C m_M_differs rm_M_differs Qp (fun _ _ => False) 0 0 X 115 [(0, .ref m), (1, .int z1), (2, .int z2), (3, .int (nI kn)), (4, .int (nI R.length)), (5, .int (nI (i + if se = true then 0 else 1))), (6, .int (nI (j + if fi = true then 0 else 1))), (7, .int (nI (n + if ot = true then 1 else 0)))] [] := by
          have b1 : j + (if fi = true then 0 else 1) ≤ R.length := by
            cases fi with
            | true => simpa using hj
            | false => have := t4 rfl; simp; omega
          have b2 : i + (if se = true then 0 else 1) ≤ S.length := by
            cases se with
            | true => simpa using hi
            | false => have := t5 rfl; simp; omega
          have b3 : (if fi = true then 0 else 1) + (if se = true then 0 else 1) ≥ 1 := by
            cases fi <;> cases se <;> simp <;> exact absurd ⟨rfl, rfl⟩ t1
          have b4 : (if ot = true then 1 else 0) ≤ 1 := by cases ot <;> simp
          refine ih _ _ _ (by omega) b1 b2 ?_ (by omega) ?_
          · by_cases q : ot = true
            · rw [if_pos q]
              have : ¬ n = kn := fun z => hnk ⟨q, z⟩
              omega
            · rw [if_neg q]; omega
          · rw [hy]; exact t8 hnk
        -- three additions
        have third : qV l s0 C m_M_differs rm_M_differs Qp (fun _ _ => False) 0 0 X 314 [(0, .ref m), (1, .int z1), (2, .int z2), (3, .int (nI kn)), (4, .int (nI R.length)), (5, .int (nI (i + if se = true then 0 else 1))), (6, .int (nI j)), (7, .int (nI (n + if ot = true then 1 else 0))), (8, .int (bI fi)), (9, .int (bI se)), (10, .int now), (11, .int (bI ot))] [] := by
          refine v_iload i_M_differs_314 rfl ?_
          refine v_iload i_M_differs_316 rfl ?_
          cases fi with
          | true =>
            refine v_if_eq (tgt := 325) i_M_differs_318 rfl (fun q => absurd q (by decide)) (fun _ => ?_)
            refine v_iconst (v := 0) i_M_differs_321 rfl ?_
            refine v_goto (tgt := 326) i_M_differs_322 rfl ?_
            refine v_iadd i_M_differs_326 ?_
            refine v_istore i_M_differs_327 (by decide) rfl ?_
            refine v_goto (tgt := 115) i_M_differs_329 rfl ?_
            rw [Int32.add_zero]
            exact v_loc [(0, .ref m), (1, .int z1), (2, .int z2), (3, .int (nI kn)), (4, .int (nI R.length)), (5, .int (nI (i + if se = true then 0 else 1))), (6, .int (nI j)), (7, .int (nI (n + if ot = true then 1 else 0)))] rfl fin
          | false =>
            refine v_if_eq (tgt := 325) i_M_differs_318 rfl (fun _ => ?_) (fun q => absurd rfl q)
            refine v_iconst (v := 1) i_M_differs_325 rfl ?_
            refine v_iadd i_M_differs_326 ?_
            refine v_istore i_M_differs_327 (by decide) rfl ?_
            refine v_goto (tgt := 115) i_M_differs_329 rfl ?_
            rw [nI_1]
            exact v_loc [(0, .ref m), (1, .int z1), (2, .int z2), (3, .int (nI kn)), (4, .int (nI R.length)), (5, .int (nI (i + if se = true then 0 else 1))), (6, .int (nI (j + 1))), (7, .int (nI (n + if ot = true then 1 else 0)))] rfl fin
        have second : qV l s0 C m_M_differs rm_M_differs Qp (fun _ _ => False) 0 0 X 299 [(0, .ref m), (1, .int z1), (2, .int z2), (3, .int (nI kn)), (4, .int (nI R.length)), (5, .int (nI i)), (6, .int (nI j)), (7, .int (nI (n + if ot = true then 1 else 0))), (8, .int (bI fi)), (9, .int (bI se)), (10, .int now), (11, .int (bI ot))] [] := by
          refine v_iload i_M_differs_299 rfl ?_
          refine v_iload i_M_differs_301 rfl ?_
          cases se with
          | true =>
            refine v_if_eq (tgt := 310) i_M_differs_303 rfl (fun q => absurd q (by decide)) (fun _ => ?_)
            refine v_iconst (v := 0) i_M_differs_306 rfl ?_
            refine v_goto (tgt := 311) i_M_differs_307 rfl ?_
            refine v_iadd i_M_differs_311 ?_
            refine v_istore i_M_differs_312 (by decide) rfl ?_
            rw [Int32.add_zero]
            exact v_loc [(0, .ref m), (1, .int z1), (2, .int z2), (3, .int (nI kn)), (4, .int (nI R.length)), (5, .int (nI i)), (6, .int (nI j)), (7, .int (nI (n + if ot = true then 1 else 0))), (8, .int (bI fi)), (9, .int (bI true)), (10, .int now), (11, .int (bI ot))] rfl third
          | false =>
            refine v_if_eq (tgt := 310) i_M_differs_303 rfl (fun _ => ?_) (fun q => absurd rfl q)
            refine v_iconst (v := 1) i_M_differs_310 rfl ?_
            refine v_iadd i_M_differs_311 ?_
            refine v_istore i_M_differs_312 (by decide) rfl ?_
            rw [nI_1]
            exact v_loc [(0, .ref m), (1, .int z1), (2, .int z2), (3, .int (nI kn)), (4, .int (nI R.length)), (5, .int (nI (i + 1))), (6, .int (nI j)), (7, .int (nI (n + if ot = true then 1 else 0))), (8, .int (bI fi)), (9, .int (bI false)), (10, .int now), (11, .int (bI ot))] rfl third
        refine v_iload i_M_differs_284 rfl ?_
        refine v_iload i_M_differs_286 rfl ?_
        cases ot with
        | true =>
          refine v_if_eq (tgt := 295) i_M_differs_288 rfl (fun q => absurd q (by decide)) (fun _ => ?_)
          refine v_iconst (v := 1) i_M_differs_291 rfl ?_
          refine v_goto (tgt := 296) i_M_differs_292 rfl ?_
          refine v_iadd i_M_differs_296 ?_
          refine v_istore i_M_differs_297 (by decide) rfl ?_
          rw [nI_1]
          exact v_loc [(0, .ref m), (1, .int z1), (2, .int z2), (3, .int (nI kn)), (4, .int (nI R.length)), (5, .int (nI i)), (6, .int (nI j)), (7, .int (nI (n + 1))), (8, .int (bI fi)), (9, .int (bI se)), (10, .int now), (11, .int (bI true))] rfl second
        | false =>
          refine v_if_eq (tgt := 295) i_M_differs_288 rfl (fun _ => ?_) (fun q => absurd rfl q)
          refine v_iconst (v := 0) i_M_differs_295 rfl ?_
          refine v_iadd i_M_differs_296 ?_
          refine v_istore i_M_differs_297 (by decide) rfl ?_
          rw [Int32.add_zero]
          exact v_loc [(0, .ref m), (1, .int z1), (2, .int z2), (3, .int (nI kn)), (4, .int (nI R.length)), (5, .int (nI i)), (6, .int (nI j)), (7, .int (nI n)), (8, .int (bI fi)), (9, .int (bI se)), (10, .int now), (11, .int (bI false))] rfl second
      refine v_iload i_M_differs_270 rfl ?_
      refine v_if_eq (tgt := 284) i_M_differs_272 rfl (fun q272 => go (fun z => by rw [bI_0.mp q272] at z; exact absurd z.1 (by decide))) (fun q272 => ?_)
      refine v_iload i_M_differs_275 rfl ?_
      refine v_iload_n i_M_differs_277 rfl ?_
      refine v_icmp_ne (tgt := 284) i_M_differs_278 rfl (fun q278 => go (fun z => q278 (by rw [z.2]))) (fun q278 => ?_)
      have en : n = kn := (nI_eq (by omega) hk).mp q278
      refine v_iload i_M_differs_281 rfl ?_
      refine v_iret i_M_differs_283 rfl (by decide) (by decide) (Gs now ?_)
      rw [hy]; exact t7 (bI_ne q272) en
    -- whether the values differ
    have last : ∀ (fi se : Bool) (now : Int32), (¬ (fi = true ∧ se = true)) → (fi = true → i < S.length) → (se = true → j < R.length) → (fi = false → j < R.length) → (se = false → i < S.length) →
        (∀ ot : Bool, (fi = true ∨ se = true → ot = true) → (fi = false → se = false → ot = decide (rv S i ≠ rv R j)) → (ot = true → n = kn → ydx R S (f + 1) j i (kn - n) = some now) ∧ (¬ (ot = true ∧ n = kn) → ydx R S (f + 1) j i (kn - n) = ydx R S f (j + if fi = true then 0 else 1) (i + if se = true then 0 else 1) (kn - (n + if ot = true then 1 else 0)))) →
        qV l s0 C m_M_differs rm_M_differs Qp (fun _ _ => False) 0 0 X 235 [(0, .ref m), (1, .int z1), (2, .int z2), (3, .int (nI kn)), (4, .int (nI R.length)), (5, .int (nI i)), (6, .int (nI j)), (7, .int (nI n)), (8, .int (bI fi)), (9, .int (bI se)), (10, .int now)] [] := by
      intro fi se now t1 t2 t3 t4 t5 t6
      have go : ∀ ot : Bool, (fi = true ∨ se = true → ot = true) → (fi = false → se = false → ot = decide (rv S i ≠ rv R j)) → qV l s0 C m_M_differs rm_M_differs Qp (fun _ _ => False) 0 0 X 268 [(0, .ref m), (1, .int z1), (2, .int z2), (3, .int (nI kn)), (4, .int (nI R.length)), (5, .int (nI i)), (6, .int (nI j)), (7, .int (nI n)), (8, .int (bI fi)), (9, .int (bI se)), (10, .int now)] [.int (bI ot)] := by
        intro ot u1 u2
        refine v_istore i_M_differs_268 (by decide) rfl ?_
        obtain ⟨v1, v2⟩ := t6 ot u1 u2
        exact v_loc [(0, .ref m), (1, .int z1), (2, .int z2), (3, .int (nI kn)), (4, .int (nI R.length)), (5, .int (nI i)), (6, .int (nI j)), (7, .int (nI n)), (8, .int (bI fi)), (9, .int (bI se)), (10, .int now), (11, .int (bI ot))] rfl (turn fi se ot now t1 t2 t3 t4 t5 u1 v1 v2)
      refine v_iload i_M_differs_235 rfl ?_
      refine v_if_ne (tgt := 263) i_M_differs_237 rfl (fun q237 => ?_) (fun q237 => ?_)
      · have e1 := bI_ne q237
        refine v_iconst (v := 1) i_M_differs_263 rfl ?_
        refine v_goto (tgt := 268) i_M_differs_264 rfl ?_
        exact go true (fun _ => rfl) (fun z => by rw [e1] at z; cases z)
      · have e1 := bI_0.mp q237
        refine v_iload i_M_differs_240 rfl ?_
        refine v_if_ne (tgt := 263) i_M_differs_242 rfl (fun q242 => ?_) (fun q242 => ?_)
        · have e2 := bI_ne q242
          refine v_iconst (v := 1) i_M_differs_263 rfl ?_
          refine v_goto (tgt := 268) i_M_differs_264 rfl ?_
          exact go true (fun _ => rfl) (fun _ z => by rw [e2] at z; cases z)
        · have e2 := bI_0.mp q242
          have hjl := t4 e1
          have hil := t5 e2
          refine v_aload_n i_M_differs_245 rfl ?_
          refine v_get B i_M_differs_246 (by first | assumption | exact qset_self _ _ _ | (rw [qset_ne _ _ (by omega)]; first | assumption | exact qset_self _ _ _ | (rw [qset_ne _ _ (by omega)]; first | assumption | exact qset_self _ _ _ | (rw [qset_ne _ _ (by omega)]; first | assumption | exact qset_self _ _ _ | (rw [qset_ne _ _ (by omega)]; first | assumption | exact qset_self _ _ _ | (rw [qset_ne _ _ (by omega)]; first | assumption | exact qset_self _ _ _ | (rw [qset_ne _ _ (by omega)]; first | assumption | exact qset_self _ _ _))))))) rfl ?_
          refine v_iload i_M_differs_249 rfl ?_
          refine v_lald B (by first | assumption | exact qset_self _ _ _ | (rw [qset_ne _ _ (by omega)]; first | assumption | exact qset_self _ _ _ | (rw [qset_ne _ _ (by omega)]; first | assumption | exact qset_self _ _ _ | (rw [qset_ne _ _ (by omega)]; first | assumption | exact qset_self _ _ _ | (rw [qset_ne _ _ (by omega)]; first | assumption | exact qset_self _ _ _ | (rw [qset_ne _ _ (by omega)]; first | assumption | exact qset_self _ _ _ | (rw [qset_ne _ _ (by omega)]; first | assumption | exact qset_self _ _ _))))))) rfl (by omega) (by omega) i_M_differs_251 ?_
          refine v_aload_n i_M_differs_252 rfl ?_
          refine v_get B i_M_differs_253 (by first | assumption | exact qset_self _ _ _ | (rw [qset_ne _ _ (by omega)]; first | assumption | exact qset_self _ _ _ | (rw [qset_ne _ _ (by omega)]; first | assumption | exact qset_self _ _ _ | (rw [qset_ne _ _ (by omega)]; first | assumption | exact qset_self _ _ _ | (rw [qset_ne _ _ (by omega)]; first | assumption | exact qset_self _ _ _ | (rw [qset_ne _ _ (by omega)]; first | assumption | exact qset_self _ _ _ | (rw [qset_ne _ _ (by omega)]; first | assumption | exact qset_self _ _ _))))))) rfl ?_
          refine v_iload i_M_differs_256 rfl ?_
          refine v_lald B (by first | assumption | exact qset_self _ _ _ | (rw [qset_ne _ _ (by omega)]; first | assumption | exact qset_self _ _ _ | (rw [qset_ne _ _ (by omega)]; first | assumption | exact qset_self _ _ _ | (rw [qset_ne _ _ (by omega)]; first | assumption | exact qset_self _ _ _ | (rw [qset_ne _ _ (by omega)]; first | assumption | exact qset_self _ _ _ | (rw [qset_ne _ _ (by omega)]; first | assumption | exact qset_self _ _ _ | (rw [qset_ne _ _ (by omega)]; first | assumption | exact qset_self _ _ _))))))) rfl (by omega) (by omega) i_M_differs_258 ?_
          rw [(o3 i hil).2, (hR j hjl).2]
          refine v_lcmp i_M_differs_259 ?_
          refine v_if_eq (tgt := 267) i_M_differs_260 rfl (fun q260 => ?_) (fun q260 => ?_)
          · have ev := lcmp_eq.mp q260
            refine v_iconst (v := 0) i_M_differs_267 rfl ?_
            exact go false (fun z => by rw [e1, e2] at z; rcases z with z | z <;> cases z) (fun _ _ => (decide_eq_false (fun z => z ev)).symm)
          · have ev : ¬ rv S i = rv R j := fun z => q260 (lcmp_eq.mpr z)
            refine v_iconst (v := 1) i_M_differs_263 rfl ?_
            refine v_goto (tgt := 268) i_M_differs_264 rfl ?_
            exact go true (fun _ => rfl) (fun _ _ => (decide_eq_true ev).symm)
    -- which key is the next
    have now : ∀ (fi se : Bool), (¬ (fi = true ∧ se = true)) → (fi = true → i < S.length) → (se = true → j < R.length) → (fi = false → j < R.length) → (se = false → i < S.length) →
        (fi = true → (j < R.length → rk S i < rk R j)) → (se = true → (i < S.length → rk R j < rk S i)) → (fi = false → se = false → rk R j = rk S i) →
        qV l s0 C m_M_differs rm_M_differs Qp (fun _ _ => False) 0 0 X 211 [(0, .ref m), (1, .int z1), (2, .int z2), (3, .int (nI kn)), (4, .int (nI R.length)), (5, .int (nI i)), (6, .int (nI j)), (7, .int (nI n)), (8, .int (bI fi)), (9, .int (bI se))] [] := by
      intro fi se t1 t2 t3 t4 t5 k1 k2 k3
      refine v_iload i_M_differs_211 rfl ?_
      cases fi with
      | true =>
        have hil := t2 rfl
        have hse : se = false := by cases se; rfl; exact absurd ⟨rfl, rfl⟩ t1
        subst hse
        refine v_if_eq (tgt := 226) i_M_differs_213 rfl (fun q => absurd q (by decide)) (fun _ => ?_)
        refine v_aload_n i_M_differs_216 rfl ?_
        refine v_get B i_M_differs_217 (by first | assumption | exact qset_self _ _ _ | (rw [qset_ne _ _ (by omega)]; first | assumption | exact qset_self _ _ _ | (rw [qset_ne _ _ (by omega)]; first | assumption | exact qset_self _ _ _ | (rw [qset_ne _ _ (by omega)]; first | assumption | exact qset_self _ _ _ | (rw [qset_ne _ _ (by omega)]; first | assumption | exact qset_self _ _ _ | (rw [qset_ne _ _ (by omega)]; first | assumption | exact qset_self _ _ _ | (rw [qset_ne _ _ (by omega)]; first | assumption | exact qset_self _ _ _))))))) rfl ?_
        refine v_iload i_M_differs_220 rfl ?_
        refine v_iald B (by first | assumption | exact qset_self _ _ _ | (rw [qset_ne _ _ (by omega)]; first | assumption | exact qset_self _ _ _ | (rw [qset_ne _ _ (by omega)]; first | assumption | exact qset_self _ _ _ | (rw [qset_ne _ _ (by omega)]; first | assumption | exact qset_self _ _ _ | (rw [qset_ne _ _ (by omega)]; first | assumption | exact qset_self _ _ _ | (rw [qset_ne _ _ (by omega)]; first | assumption | exact qset_self _ _ _ | (rw [qset_ne _ _ (by omega)]; first | assumption | exact qset_self _ _ _))))))) rfl (by omega) (by omega) i_M_differs_222 ?_
        rw [(o3 i hil).1]
        refine v_goto (tgt := 233) i_M_differs_223 rfl ?_
        refine v_istore i_M_differs_233 (by decide) rfl ?_
        refine v_loc [(0, .ref m), (1, .int z1), (2, .int z2), (3, .int (nI kn)), (4, .int (nI R.length)), (5, .int (nI i)), (6, .int (nI j)), (7, .int (nI n)), (8, .int (bI true)), (9, .int (bI false)), (10, .int (rk S i))] rfl (last true false (rk S i) t1 t2 t3 t4 t5 (fun ot u1 _ => ?_))
        have eo := u1 (Or.inl rfl)
        subst eo
        have e : ydx R S (f + 1) j i (kn - n) = if kn - n = 0 then some (rk S i) else ydx R S f j (i + 1) (kn - n - 1) := by
          rw [ydx]
          by_cases hjl : j < R.length
          · have lt := k1 rfl hjl
            rw [if_pos ⟨hjl, hil⟩, if_neg (fun z => Int32.lt_irrefl (Int32.lt_trans z lt)), if_pos lt]
          · rw [if_neg (by omega), if_neg hjl, if_pos hil]
        refine ⟨fun _ z => by rw [e, if_pos (by omega)], fun z => ?_⟩
        rw [e, if_neg (fun w => z ⟨rfl, by omega⟩)]
        simp only [if_true, Nat.add_zero, Bool.false_eq_true, if_false]
        rw [show kn - (n + 1) = kn - n - 1 by omega]
      | false =>
        have hjl := t4 rfl
        refine v_if_eq (tgt := 226) i_M_differs_213 rfl (fun _ => ?_) (fun q => absurd rfl q)
        refine v_aload_n i_M_differs_226 rfl ?_
        refine v_get B i_M_differs_227 (by first | assumption | exact qset_self _ _ _ | (rw [qset_ne _ _ (by omega)]; first | assumption | exact qset_self _ _ _ | (rw [qset_ne _ _ (by omega)]; first | assumption | exact qset_self _ _ _ | (rw [qset_ne _ _ (by omega)]; first | assumption | exact qset_self _ _ _ | (rw [qset_ne _ _ (by omega)]; first | assumption | exact qset_self _ _ _ | (rw [qset_ne _ _ (by omega)]; first | assumption | exact qset_self _ _ _ | (rw [qset_ne _ _ (by omega)]; first | assumption | exact qset_self _ _ _))))))) rfl ?_
        refine v_iload i_M_differs_230 rfl ?_
        refine v_iald B (by first | assumption | exact qset_self _ _ _ | (rw [qset_ne _ _ (by omega)]; first | assumption | exact qset_self _ _ _ | (rw [qset_ne _ _ (by omega)]; first | assumption | exact qset_self _ _ _ | (rw [qset_ne _ _ (by omega)]; first | assumption | exact qset_self _ _ _ | (rw [qset_ne _ _ (by omega)]; first | assumption | exact qset_self _ _ _ | (rw [qset_ne _ _ (by omega)]; first | assumption | exact qset_self _ _ _ | (rw [qset_ne _ _ (by omega)]; first | assumption | exact qset_self _ _ _))))))) rfl (by omega) (by omega) i_M_differs_232 ?_
        rw [(hR j hjl).1]
        refine v_istore i_M_differs_233 (by decide) rfl ?_
        refine v_loc [(0, .ref m), (1, .int z1), (2, .int z2), (3, .int (nI kn)), (4, .int (nI R.length)), (5, .int (nI i)), (6, .int (nI j)), (7, .int (nI n)), (8, .int (bI false)), (9, .int (bI se)), (10, .int (rk R j))] rfl (last false se (rk R j) t1 t2 t3 t4 t5 (fun ot u1 u2 => ?_))
        cases se with
        | true =>
          have eo := u1 (Or.inr rfl)
          subst eo
          have e : ydx R S (f + 1) j i (kn - n) = if kn - n = 0 then some (rk R j) else ydx R S f (j + 1) i (kn - n - 1) := by
            rw [ydx]
            by_cases hil : i < S.length
            · have lt := k2 rfl hil
              rw [if_pos ⟨hjl, hil⟩, if_pos lt]
            · rw [if_neg (by omega), if_pos hjl]
          refine ⟨fun _ z => by rw [e, if_pos (by omega)], fun z => ?_⟩
          rw [e, if_neg (fun w => z ⟨rfl, by omega⟩)]
          simp only [if_true, Nat.add_zero, Bool.false_eq_true, if_false]
          rw [show kn - (n + 1) = kn - n - 1 by omega]
        | false =>
          have hil := t5 rfl
          have eq := k3 rfl rfl
          have eo := u2 rfl rfl
          have e : ydx R S (f + 1) j i (kn - n) = if rv R j = rv S i then ydx R S f (j + 1) (i + 1) (kn - n) else (if kn - n = 0 then some (rk R j) else ydx R S f (j + 1) (i + 1) (kn - n - 1)) := by
            rw [ydx, if_pos ⟨hjl, hil⟩, eq, if_neg Int32.lt_irrefl, if_neg Int32.lt_irrefl]
          rw [e]
          by_cases w : rv R j = rv S i
          · rw [decide_eq_false (fun z => z w.symm)] at eo
            subst eo
            rw [if_pos w]
            refine ⟨fun z => (nomatch z), fun _ => ?_⟩
            simp only [Bool.false_eq_true, if_false, Nat.add_zero]
          · rw [decide_eq_true (show rv S i ≠ rv R j from fun z => w z.symm)] at eo
            subst eo
            rw [if_neg w]
            refine ⟨fun _ z => by rw [if_pos (by omega)], fun z => ?_⟩
            rw [if_neg (fun w => z ⟨rfl, by omega⟩)]
            simp only [if_true, Bool.false_eq_true, if_false]
            rw [show kn - (n + 1) = kn - n - 1 by omega]
    -- the second flag
    have sec : ∀ (fi : Bool), (fi = true → i < S.length) → (fi = false → j < R.length) → (fi = true → (j < R.length → rk S i < rk R j)) → (fi = false → i < S.length → ¬ rk S i < rk R j) →
        qV l s0 C m_M_differs rm_M_differs Qp (fun _ _ => False) 0 0 X 171 [(0, .ref m), (1, .int z1), (2, .int z2), (3, .int (nI kn)), (4, .int (nI R.length)), (5, .int (nI i)), (6, .int (nI j)), (7, .int (nI n)), (8, .int (bI fi))] [] := by
      intro fi t2 t4 k1 k4
      have go : ∀ se : Bool, (¬ (fi = true ∧ se = true)) → (se = true → j < R.length) → (se = false → i < S.length) → (se = true → (i < S.length → rk R j < rk S i)) → (fi = false → se = false → rk R j = rk S i) → qV l s0 C m_M_differs rm_M_differs Qp (fun _ _ => False) 0 0 X 209 [(0, .ref m), (1, .int z1), (2, .int z2), (3, .int (nI kn)), (4, .int (nI R.length)), (5, .int (nI i)), (6, .int (nI j)), (7, .int (nI n)), (8, .int (bI fi))] [.int (bI se)] := by
        intro se t1 t3 t5 k2 k3
        refine v_istore i_M_differs_209 (by decide) rfl ?_
        exact v_loc [(0, .ref m), (1, .int z1), (2, .int z2), (3, .int (nI kn)), (4, .int (nI R.length)), (5, .int (nI i)), (6, .int (nI j)), (7, .int (nI n)), (8, .int (bI fi)), (9, .int (bI se))] rfl (now fi se t1 t2 t3 t4 t5 k1 k2 k3)
      refine v_iload i_M_differs_171 rfl ?_
      refine v_aload_n i_M_differs_173 rfl ?_
      refine v_get B i_M_differs_174 (by first | assumption | exact qset_self _ _ _ | (rw [qset_ne _ _ (by omega)]; first | assumption | exact qset_self _ _ _ | (rw [qset_ne _ _ (by omega)]; first | assumption | exact qset_self _ _ _ | (rw [qset_ne _ _ (by omega)]; first | assumption | exact qset_self _ _ _ | (rw [qset_ne _ _ (by omega)]; first | assumption | exact qset_self _ _ _ | (rw [qset_ne _ _ (by omega)]; first | assumption | exact qset_self _ _ _ | (rw [qset_ne _ _ (by omega)]; first | assumption | exact qset_self _ _ _))))))) rfl ?_
      rw [o1]
      refine v_icmp_eq (tgt := 204) i_M_differs_177 rfl (fun q177 => ?_) (fun q177 => ?_)
      · have ei : i = S.length := (nI_eq (by omega) (by omega)).mp q177
        have hfi : fi = false := by cases fi; rfl; have := t2 rfl; omega
        refine v_iconst (v := 1) i_M_differs_204 rfl ?_
        refine v_goto (tgt := 209) i_M_differs_205 rfl ?_
        exact go true (fun z => by rw [hfi] at z; exact absurd z.1 (by decide)) (fun _ => t4 hfi) (fun z => (nomatch z)) (fun _ z => by omega) (fun _ z => (nomatch z))
      · have hil : i < S.length := by
          rcases Nat.lt_or_ge i S.length with z | z
          · exact z
          · exact absurd (by rw [show i = S.length by omega]) q177
        refine v_iload i_M_differs_180 rfl ?_
        refine v_iload i_M_differs_182 rfl ?_
        refine v_icmp_ge (tgt := 208) i_M_differs_184 rfl (fun q184 => ?_) (fun q184 => ?_)
        · have hjl : ¬ j < R.length := fun z => nI_ge z (by omega) q184
          have hfi : fi = true := by cases fi; exact absurd (t4 rfl) hjl; rfl
          refine v_iconst (v := 0) i_M_differs_208 rfl ?_
          exact go false (fun z => by exact absurd z.2 (by decide)) (fun z => (nomatch z)) (fun _ => hil) (fun z => (nomatch z)) (fun z => by rw [hfi] at z; cases z)
        · have hjl : j < R.length := by
            rcases Nat.lt_or_ge j R.length with z | z
            · exact z
            · exact absurd (nI_le z (by omega)) q184
          refine v_aload_n i_M_differs_187 rfl ?_
          refine v_get B i_M_differs_188 (by first | assumption | exact qset_self _ _ _ | (rw [qset_ne _ _ (by omega)]; first | assumption | exact qset_self _ _ _ | (rw [qset_ne _ _ (by omega)]; first | assumption | exact qset_self _ _ _ | (rw [qset_ne _ _ (by omega)]; first | assumption | exact qset_self _ _ _ | (rw [qset_ne _ _ (by omega)]; first | assumption | exact qset_self _ _ _ | (rw [qset_ne _ _ (by omega)]; first | assumption | exact qset_self _ _ _ | (rw [qset_ne _ _ (by omega)]; first | assumption | exact qset_self _ _ _))))))) rfl ?_
          refine v_iload i_M_differs_191 rfl ?_
          refine v_iald B (by first | assumption | exact qset_self _ _ _ | (rw [qset_ne _ _ (by omega)]; first | assumption | exact qset_self _ _ _ | (rw [qset_ne _ _ (by omega)]; first | assumption | exact qset_self _ _ _ | (rw [qset_ne _ _ (by omega)]; first | assumption | exact qset_self _ _ _ | (rw [qset_ne _ _ (by omega)]; first | assumption | exact qset_self _ _ _ | (rw [qset_ne _ _ (by omega)]; first | assumption | exact qset_self _ _ _ | (rw [qset_ne _ _ (by omega)]; first | assumption | exact qset_self _ _ _))))))) rfl (by omega) (by omega) i_M_differs_193 ?_
          refine v_aload_n i_M_differs_194 rfl ?_
          refine v_get B i_M_differs_195 (by first | assumption | exact qset_self _ _ _ | (rw [qset_ne _ _ (by omega)]; first | assumption | exact qset_self _ _ _ | (rw [qset_ne _ _ (by omega)]; first | assumption | exact qset_self _ _ _ | (rw [qset_ne _ _ (by omega)]; first | assumption | exact qset_self _ _ _ | (rw [qset_ne _ _ (by omega)]; first | assumption | exact qset_self _ _ _ | (rw [qset_ne _ _ (by omega)]; first | assumption | exact qset_self _ _ _ | (rw [qset_ne _ _ (by omega)]; first | assumption | exact qset_self _ _ _))))))) rfl ?_
          refine v_iload i_M_differs_198 rfl ?_
          refine v_iald B (by first | assumption | exact qset_self _ _ _ | (rw [qset_ne _ _ (by omega)]; first | assumption | exact qset_self _ _ _ | (rw [qset_ne _ _ (by omega)]; first | assumption | exact qset_self _ _ _ | (rw [qset_ne _ _ (by omega)]; first | assumption | exact qset_self _ _ _ | (rw [qset_ne _ _ (by omega)]; first | assumption | exact qset_self _ _ _ | (rw [qset_ne _ _ (by omega)]; first | assumption | exact qset_self _ _ _ | (rw [qset_ne _ _ (by omega)]; first | assumption | exact qset_self _ _ _))))))) rfl (by omega) (by omega) i_M_differs_200 ?_
          rw [(hR j hjl).1, (o3 i hil).1]
          refine v_icmp_ge (tgt := 208) i_M_differs_201 rfl (fun q201 => ?_) (fun q201 => ?_)
          · refine v_iconst (v := 0) i_M_differs_208 rfl ?_
            refine go false (fun z => by exact absurd z.2 (by decide)) (fun z => (nomatch z)) (fun _ => hil) (fun z => (nomatch z)) (fun z _ => ?_)
            have n1 := k4 z hil
            have m1 : ¬ (rk S i).toInt < (rk R j).toInt := fun q => n1 (Int32.lt_iff_toInt_lt.mpr q)
            have m2 := Int32.le_iff_toInt_le.mp q201
            exact Int32.toInt_inj.mp (by omega)
          · have lt := Int32.not_le.mp q201
            refine v_iconst (v := 1) i_M_differs_204 rfl ?_
            refine v_goto (tgt := 209) i_M_differs_205 rfl ?_
            refine go true (fun z => ?_) (fun _ => hjl) (fun z => (nomatch z)) (fun _ _ => lt) (fun _ z => (nomatch z))
            exact Int32.lt_irrefl (Int32.lt_trans lt (k1 z.1 hjl))
    have enter : qV l s0 C m_M_differs rm_M_differs Qp (fun _ _ => False) 0 0 X 131 [(0, .ref m), (1, .int z1), (2, .int z2), (3, .int (nI kn)), (4, .int (nI R.length)), (5, .int (nI i)), (6, .int (nI j)), (7, .int (nI n))] [] := by
      have go : ∀ fi : Bool, (fi = true → i < S.length) → (fi = false → j < R.length) → (fi = true → (j < R.length → rk S i < rk R j)) → (fi = false → i < S.length → ¬ rk S i < rk R j) → qV l s0 C m_M_differs rm_M_differs Qp (fun _ _ => False) 0 0 X 169 [(0, .ref m), (1, .int z1), (2, .int z2), (3, .int (nI kn)), (4, .int (nI R.length)), (5, .int (nI i)), (6, .int (nI j)), (7, .int (nI n))] [.int (bI fi)] := by
        intro fi t2 t4 k1 k4
        refine v_istore i_M_differs_169 (by decide) rfl ?_
        exact v_loc [(0, .ref m), (1, .int z1), (2, .int z2), (3, .int (nI kn)), (4, .int (nI R.length)), (5, .int (nI i)), (6, .int (nI j)), (7, .int (nI n)), (8, .int (bI fi))] rfl (sec fi t2 t4 k1 k4)
      refine v_iload i_M_differs_131 rfl ?_
      refine v_iload i_M_differs_133 rfl ?_
      refine v_icmp_eq (tgt := 164) i_M_differs_135 rfl (fun q135 => ?_) (fun q135 => ?_)
      · have ej : j = R.length := (nI_eq (by omega) (by omega)).mp q135
        refine v_iconst (v := 1) i_M_differs_164 rfl ?_
        refine v_goto (tgt := 169) i_M_differs_165 rfl ?_
        exact go true (fun _ => by omega) (fun z => (nomatch z)) (fun _ z => by omega) (fun z => (nomatch z))
      · have hjl : j < R.length := by
          rcases Nat.lt_or_ge j R.length with z | z
          · exact z
          · exact absurd (by rw [show j = R.length by omega]) q135
        refine v_iload i_M_differs_138 rfl ?_
        refine v_aload_n i_M_differs_140 rfl ?_
        refine v_get B i_M_differs_141 (by first | assumption | exact qset_self _ _ _ | (rw [qset_ne _ _ (by omega)]; first | assumption | exact qset_self _ _ _ | (rw [qset_ne _ _ (by omega)]; first | assumption | exact qset_self _ _ _ | (rw [qset_ne _ _ (by omega)]; first | assumption | exact qset_self _ _ _ | (rw [qset_ne _ _ (by omega)]; first | assumption | exact qset_self _ _ _ | (rw [qset_ne _ _ (by omega)]; first | assumption | exact qset_self _ _ _ | (rw [qset_ne _ _ (by omega)]; first | assumption | exact qset_self _ _ _))))))) rfl ?_
        rw [o1]
        refine v_icmp_ge (tgt := 168) i_M_differs_144 rfl (fun q144 => ?_) (fun q144 => ?_)
        · have hil : ¬ i < S.length := fun z => nI_ge z (by omega) q144
          refine v_iconst (v := 0) i_M_differs_168 rfl ?_
          exact go false (fun z => (nomatch z)) (fun _ => hjl) (fun z => (nomatch z)) (fun _ z => absurd z hil)
        · have hil : i < S.length := by
            rcases Nat.lt_or_ge i S.length with z | z
            · exact z
            · exact absurd (nI_le z (by omega)) q144
          refine v_aload_n i_M_differs_147 rfl ?_
          refine v_get B i_M_differs_148 (by first | assumption | exact qset_self _ _ _ | (rw [qset_ne _ _ (by omega)]; first | assumption | exact qset_self _ _ _ | (rw [qset_ne _ _ (by omega)]; first | assumption | exact qset_self _ _ _ | (rw [qset_ne _ _ (by omega)]; first | assumption | exact qset_self _ _ _ | (rw [qset_ne _ _ (by omega)]; first | assumption | exact qset_self _ _ _ | (rw [qset_ne _ _ (by omega)]; first | assumption | exact qset_self _ _ _ | (rw [qset_ne _ _ (by omega)]; first | assumption | exact qset_self _ _ _))))))) rfl ?_
          refine v_iload i_M_differs_151 rfl ?_
          refine v_iald B (by first | assumption | exact qset_self _ _ _ | (rw [qset_ne _ _ (by omega)]; first | assumption | exact qset_self _ _ _ | (rw [qset_ne _ _ (by omega)]; first | assumption | exact qset_self _ _ _ | (rw [qset_ne _ _ (by omega)]; first | assumption | exact qset_self _ _ _ | (rw [qset_ne _ _ (by omega)]; first | assumption | exact qset_self _ _ _ | (rw [qset_ne _ _ (by omega)]; first | assumption | exact qset_self _ _ _ | (rw [qset_ne _ _ (by omega)]; first | assumption | exact qset_self _ _ _))))))) rfl (by omega) (by omega) i_M_differs_153 ?_
          refine v_aload_n i_M_differs_154 rfl ?_
          refine v_get B i_M_differs_155 (by first | assumption | exact qset_self _ _ _ | (rw [qset_ne _ _ (by omega)]; first | assumption | exact qset_self _ _ _ | (rw [qset_ne _ _ (by omega)]; first | assumption | exact qset_self _ _ _ | (rw [qset_ne _ _ (by omega)]; first | assumption | exact qset_self _ _ _ | (rw [qset_ne _ _ (by omega)]; first | assumption | exact qset_self _ _ _ | (rw [qset_ne _ _ (by omega)]; first | assumption | exact qset_self _ _ _ | (rw [qset_ne _ _ (by omega)]; first | assumption | exact qset_self _ _ _))))))) rfl ?_
          refine v_iload i_M_differs_158 rfl ?_
          refine v_iald B (by first | assumption | exact qset_self _ _ _ | (rw [qset_ne _ _ (by omega)]; first | assumption | exact qset_self _ _ _ | (rw [qset_ne _ _ (by omega)]; first | assumption | exact qset_self _ _ _ | (rw [qset_ne _ _ (by omega)]; first | assumption | exact qset_self _ _ _ | (rw [qset_ne _ _ (by omega)]; first | assumption | exact qset_self _ _ _ | (rw [qset_ne _ _ (by omega)]; first | assumption | exact qset_self _ _ _ | (rw [qset_ne _ _ (by omega)]; first | assumption | exact qset_self _ _ _))))))) rfl (by omega) (by omega) i_M_differs_160 ?_
          rw [(o3 i hil).1, (hR j hjl).1]
          refine v_icmp_ge (tgt := 168) i_M_differs_161 rfl (fun q161 => ?_) (fun q161 => ?_)
          · refine v_iconst (v := 0) i_M_differs_168 rfl ?_
            exact go false (fun z => (nomatch z)) (fun _ => hjl) (fun z => (nomatch z)) (fun _ _ z => absurd (Int32.lt_of_le_of_lt q161 z) Int32.lt_irrefl)
          · refine v_iconst (v := 1) i_M_differs_164 rfl ?_
            refine v_goto (tgt := 169) i_M_differs_165 rfl ?_
            exact go true (fun _ => hil) (fun z => (nomatch z)) (fun _ _ => Int32.not_le.mp q161) (fun z => (nomatch z))
    refine v_iload i_M_differs_115 rfl ?_
    refine v_aload_n i_M_differs_117 rfl ?_
    refine v_get B i_M_differs_118 (by first | assumption | exact qset_self _ _ _ | (rw [qset_ne _ _ (by omega)]; first | assumption | exact qset_self _ _ _ | (rw [qset_ne _ _ (by omega)]; first | assumption | exact qset_self _ _ _ | (rw [qset_ne _ _ (by omega)]; first | assumption | exact qset_self _ _ _ | (rw [qset_ne _ _ (by omega)]; first | assumption | exact qset_self _ _ _ | (rw [qset_ne _ _ (by omega)]; first | assumption | exact qset_self _ _ _ | (rw [qset_ne _ _ (by omega)]; first | assumption | exact qset_self _ _ _))))))) rfl ?_
    rw [o1]
    refine v_icmp_lt (tgt := 131) i_M_differs_121 rfl (fun _ => enter) (fun q121 => ?_)
    refine v_iload i_M_differs_124 rfl ?_
    refine v_iload i_M_differs_126 rfl ?_
    refine v_icmp_ge (tgt := 332) i_M_differs_128 rfl (fun q128 => ?_) (fun _ => enter)
    exfalso
    apply hend
    constructor
    · exact (nI_leI (by omega) (by omega)).mp q128
    · rcases Nat.lt_or_ge i S.length with z | z
      · exact absurd (nI_lt z (by omega)) q121
      · exact z
theorem c_M_differs (B : qB l s0 C) (h : MAt X m s I J) {b : Bool} (hb : s 25 = bI b) (hl : s 12 = nI lat) (hlt : lat < 4000) (hT : MT s I J pg made lat dt ro rb) (hrb : lat ≤ rb) (hg : ∀ j, j ≤ lat → yGd pg made (ro j) j) (u v k : Int32) :
    qMet l s0 C m_M_differs rm_M_differs [.ref m, .int u, .int v, .int k] X (fun r X' => ∃ z cd, r = some (.int z) ∧ (b = false → ∀ i j kn, i ≤ lat → j ≤ lat → u = nI i → v = nI j → kn < 2 ^ 31 → k = nI kn → (ydx (yKs pg (ro i) i) (yKs pg (ro j) j) ((yKs pg (ro i) i).length + (yKs pg (ro j) j).length) 0 0 kn = none ∧ cd = 4 ∨ ydx (yKs pg (ro i) i) (yKs pg (ro j) j) ((yKs pg (ro i) i).length + (yKs pg (ro j) j).length) 0 0 kn = some z ∧ cd = 0)) ∧ ((b || (!(ver u lat) || !(ver v lat)) || decide (k < 0)) = true → cd = mcode b (!(ver u lat) || !(ver v lat)) (decide (k < 0)) false) ∧ mRO X X' m s I J cd) (fun _ _ => False) := by
  obtain ⟨h0, -⟩ := id h
  obtain ⟨t1, ⟨t2, t2b, t2c, t2d⟩, t3, t4, t5, t6⟩ := id hT
  refine q_of (by decide +kernel) (Nat.le_of_ble_eq_true rfl) ?_
  refine v_L (L' := [(0, .ref m), (1, .int u), (2, .int v), (3, .int k)]) rfl ?_
  have main : ∀ f g : Bool, f = (!(ver u lat) || !(ver v lat)) → g = decide (k < 0) → qV l s0 C m_M_differs rm_M_differs (fun r X' => ∃ z cd, r = some (.int z) ∧ (b = false → ∀ i j kn, i ≤ lat → j ≤ lat → u = nI i → v = nI j → kn < 2 ^ 31 → k = nI kn → (ydx (yKs pg (ro i) i) (yKs pg (ro j) j) ((yKs pg (ro i) i).length + (yKs pg (ro j) j).length) 0 0 kn = none ∧ cd = 4 ∨ ydx (yKs pg (ro i) i) (yKs pg (ro j) j) ((yKs pg (ro i) i).length + (yKs pg (ro j) j).length) 0 0 kn = some z ∧ cd = 0)) ∧ ((b || (!(ver u lat) || !(ver v lat)) || decide (k < 0)) = true → cd = mcode b (!(ver u lat) || !(ver v lat)) (decide (k < 0)) false) ∧ mRO X X' m s I J cd) (fun _ _ => False) 0 0 X 35 [(0, .ref m), (1, .int u), (2, .int v), (3, .int k)] [.int (bI g), .int (bI f), .int (bI b), .ref m] := by
    intro f g hfe hge
    refine v_iconst (v := 0) i_M_differs_35 rfl ?_
    refine v_inv B i_M_differs_36 kn_m_M_fails (c_M_fails B h b f g false) h0 rfl rfl (Nat.le_of_ble_eq_true rfl) ⟨by decide, by decide, by first | decide | (simp; omega), by first | decide | (simp; omega)⟩ rfl (fun r X' hq => ?_) (fun _ _ h => False.elim h)
    obtain ⟨rfl, h1, f1⟩ := hq
    have ho := mRO.of h1 f1
    obtain ⟨k0, -⟩ := id h1
    by_cases hf : (b || f || g || false) = true
    · rw [hf]
      refine v_if_eq (tgt := 44) i_M_differs_39 rfl (fun q => absurd q (by decide)) (fun _ => ?_)
      refine v_iconst (v := 0) i_M_differs_42 rfl ?_
      rw [hfe, hge] at ho
      refine v_iret i_M_differs_43 rfl (by decide) (by decide) ⟨0, _, rfl, fun hb0 i j kn hi hj e1 e2 hk e3 => ?_, fun _ => rfl, ho⟩
      rw [hb0, hfe, hge, e1, e2, e3, ver_nI hi hlt, ver_nI hj hlt, decide_eq_false (nI_pos hk)] at hf; exact absurd hf (by decide)
    · rw [Bool.not_eq_true] at hf
      rw [hf]
      simp only [Bool.or_false, Bool.or_eq_false_iff] at hf
      obtain ⟨⟨hf1, hf2⟩, hf3⟩ := hf
      rw [hf1, hf2, hf3] at h1
      rw [hfe] at hf2
      rw [hge] at hf3
      simp only [Bool.or_eq_false_iff, Bool.not_eq_false'] at hf2
      obtain ⟨i, i1, rfl⟩ := ver_of hf2.1 hlt
      obtain ⟨j, j1, rfl⟩ := ver_of hf2.2 hlt
      obtain ⟨kn, kn1, rfl⟩ := nI_of (of_decide_eq_false hf3)
      refine v_if_eq (tgt := 44) i_M_differs_39 rfl (fun _ => ?_) (fun q => absurd rfl q)
      refine v_aload_n i_M_differs_44 rfl ?_
      refine v_iload_n i_M_differs_45 rfl ?_
      refine v_inv B i_M_differs_46 kn_m_M_collect (c_M_collect B h1 (by omega) t4 t2b (t5 i (by omega)).1 (hg i i1)) k0 rfl rfl (Nat.le_of_ble_eq_true rfl) ⟨by decide, by decide, by first | decide | (simp; omega), by first | decide | (simp; omega)⟩ rfl (fun r X' hq => ?_) (fun _ _ h => False.elim h)
      obtain ⟨rfl, s2, I2, J2, h2, hO2, hk2, hs2, hf2'⟩ := hq
      obtain ⟨c0, -⟩ := id h2
      have hRl := hO2.2.1
      refine v_aload_n i_M_differs_49 rfl ?_
      refine v_get B i_M_differs_50 (by first | assumption | exact qset_self _ _ _ | (rw [qset_ne _ _ (by omega)]; first | assumption | exact qset_self _ _ _ | (rw [qset_ne _ _ (by omega)]; first | assumption | exact qset_self _ _ _ | (rw [qset_ne _ _ (by omega)]; first | assumption | exact qset_self _ _ _ | (rw [qset_ne _ _ (by omega)]; first | assumption | exact qset_self _ _ _ | (rw [qset_ne _ _ (by omega)]; first | assumption | exact qset_self _ _ _ | (rw [qset_ne _ _ (by omega)]; first | assumption | exact qset_self _ _ _))))))) rfl ?_
      refine v_istore i_M_differs_53 (by decide) rfl ?_
      refine v_iconst (v := 0) i_M_differs_55 rfl ?_
      refine v_istore i_M_differs_56 (by decide) rfl ?_
      rw [hO2.1]
      refine v_loc [(0, .ref m), (1, .int (nI i)), (2, .int (nI j)), (3, .int (nI kn)), (4, .int (nI (yKs pg (ro i) i).length)), (5, .int (nI 0))] rfl ?_
      refine c_M_differs_c (s := s2) (I := I2) (J := J2) (X := X') B hO2 (nI i) (nI j) (nI kn) _ (fun X3 I3 J3 h3 hT3 hk3 hf3' => ?_) (yKs pg (ro i) i).length 0 X' I2 J2 (by omega) h2 (fun t ht => by omega) (mK.rf _ _ _) (qSame.rf _ _ _)
      obtain ⟨d0, -⟩ := id h3
      refine v_aload_n i_M_differs_101 rfl ?_
      refine v_iload_n i_M_differs_102 rfl ?_
      refine v_inv B i_M_differs_103 kn_m_M_collect (c_M_collect B h3 (by omega) (fun p hp => ((t4 p hp).keep hk2 (by decide)).keep hk3 (by decide)) t2b (by rw [(hk3 10 (by decide)).1, (hk2 10 (by decide)).1]; exact (t5 j (by omega)).1) (hg j j1)) d0 rfl rfl (Nat.le_of_ble_eq_true rfl) ⟨by decide, by decide, by first | decide | (simp; omega), by first | decide | (simp; omega)⟩ rfl (fun r X' hq => ?_) (fun _ _ h => False.elim h)
      obtain ⟨rfl, s4, I4, J4, h4, hO4, hk4, hs4, hf4⟩ := hq
      have hT4 : mTwo I4 J4 (yKs pg (ro i) i) := fun t ht => by rw [(hk4 26 (by decide)).1, (hk4 27 (by decide)).2]; exact hT3 t ht
      have hSl := hO4.2.1
      have hkk : mK [21, 22, 24, 25, 26, 27, 28, 29] I J I4 J4 := ((hk2.mono (by decide)).trans (hk3.mono (by decide))).trans (hk4.mono (by decide))
      have hss : sK [0, 28, 29, 33, 39] s s4 := (((sK.rf [0, 28, 29, 33, 39] s).set (j := 0) (x := mcode false false false false) (by decide)).trans (hs2.mono (by decide))).trans (hs4.mono (by decide))
      have hc4 : s4 0 = 0 := by rw [hs4 0 (by decide), hs2 0 (by decide), pk_us]; rfl
      have hff := ((f1.trans hf2').trans hf3').trans hf4
      have uni : ∀ a a', a ≤ lat → a' ≤ lat → nI a = nI a' → a = a' := fun a a' h1 h2 e => (nI_eq (by omega) (by omega)).mp e
      have nofl : (b || (!(ver (nI i) lat) || !(ver (nI j) lat)) || decide (nI kn < 0)) = true → False := by rw [hf1, hf2.1, hf2.2, hf3]; decide
      refine v_iconst (v := 0) i_M_differs_106 rfl ?_
      refine v_istore i_M_differs_107 (by decide) rfl ?_
      refine v_iconst (v := 0) i_M_differs_109 rfl ?_
      refine v_istore i_M_differs_110 (by decide) rfl ?_
      refine v_iconst (v := 0) i_M_differs_112 rfl ?_
      refine v_istore i_M_differs_113 (by decide) rfl ?_
      refine v_loc [(0, .ref m), (1, .int (nI i)), (2, .int (nI j)), (3, .int (nI kn)), (4, .int (nI (yKs pg (ro i) i).length)), (5, .int (nI 0)), (6, .int (nI 0)), (7, .int (nI 0))] rfl ?_
      refine c_M_differs_m B h4 hO4 hT4 (by omega) kn1 (nI i) (nI j) (fun x hx => ?_) (fun hx L => ?_) ((yKs pg (ro i) i).length + (yKs pg (ro j) j).length) 0 0 0 (by omega) (by omega) (by omega) (by omega) (by omega) rfl
      · refine ⟨x, 0, rfl, fun _ i' j' kn' hi' hj' e1 e2 hk' e3 => Or.inr ⟨?_, rfl⟩, fun q => absurd q (fun z => nofl z), ⟨s4, I4, J4, h4, hc4, hkk, hss, hff⟩⟩
        rw [← uni i i' i1 hi' e1, ← uni j j' j1 hj' e2, ← (nI_eq kn1 hk').mp e3]; exact hx
      · obtain ⟨x0, -⟩ := id h4
        refine v_aload_n i_M_differs_332 rfl ?_
        refine v_iconst (v := 4) i_M_differs_333 rfl ?_
        refine v_mput B h4 (j := 0) i_M_differs_334 (Nat.le_of_ble_eq_true rfl) rfl rfl rfl (fun X5 h5 f5 => ?_)
        refine v_iconst (v := 0) i_M_differs_337 rfl ?_
        refine v_iret i_M_differs_338 rfl (by decide) (by decide) ⟨0, 4, rfl, fun _ i' j' kn' hi' hj' e1 e2 hk' e3 => Or.inl ⟨?_, rfl⟩, fun q => absurd q (fun z => nofl z), ⟨_, I4, J4, h5, pk_us, hkk, hss.set (by decide), hff.trans f5⟩⟩
        rw [← uni i i' i1 hi' e1, ← uni j j' j1 hj' e2, ← (nI_eq kn1 hk').mp e3]; exact hx
  have third : ∀ f : Bool, f = (!(ver u lat) || !(ver v lat)) → qV l s0 C m_M_differs rm_M_differs (fun r X' => ∃ z cd, r = some (.int z) ∧ (b = false → ∀ i j kn, i ≤ lat → j ≤ lat → u = nI i → v = nI j → kn < 2 ^ 31 → k = nI kn → (ydx (yKs pg (ro i) i) (yKs pg (ro j) j) ((yKs pg (ro i) i).length + (yKs pg (ro j) j).length) 0 0 kn = none ∧ cd = 4 ∨ ydx (yKs pg (ro i) i) (yKs pg (ro j) j) ((yKs pg (ro i) i).length + (yKs pg (ro j) j).length) 0 0 kn = some z ∧ cd = 0)) ∧ ((b || (!(ver u lat) || !(ver v lat)) || decide (k < 0)) = true → cd = mcode b (!(ver u lat) || !(ver v lat)) (decide (k < 0)) false) ∧ mRO X X' m s I J cd) (fun _ _ => False) 0 0 X 26 [(0, .ref m), (1, .int u), (2, .int v), (3, .int k)] [.int (bI f), .int (bI b), .ref m] := by
    intro f hfe
    refine v_iload_n i_M_differs_26 rfl ?_
    refine v_if_ge (tgt := 34) i_M_differs_27 rfl (fun q27 => ?_) (fun q27 => ?_)
    · refine v_iconst (v := 0) i_M_differs_34 rfl ?_
      exact main f false hfe (decide_eq_false (fun z => absurd (Int32.lt_of_lt_of_le z q27) Int32.lt_irrefl)).symm
    · refine v_iconst (v := 1) i_M_differs_30 rfl ?_
      refine v_goto (tgt := 35) i_M_differs_31 rfl ?_
      exact main f true hfe (decide_eq_true (Int32.not_le.mp q27)).symm
  refine v_aload_n i_M_differs_0 rfl ?_
  refine v_aload_n i_M_differs_1 rfl ?_
  refine v_get B i_M_differs_2 (by first | assumption | exact qset_self _ _ _ | (rw [qset_ne _ _ (by omega)]; first | assumption | exact qset_self _ _ _ | (rw [qset_ne _ _ (by omega)]; first | assumption | exact qset_self _ _ _ | (rw [qset_ne _ _ (by omega)]; first | assumption | exact qset_self _ _ _ | (rw [qset_ne _ _ (by omega)]; first | assumption | exact qset_self _ _ _ | (rw [qset_ne _ _ (by omega)]; first | assumption | exact qset_self _ _ _ | (rw [qset_ne _ _ (by omega)]; first | assumption | exact qset_self _ _ _))))))) rfl ?_
  refine v_aload_n i_M_differs_5 rfl ?_
  refine v_iload_n i_M_differs_6 rfl ?_
  rw [hb]
  refine v_inv B i_M_differs_7 kn_m_M_isVersion (c_M_isVersion B h hl u) h0 rfl rfl (Nat.le_of_ble_eq_true rfl) ⟨by decide, by decide, by first | decide | (simp; omega), by first | decide | (simp; omega)⟩ rfl (fun r X' hq => ?_) (fun _ _ h => False.elim h)
  obtain ⟨rfl, rfl⟩ := hq
  refine v_if_eq (tgt := 21) i_M_differs_10 rfl (fun q10 => ?_) (fun q10 => ?_)
  · have hv := bI_0.mp q10
    refine v_iconst (v := 1) i_M_differs_21 rfl ?_
    refine v_goto (tgt := 26) i_M_differs_22 rfl ?_
    exact third true (by rw [hv]; rfl)
  · have hu := bI_ne q10
    refine v_aload_n i_M_differs_13 rfl ?_
    refine v_iload_n i_M_differs_14 rfl ?_
    refine v_inv B i_M_differs_15 kn_m_M_isVersion (c_M_isVersion B h hl v) h0 rfl rfl (Nat.le_of_ble_eq_true rfl) ⟨by decide, by decide, by first | decide | (simp; omega), by first | decide | (simp; omega)⟩ rfl (fun r X' hq => ?_) (fun _ _ h => False.elim h)
    obtain ⟨rfl, rfl⟩ := hq
    refine v_if_ne (tgt := 25) i_M_differs_18 rfl (fun q18 => ?_) (fun q18 => ?_)
    · have hv := bI_ne q18
      refine v_iconst (v := 0) i_M_differs_25 rfl ?_
      exact third false (by rw [hu, hv]; rfl)
    · have hv := bI_0.mp q18
      refine v_iconst (v := 1) i_M_differs_21 rfl ?_
      refine v_goto (tgt := 26) i_M_differs_22 rfl ?_
      exact third true (by rw [hu, hv]; rfl)
end MF2
