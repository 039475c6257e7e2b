/-! the reference: pages are made and remade -/
/-- rows by keys -/
def rsrt (R : qRw) : Prop := ∀ i j, i < j → j < R.length → (rk R i).toInt ≤ (rk R j).toInt
theorem rsrt_nil : rsrt [] := fun i j _ h => by simp at h
theorem rpos_spec (R : qRw) (k : Int32) (hs : rsrt R) : ∀ n, n ≤ R.length → (∀ i, i < rpos R k n → (rk R i).toInt ≤ k.toInt) ∧ (∀ i, rpos R k n ≤ i → i < n → k.toInt < (rk R i).toInt)
  | 0, _ => ⟨fun i h => by simp [rpos] at h, fun i _ h => by omega⟩
  | n + 1, hn => by
    have ih := rpos_spec R k hs n (by omega)
    unfold rpos
    by_cases hk : k < rk R n
    · rw [if_pos hk]
      refine ⟨ih.1, fun i h1 h2 => ?_⟩
      by_cases hi : i = n
      · subst hi; exact Int32.lt_iff_toInt_lt.mp hk
      · exact ih.2 i h1 (by omega)
    · rw [if_neg hk]
      have hle : (rk R n).toInt ≤ k.toInt := Int.not_lt.mp (fun q => hk (Int32.lt_iff_toInt_lt.mpr q))
      refine ⟨fun i hi => ?_, fun i h1 h2 => by omega⟩
      by_cases hin : i = n
      · subst hin; exact hle
      · have := hs i n (by omega) (by omega); omega
theorem rins_rk (R : qRw) (k : Int32) (w : Int64) (j : Nat) : rk (rins R k w) j = if j < rpos R k R.length then rk R j else if j = rpos R k R.length then k else rk R (j - 1) := by
  unfold rk rins
  rw [rins_getD R _ j _ _ (rpos_le R k R.length)]
  split
  · rfl
  · split <;> rfl
theorem rins_rv (R : qRw) (k : Int32) (w : Int64) (j : Nat) : rv (rins R k w) j = if j < rpos R k R.length then rv R j else if j = rpos R k R.length then w else rv R (j - 1) := by
  unfold rv rins
  rw [rins_getD R _ j _ _ (rpos_le R k R.length)]
  split
  · rfl
  · split <;> rfl
theorem rins_srt {R : qRw} (hs : rsrt R) (k : Int32) (w : Int64) : rsrt (rins R k w) := by
  intro i j hij hj
  rw [rins_len] at hj
  have hp := rpos_le R k R.length
  obtain ⟨h1, h2⟩ := rpos_spec R k hs R.length (Nat.le_refl _)
  rw [rins_rk, rins_rk]
  by_cases a1 : i < rpos R k R.length
  · rw [if_pos a1]
    by_cases b1 : j < rpos R k R.length
    · rw [if_pos b1]; exact hs i j hij (by omega)
    · rw [if_neg b1]
      by_cases b2 : j = rpos R k R.length
      · rw [if_pos b2]; exact h1 i a1
      · rw [if_neg b2]
        have e1 := h1 i a1
        have e2 := h2 (j - 1) (by omega) (by omega)
        omega
  · have b1 : ¬ j < rpos R k R.length := by omega
    have b2 : ¬ j = rpos R k R.length := by omega
    rw [if_neg a1, if_neg b1, if_neg b2]
    by_cases a2 : i = rpos R k R.length
    · rw [if_pos a2]
      exact Int.le_of_lt (h2 (j - 1) (by omega) (by omega))
    · rw [if_neg a2]
      exact hs (i - 1) (j - 1) (by omega) (by omega)
/-- the tree in the arrays: pages, how many, the latest version, which are dirty, the roots up to rb -/
def MT (s : Nat → Int32) (I : Nat → Nat → Int32) (J : Nat → Nat → Int64) (pg : Nat → Pg) (made lat : Nat) (dt : Nat → Bool) (ro : Nat → Nat) (rb : Nat) : Prop :=
  s 10 = nI made ∧ (1 ≤ made ∧ made ≤ 256 ∧ lat < 4000 ∧ rb < 4001) ∧ s 12 = nI lat ∧ (∀ p, p < made → mPg I J p (pg p)) ∧ (∀ w, w ≤ rb → I 10 w = nI (ro w) ∧ ro w < 256) ∧ ∀ p, p < made → I 5 p = bI (dt p)
/-- what was kept stays -/
def mSn (I : Nat → Nat → Int32) (J : Nat → Nat → Int64) (I' : Nat → Nat → Int32) (J' : Nat → Nat → Int64) : Prop := ∀ q Q, 256 ≤ q → q < 512 → mPg I J q Q → mPg I' J' q Q
theorem mSn.rf (I : Nat → Nat → Int32) (J : Nat → Nat → Int64) : mSn I J I J := fun _ _ _ _ h => h
theorem mSn.trans {I I' I'' : Nat → Nat → Int32} {J J' J'' : Nat → Nat → Int64} (h1 : mSn I J I' J') (h2 : mSn I' J' I'' J'') : mSn I J I'' J'' := fun q Q a b h => h2 q Q a b (h1 q Q a b h)
theorem mSn.keep {I I' : Nat → Nat → Int32} {J J' : Nat → Nat → Int64} {A : List Nat} (hk : mK A I J I' J') (hA : (A.contains 1 || A.contains 2 || A.contains 3 || A.contains 4 || A.contains 6 || A.contains 7 || A.contains 8 || A.contains 9) = false) : mSn I J I' J' := fun q Q _ _ h => h.keep hk hA
section MM
variable {X X' : qX} {m : Nat} {s : Nat → Int32} {I : Nat → Nat → Int32} {J : Nat → Nat → Int64}
variable {pg : Nat → Pg} {made lat : Nat} {dt : Nat → Bool} {ro : Nat → Nat} {rb : Nat}
variable {l : Launch} {s0 : State} {C : qC}
theorem MT.keep {s' : Nat → Int32} {I' : Nat → Nat → Int32} {J' : Nat → Nat → Int64} {A S : List Nat} (h : MT s I J pg made lat dt ro rb) (hk : mK A I J I' J') (hs : sK S s s') (hA : (A.contains 1 || A.contains 2 || A.contains 3 || A.contains 4 || A.contains 6 || A.contains 7 || A.contains 8 || A.contains 9) = false) (hA2 : (A.contains 5 || A.contains 10 || S.contains 10 || S.contains 12) = false) : MT s' I' J' pg made lat dt ro rb := by
  simp only [Bool.or_eq_false_iff] at hA2
  have f : ∀ (A : List Nat) a, A.contains a = false → a ∉ A := fun A a ha q => by rw [List.contains_iff_mem.mpr q] at ha; cases ha
  obtain ⟨⟨⟨x1, x2⟩, x3⟩, x4⟩ := hA2
  obtain ⟨h1, h2, h3, h4, h5, h6⟩ := h
  exact ⟨by rw [hs 10 (f _ _ x3)]; exact h1, h2, by rw [hs 12 (f _ _ x4)]; exact h3, fun p hp => (h4 p hp).keep hk hA, fun w hw => by rw [(hk 10 (f _ _ x2)).1]; exact h5 w hw, fun p hp => by rw [(hk 5 (f _ _ x1)).1]; exact h6 p hp⟩
/-- a page whose numbers are elsewhere -/
theorem mPg.off {I' : Nat → Nat → Int32} {J' : Nat → Nat → Int64} {q : Nat} {Q : Pg} (h : mPg I J q Q) (h1 : I' 1 q = I 1 q) (h2 : I' 2 q = I 2 q) (h3 : I' 3 q = I 3 q) (h4 : I' 4 q = I 4 q) (h6 : ∀ i, i < 16 → I' 6 (16 * q + i) = I 6 (16 * q + i) ∧ I' 7 (16 * q + i) = I 7 (16 * q + i) ∧ I' 8 (16 * q + i) = I 8 (16 * q + i) ∧ J' 9 (16 * q + i) = J 9 (16 * q + i)) : mPg I' J' q Q := by
  obtain ⟨g0, g1, g2, g3, g4, g5⟩ := h
  refine ⟨g0, by rw [h1]; exact g1, by rw [h2]; exact g2, by rw [h3]; exact g3, by rw [h4]; exact g4, fun i hi => ?_⟩
  obtain ⟨e1, e2, e3, e4⟩ := h6 i (by have := g0.2.2.2.1; omega)
  rw [e1, e2, e3, e4]
  exact g5 i hi
theorem c_M_newPage (B : qB l s0 C) (h : MAt X m s I J) (hT : MT s I J pg made lat dt ro rb) (hm : made < 256) (lev v : Nat) (hlv : lev < 1000) (hv : v < 2 ^ 30) : qMet l s0 C m_M_newPage rm_M_newPage [.ref m, .int (nI lev), .int (nI v)] X (fun r X' => r = some (.int (nI made)) ∧ ∃ s' I', MAt X' m s' I' J ∧ MT s' I' J (va_up pg made (lev, v, none, [])) (made + 1) lat (va_up dt made true) ro rb ∧ mSn I J I' J ∧ mK [1, 2, 3, 4, 5] I J I' J ∧ sK [10] s s' ∧ qSame X X' m (m + 30)) (fun _ _ => False) := by
  obtain ⟨h0, a1, a2, a3, a4, a5, a6, a7, a8, a9, a10, a11, a12, a13, a14, a15, a16, a17, a18, a19, a20, a21, a22, a23, a24, a25, a26, a27, a28, a29⟩ := h.all
  obtain ⟨t1, t2, t3, t4, t5, t6⟩ := hT
  refine q_of (by decide +kernel) (Nat.le_of_ble_eq_true rfl) ?_
  refine v_L (L' := [(0, .ref m), (1, .int (nI lev)), (2, .int (nI v))]) rfl ?_
  refine v_aload_n i_M_newPage_0 rfl ?_
  refine v_get B i_M_newPage_1 (by first | assumption | exact qset_self _ _ _ | (rw [qset_ne _ _ (by omega)]; first | assumption | exact qset_self _ _ _ | (rw [qset_ne _ _ (by omega)]; first | assumption | exact qset_self _ _ _ | (rw [qset_ne _ _ (by omega)]; first | assumption | exact qset_self _ _ _ | (rw [qset_ne _ _ (by omega)]; first | assumption | exact qset_self _ _ _ | (rw [qset_ne _ _ (by omega)]; first | assumption | exact qset_self _ _ _ | (rw [qset_ne _ _ (by omega)]; first | assumption | exact qset_self _ _ _))))))) rfl ?_
  rw [t1]
  refine v_istore_n i_M_newPage_4 (by decide) rfl ?_
  refine v_aload_n i_M_newPage_5 rfl ?_
  refine v_dup i_M_newPage_6 rfl ?_
  refine v_get B i_M_newPage_7 (by first | assumption | exact qset_self _ _ _ | (rw [qset_ne _ _ (by omega)]; first | assumption | exact qset_self _ _ _ | (rw [qset_ne _ _ (by omega)]; first | assumption | exact qset_self _ _ _ | (rw [qset_ne _ _ (by omega)]; first | assumption | exact qset_self _ _ _ | (rw [qset_ne _ _ (by omega)]; first | assumption | exact qset_self _ _ _ | (rw [qset_ne _ _ (by omega)]; first | assumption | exact qset_self _ _ _ | (rw [qset_ne _ _ (by omega)]; first | assumption | exact qset_self _ _ _))))))) rfl ?_
  refine v_iconst (v := 1) i_M_newPage_10 rfl ?_
  refine v_iadd i_M_newPage_11 ?_
  rw [t1, nI_1]
  refine v_mput B h (j := 10) i_M_newPage_12 (Nat.le_of_ble_eq_true rfl) rfl rfl rfl (fun X1 h1 f1 => ?_)
  refine v_loc [(0, .ref m), (1, .int (nI lev)), (2, .int (nI v)), (3, .int (nI made))] rfl ?_
  obtain ⟨b0, -⟩ := id h1
  refine v_aload_n i_M_newPage_15 rfl ?_
  refine v_get B i_M_newPage_16 (by first | assumption | exact qset_self _ _ _ | (rw [qset_ne _ _ (by omega)]; first | assumption | exact qset_self _ _ _ | (rw [qset_ne _ _ (by omega)]; first | assumption | exact qset_self _ _ _ | (rw [qset_ne _ _ (by omega)]; first | assumption | exact qset_self _ _ _ | (rw [qset_ne _ _ (by omega)]; first | assumption | exact qset_self _ _ _ | (rw [qset_ne _ _ (by omega)]; first | assumption | exact qset_self _ _ _ | (rw [qset_ne _ _ (by omega)]; first | assumption | exact qset_self _ _ _))))))) rfl ?_
  refine v_iload_n i_M_newPage_19 rfl ?_
  refine v_iload_n i_M_newPage_20 rfl ?_
  refine v_mist B h1 (a := 1) (N := 512) (j := made) rfl rfl (by decide) (by decide) (rfl) (by omega) (by omega) i_M_newPage_21 (fun X2 h2 f2 => ?_)
  obtain ⟨b0, -⟩ := id h2
  refine v_aload_n i_M_newPage_22 rfl ?_
  refine v_get B i_M_newPage_23 (by first | assumption | exact qset_self _ _ _ | (rw [qset_ne _ _ (by omega)]; first | assumption | exact qset_self _ _ _ | (rw [qset_ne _ _ (by omega)]; first | assumption | exact qset_self _ _ _ | (rw [qset_ne _ _ (by omega)]; first | assumption | exact qset_self _ _ _ | (rw [qset_ne _ _ (by omega)]; first | assumption | exact qset_self _ _ _ | (rw [qset_ne _ _ (by omega)]; first | assumption | exact qset_self _ _ _ | (rw [qset_ne _ _ (by omega)]; first | assumption | exact qset_self _ _ _))))))) rfl ?_
  refine v_iload_n i_M_newPage_26 rfl ?_
  refine v_iload_n i_M_newPage_27 rfl ?_
  refine v_mist B h2 (a := 2) (N := 512) (j := made) rfl rfl (by decide) (by decide) (rfl) (by omega) (by omega) i_M_newPage_28 (fun X3 h3 f3 => ?_)
  obtain ⟨b0, -⟩ := id h3
  refine v_aload_n i_M_newPage_29 rfl ?_
  refine v_get B i_M_newPage_30 (by first | assumption | exact qset_self _ _ _ | (rw [qset_ne _ _ (by omega)]; first | assumption | exact qset_self _ _ _ | (rw [qset_ne _ _ (by omega)]; first | assumption | exact qset_self _ _ _ | (rw [qset_ne _ _ (by omega)]; first | assumption | exact qset_self _ _ _ | (rw [qset_ne _ _ (by omega)]; first | assumption | exact qset_self _ _ _ | (rw [qset_ne _ _ (by omega)]; first | assumption | exact qset_self _ _ _ | (rw [qset_ne _ _ (by omega)]; first | assumption | exact qset_self _ _ _))))))) rfl ?_
  refine v_iload_n i_M_newPage_33 rfl ?_
  refine v_iconst (v := (-1)) i_M_newPage_34 rfl ?_
  refine v_mist B h3 (a := 3) (N := 512) (j := made) rfl rfl (by decide) (by decide) (rfl) (by omega) (by omega) i_M_newPage_35 (fun X4 h4 f4 => ?_)
  obtain ⟨b0, -⟩ := id h4
  refine v_aload_n i_M_newPage_36 rfl ?_
  refine v_get B i_M_newPage_37 (by first | assumption | exact qset_self _ _ _ | (rw [qset_ne _ _ (by omega)]; first | assumption | exact qset_self _ _ _ | (rw [qset_ne _ _ (by omega)]; first | assumption | exact qset_self _ _ _ | (rw [qset_ne _ _ (by omega)]; first | assumption | exact qset_self _ _ _ | (rw [qset_ne _ _ (by omega)]; first | assumption | exact qset_self _ _ _ | (rw [qset_ne _ _ (by omega)]; first | assumption | exact qset_self _ _ _ | (rw [qset_ne _ _ (by omega)]; first | assumption | exact qset_self _ _ _))))))) rfl ?_
  refine v_iload_n i_M_newPage_40 rfl ?_
  refine v_iconst (v := 0) i_M_newPage_41 rfl ?_
  refine v_mist B h4 (a := 4) (N := 512) (j := made) rfl rfl (by decide) (by decide) (rfl) (by omega) (by omega) i_M_newPage_42 (fun X5 h5 f5 => ?_)
  obtain ⟨b0, -⟩ := id h5
  refine v_aload_n i_M_newPage_43 rfl ?_
  refine v_get B i_M_newPage_44 (by first | assumption | exact qset_self _ _ _ | (rw [qset_ne _ _ (by omega)]; first | assumption | exact qset_self _ _ _ | (rw [qset_ne _ _ (by omega)]; first | assumption | exact qset_self _ _ _ | (rw [qset_ne _ _ (by omega)]; first | assumption | exact qset_self _ _ _ | (rw [qset_ne _ _ (by omega)]; first | assumption | exact qset_self _ _ _ | (rw [qset_ne _ _ (by omega)]; first | assumption | exact qset_self _ _ _ | (rw [qset_ne _ _ (by omega)]; first | assumption | exact qset_self _ _ _))))))) rfl ?_
  refine v_iload_n i_M_newPage_47 rfl ?_
  refine v_iconst (v := 1) i_M_newPage_48 rfl ?_
  refine v_mzst B h5 (a := 5) (N := 256) (j := made) rfl rfl (by decide) (by decide) (rfl) (by omega) (by omega) (by first | exact Or.inl rfl | exact Or.inr rfl | assumption | exact bI_01 _) i_M_newPage_49 (fun X6 h6 f6 => ?_)
  refine v_iload_n i_M_newPage_50 rfl ?_
  have hk : mK [1, 2, 3, 4, 5] I J (mIu (mIu (mIu (mIu (mIu I 1 made (nI lev)) 2 made (nI v)) 3 made (-1)) 4 made 0) 5 made 1) J := (((((mK.rf _ I J).int (by decide)).int (by decide)).int (by decide)).int (by decide)).int (by decide)
  have e1 : (mIu (mIu (mIu (mIu (mIu I 1 made (nI lev)) 2 made (nI v)) 3 made (-1)) 4 made 0) 5 made 1) 1 = upd (I 1) made (nI lev) := by rw [mIu_ne (by decide), mIu_ne (by decide), mIu_ne (by decide), mIu_ne (by decide), mIu_self]
  have e2 : (mIu (mIu (mIu (mIu (mIu I 1 made (nI lev)) 2 made (nI v)) 3 made (-1)) 4 made 0) 5 made 1) 2 = upd (I 2) made (nI v) := by rw [mIu_ne (by decide), mIu_ne (by decide), mIu_ne (by decide), mIu_self, mIu_ne (by decide)]
  have e3 : (mIu (mIu (mIu (mIu (mIu I 1 made (nI lev)) 2 made (nI v)) 3 made (-1)) 4 made 0) 5 made 1) 3 = upd (I 3) made (-1) := by rw [mIu_ne (by decide), mIu_ne (by decide), mIu_self, mIu_ne (by decide), mIu_ne (by decide)]
  have e4 : (mIu (mIu (mIu (mIu (mIu I 1 made (nI lev)) 2 made (nI v)) 3 made (-1)) 4 made 0) 5 made 1) 4 = upd (I 4) made 0 := by rw [mIu_ne (by decide), mIu_self, mIu_ne (by decide), mIu_ne (by decide), mIu_ne (by decide)]
  have e5 : (mIu (mIu (mIu (mIu (mIu I 1 made (nI lev)) 2 made (nI v)) 3 made (-1)) 4 made 0) 5 made 1) 5 = upd (I 5) made 1 := by rw [mIu_self, mIu_ne (by decide), mIu_ne (by decide), mIu_ne (by decide), mIu_ne (by decide)]
  generalize (mIu (mIu (mIu (mIu (mIu I 1 made (nI lev)) 2 made (nI v)) 3 made (-1)) 4 made 0) 5 made 1) = I' at h6 hk e1 e2 e3 e4 e5
  have off : ∀ q Q, q ≠ made → mPg I J q Q → mPg I' J q Q := by
    intro q Q hq hQ
    refine hQ.off (by rw [e1, pk_un hq]) (by rw [e2, pk_un hq]) (by rw [e3, pk_un hq]) (by rw [e4, pk_un hq]) (fun i _ => ?_)
    rw [(hk 6 (by decide)).1, (hk 7 (by decide)).1, (hk 8 (by decide)).1]
    exact ⟨rfl, rfl, rfl, rfl⟩
  refine v_iret i_M_newPage_51 rfl (by decide) (by decide) ⟨rfl, _, I', h6, ⟨pk_us, ⟨by omega, by omega, t2.2.2⟩, by rw [pk_un (by decide)]; exact t3, ?_, ?_, ?_⟩, fun q Q hq _ hQ => off q Q (by omega) hQ, hk, (sK.rf _ _).set (by decide), ((((f1.trans f2).trans f3).trans f4).trans f5).trans f6⟩
  · intro p hp
    by_cases hpm : p = made
    · subst hpm
      rw [va_up_self]
      exact ⟨⟨hlv, hv, fun t ht => (by cases ht), Nat.zero_le _, fun i hi => absurd hi (Nat.not_lt_zero i)⟩, by rw [e1, pk_us], by rw [e2, pk_us], by rw [e3, pk_us]; rfl, by rw [e4, pk_us]; rfl, fun i hi => absurd hi (Nat.not_lt_zero i)⟩
    · rw [va_up_ne _ _ hpm]
      exact off p _ hpm (t4 p (by omega))
  · intro w hw
    rw [(hk 10 (by decide)).1]
    exact t5 w hw
  · intro p hp
    rw [e5]
    by_cases hpm : p = made
    · subst hpm; rw [pk_us, va_up_self]; rfl
    · rw [pk_un hpm, va_up_ne _ _ hpm]; exact t6 p (by omega)
theorem c_M_append (B : qB l s0 C) (h : MAt X m s I J) (hT : MT s I J pg made lat dt ro rb) (p : Nat) (hp : p < made) (hroom : (pg p).2.2.2.length < 16) (k : Int32) (w : Int64) (v : Nat) (hv : v < 2 ^ 30) : qMet l s0 C m_M_append rm_M_append [.ref m, .int (nI p), .int k, .long w, .int (nI v)] X (fun r X' => r = none ∧ ∃ I' J', MAt X' m s I' J' ∧ MT s I' J' (va_up pg p ((pg p).1, (pg p).2.1, (pg p).2.2.1, (pg p).2.2.2 ++ [(k, v, none, w)])) made lat dt ro rb ∧ mSn I J I' J' ∧ mK [4, 6, 7, 8, 9] I J I' J' ∧ qSame X X' m (m + 30)) (fun _ _ => False) := by
  obtain ⟨h0, a1, a2, a3, a4, a5, a6, a7, a8, a9, a10, a11, a12, a13, a14, a15, a16, a17, a18, a19, a20, a21, a22, a23, a24, a25, a26, a27, a28, a29⟩ := h.all
  obtain ⟨t1, t2, t3, t4, t5, t6⟩ := hT
  obtain ⟨⟨o1, o2, o3, o4, o5⟩, g1, g2, g3, g4, g5⟩ := id (t4 p hp)
  refine q_of (by decide +kernel) (Nat.le_of_ble_eq_true rfl) ?_
  refine v_L (L' := [(0, .ref m), (1, .int (nI p)), (2, .int k), (3, .long w), (5, .int (nI v))]) rfl ?_
  refine v_bipush (v := 16) i_M_append_0 rfl ?_
  refine v_iload_n i_M_append_2 rfl ?_
  refine v_imul i_M_append_3 ?_
  refine v_aload_n i_M_append_4 rfl ?_
  refine v_get B i_M_append_5 (by first | assumption | exact qset_self _ _ _ | (rw [qset_ne _ _ (by omega)]; first | assumption | exact qset_self _ _ _ | (rw [qset_ne _ _ (by omega)]; first | assumption | exact qset_self _ _ _ | (rw [qset_ne _ _ (by omega)]; first | assumption | exact qset_self _ _ _ | (rw [qset_ne _ _ (by omega)]; first | assumption | exact qset_self _ _ _ | (rw [qset_ne _ _ (by omega)]; first | assumption | exact qset_self _ _ _ | (rw [qset_ne _ _ (by omega)]; first | assumption | exact qset_self _ _ _))))))) rfl ?_
  refine v_iload_n i_M_append_8 rfl ?_
  refine v_iald B (by first | assumption | exact qset_self _ _ _ | (rw [qset_ne _ _ (by omega)]; first | assumption | exact qset_self _ _ _ | (rw [qset_ne _ _ (by omega)]; first | assumption | exact qset_self _ _ _ | (rw [qset_ne _ _ (by omega)]; first | assumption | exact qset_self _ _ _ | (rw [qset_ne _ _ (by omega)]; first | assumption | exact qset_self _ _ _ | (rw [qset_ne _ _ (by omega)]; first | assumption | exact qset_self _ _ _ | (rw [qset_ne _ _ (by omega)]; first | assumption | exact qset_self _ _ _))))))) rfl (by omega) (by omega) i_M_append_9 ?_
  rw [n16, g4]
  refine v_iadd i_M_append_10 ?_
  rw [nI_add]
  obtain ⟨z, hz⟩ : ∃ z, z = 16 * p + (pg p).2.2.2.length := ⟨_, rfl⟩
  rw [← hz]
  refine v_istore i_M_append_11 (by decide) rfl ?_
  refine v_aload_n i_M_append_13 rfl ?_
  refine v_get B i_M_append_14 (by first | assumption | exact qset_self _ _ _ | (rw [qset_ne _ _ (by omega)]; first | assumption | exact qset_self _ _ _ | (rw [qset_ne _ _ (by omega)]; first | assumption | exact qset_self _ _ _ | (rw [qset_ne _ _ (by omega)]; first | assumption | exact qset_self _ _ _ | (rw [qset_ne _ _ (by omega)]; first | assumption | exact qset_self _ _ _ | (rw [qset_ne _ _ (by omega)]; first | assumption | exact qset_self _ _ _ | (rw [qset_ne _ _ (by omega)]; first | assumption | exact qset_self _ _ _))))))) rfl ?_
  refine v_iload i_M_append_17 rfl ?_
  refine v_iload_n i_M_append_19 rfl ?_
  refine v_mist B h (a := 6) (N := 8192) (j := z) rfl rfl (by decide) (by decide) (rfl) (by omega) (by omega) i_M_append_20 (fun X1 h1 f1 => ?_)
  obtain ⟨b0, -⟩ := id h1
  refine v_aload_n i_M_append_21 rfl ?_
  refine v_get B i_M_append_22 (by first | assumption | exact qset_self _ _ _ | (rw [qset_ne _ _ (by omega)]; first | assumption | exact qset_self _ _ _ | (rw [qset_ne _ _ (by omega)]; first | assumption | exact qset_self _ _ _ | (rw [qset_ne _ _ (by omega)]; first | assumption | exact qset_self _ _ _ | (rw [qset_ne _ _ (by omega)]; first | assumption | exact qset_self _ _ _ | (rw [qset_ne _ _ (by omega)]; first | assumption | exact qset_self _ _ _ | (rw [qset_ne _ _ (by omega)]; first | assumption | exact qset_self _ _ _))))))) rfl ?_
  refine v_iload i_M_append_25 rfl ?_
  refine v_iload i_M_append_27 rfl ?_
  refine v_mist B h1 (a := 7) (N := 8192) (j := z) rfl rfl (by decide) (by decide) (rfl) (by omega) (by omega) i_M_append_29 (fun X2 h2 f2 => ?_)
  obtain ⟨b0, -⟩ := id h2
  refine v_aload_n i_M_append_30 rfl ?_
  refine v_get B i_M_append_31 (by first | assumption | exact qset_self _ _ _ | (rw [qset_ne _ _ (by omega)]; first | assumption | exact qset_self _ _ _ | (rw [qset_ne _ _ (by omega)]; first | assumption | exact qset_self _ _ _ | (rw [qset_ne _ _ (by omega)]; first | assumption | exact qset_self _ _ _ | (rw [qset_ne _ _ (by omega)]; first | assumption | exact qset_self _ _ _ | (rw [qset_ne _ _ (by omega)]; first | assumption | exact qset_self _ _ _ | (rw [qset_ne _ _ (by omega)]; first | assumption | exact qset_self _ _ _))))))) rfl ?_
  refine v_iload i_M_append_34 rfl ?_
  refine v_iconst (v := (-1)) i_M_append_36 rfl ?_
  refine v_mist B h2 (a := 8) (N := 8192) (j := z) rfl rfl (by decide) (by decide) (rfl) (by omega) (by omega) i_M_append_37 (fun X3 h3 f3 => ?_)
  obtain ⟨b0, -⟩ := id h3
  refine v_aload_n i_M_append_38 rfl ?_
  refine v_get B i_M_append_39 (by first | assumption | exact qset_self _ _ _ | (rw [qset_ne _ _ (by omega)]; first | assumption | exact qset_self _ _ _ | (rw [qset_ne _ _ (by omega)]; first | assumption | exact qset_self _ _ _ | (rw [qset_ne _ _ (by omega)]; first | assumption | exact qset_self _ _ _ | (rw [qset_ne _ _ (by omega)]; first | assumption | exact qset_self _ _ _ | (rw [qset_ne _ _ (by omega)]; first | assumption | exact qset_self _ _ _ | (rw [qset_ne _ _ (by omega)]; first | assumption | exact qset_self _ _ _))))))) rfl ?_
  refine v_iload i_M_append_42 rfl ?_
  refine v_lload_n i_M_append_44 rfl ?_
  refine v_mlst B h3 (a := 9) (N := 8192) (j := z) rfl rfl (by decide) (by decide) (rfl) (by omega) (by omega) i_M_append_45 (fun X4 h4 f4 => ?_)
  obtain ⟨b0, -⟩ := id h4
  have b4 : X4.1 (m + 4) = some (.inl (0, 512, .inl (I 4))) := h4.2 4 (by decide) (by decide)
  refine v_aload_n i_M_append_46 rfl ?_
  refine v_get B i_M_append_47 (by first | assumption | exact qset_self _ _ _ | (rw [qset_ne _ _ (by omega)]; first | assumption | exact qset_self _ _ _ | (rw [qset_ne _ _ (by omega)]; first | assumption | exact qset_self _ _ _ | (rw [qset_ne _ _ (by omega)]; first | assumption | exact qset_self _ _ _ | (rw [qset_ne _ _ (by omega)]; first | assumption | exact qset_self _ _ _ | (rw [qset_ne _ _ (by omega)]; first | assumption | exact qset_self _ _ _ | (rw [qset_ne _ _ (by omega)]; first | assumption | exact qset_self _ _ _))))))) rfl ?_
  refine v_iload_n i_M_append_50 rfl ?_
  refine v_dup2 i_M_append_51 rfl rfl ?_
  refine v_iald B (by first | assumption | exact qset_self _ _ _ | (rw [qset_ne _ _ (by omega)]; first | assumption | exact qset_self _ _ _ | (rw [qset_ne _ _ (by omega)]; first | assumption | exact qset_self _ _ _ | (rw [qset_ne _ _ (by omega)]; first | assumption | exact qset_self _ _ _ | (rw [qset_ne _ _ (by omega)]; first | assumption | exact qset_self _ _ _ | (rw [qset_ne _ _ (by omega)]; first | assumption | exact qset_self _ _ _ | (rw [qset_ne _ _ (by omega)]; first | assumption | exact qset_self _ _ _))))))) rfl (by omega) (by omega) i_M_append_52 ?_
  refine v_iconst (v := 1) i_M_append_53 rfl ?_
  refine v_iadd i_M_append_54 ?_
  rw [g4, nI_1]
  refine v_mist B h4 (a := 4) (N := 512) (j := p) rfl rfl (by decide) (by decide) (rfl) (by omega) (by omega) i_M_append_55 (fun X5 h5 f5 => ?_)
  have hk : mK [4, 6, 7, 8, 9] I J (mIu (mIu (mIu (mIu I 6 z k) 7 z (nI v)) 8 z (-1)) 4 p (nI ((pg p).2.2.2.length + 1))) (mJu J 9 z w) := (((((mK.rf _ I J).int (by decide)).int (by decide)).int (by decide)).long (by decide)).int (by decide)
  have e6 : (mIu (mIu (mIu (mIu I 6 z k) 7 z (nI v)) 8 z (-1)) 4 p (nI ((pg p).2.2.2.length + 1))) 6 = upd (I 6) z k := by rw [mIu_ne (by decide), mIu_ne (by decide), mIu_ne (by decide), mIu_self]
  have e7 : (mIu (mIu (mIu (mIu I 6 z k) 7 z (nI v)) 8 z (-1)) 4 p (nI ((pg p).2.2.2.length + 1))) 7 = upd (I 7) z (nI v) := by rw [mIu_ne (by decide), mIu_ne (by decide), mIu_self, mIu_ne (by decide)]
  have e8 : (mIu (mIu (mIu (mIu I 6 z k) 7 z (nI v)) 8 z (-1)) 4 p (nI ((pg p).2.2.2.length + 1))) 8 = upd (I 8) z (-1) := by rw [mIu_ne (by decide), mIu_self, mIu_ne (by decide), mIu_ne (by decide)]
  have e4 : (mIu (mIu (mIu (mIu I 6 z k) 7 z (nI v)) 8 z (-1)) 4 p (nI ((pg p).2.2.2.length + 1))) 4 = upd (I 4) p (nI ((pg p).2.2.2.length + 1)) := by rw [mIu_self, mIu_ne (by decide), mIu_ne (by decide), mIu_ne (by decide)]
  have e9 : (mJu J 9 z w) 9 = vp_updL (J 9) z w := mJu_self
  generalize (mIu (mIu (mIu (mIu I 6 z k) 7 z (nI v)) 8 z (-1)) 4 p (nI ((pg p).2.2.2.length + 1))) = I' at h5 hk e6 e7 e8 e4
  generalize (mJu J 9 z w) = J' at h5 hk e9
  have off : ∀ q Q, q ≠ p → mPg I J q Q → mPg I' J' q Q := by
    intro q Q hq hQ
    refine hQ.off (by rw [(hk 1 (by decide)).1]) (by rw [(hk 2 (by decide)).1]) (by rw [(hk 3 (by decide)).1]) (by rw [e4, pk_un hq]) (fun i hi => ?_)
    have hne : 16 * q + i ≠ z := by omega
    rw [e6, e7, e8, e9, pk_un hne, pk_un hne, pk_un hne, pk_uLn hne]
    exact ⟨rfl, rfl, rfl, rfl⟩
  refine v_vret i_M_append_56 rfl (by decide) (by decide) ⟨rfl, I', J', h5, ⟨t1, t2, t3, ?_, ?_, ?_⟩, fun q Q hq _ hQ => off q Q (by omega) hQ, hk, (((f1.trans f2).trans f3).trans f4).trans f5⟩
  · intro q hq
    by_cases hqp : q = p
    · subst hqp
      rw [va_up_self]
      have hl : ((pg q).2.2.2 ++ [(k, v, (none : Option Nat), w)]).length = (pg q).2.2.2.length + 1 := by rw [List.length_append]; rfl
      refine ⟨⟨o1, o2, o3, by show ((pg q).2.2.2 ++ [(k, v, (none : Option Nat), w)]).length ≤ 16; omega, fun i hi => ?_⟩, by rw [(hk 1 (by decide)).1]; exact g1, by rw [(hk 2 (by decide)).1]; exact g2, by rw [(hk 3 (by decide)).1]; exact g3, by rw [e4, pk_us]; show _ = nI ((pg q).2.2.2 ++ [(k, v, (none : Option Nat), w)]).length; rw [hl], fun i hi => ?_⟩
      · replace hi : i < ((pg q).2.2.2 ++ [(k, v, (none : Option Nat), w)]).length := hi
        show (en ((pg q).2.2.2 ++ [(k, v, none, w)]) i).2.1 < 2 ^ 30 ∧ oLt (en ((pg q).2.2.2 ++ [(k, v, none, w)]) i).2.2.1 (2 ^ 30)
        rw [en_app]
        by_cases h1 : i < (pg q).2.2.2.length
        · rw [if_pos h1]; exact o5 i h1
        · rw [if_neg h1, if_pos (by omega)]; exact ⟨hv, fun t ht => by cases ht⟩
      · replace hi : i < ((pg q).2.2.2 ++ [(k, v, (none : Option Nat), w)]).length := hi
        show I' 6 (16 * q + i) = (en ((pg q).2.2.2 ++ [(k, v, none, w)]) i).1 ∧ I' 7 (16 * q + i) = nI (en ((pg q).2.2.2 ++ [(k, v, none, w)]) i).2.1 ∧ I' 8 (16 * q + i) = vO (en ((pg q).2.2.2 ++ [(k, v, none, w)]) i).2.2.1 ∧ J' 9 (16 * q + i) = (en ((pg q).2.2.2 ++ [(k, v, none, w)]) i).2.2.2
        rw [en_app, e6, e7, e8, e9]
        by_cases h1 : i < (pg q).2.2.2.length
        · rw [if_pos h1]
          have hne : 16 * q + i ≠ z := by omega
          rw [pk_un hne, pk_un hne, pk_un hne, pk_uLn hne]
          exact g5 i h1
        · rw [if_neg h1, if_pos (by omega)]
          have he : 16 * q + i = z := by omega
          rw [he, pk_us, pk_us, pk_us, pk_uLs]
          exact ⟨rfl, rfl, rfl, rfl⟩
    · rw [va_up_ne _ _ hqp]
      exact off q _ hqp (t4 q hq)
  · intro w hw
    rw [(hk 10 (by decide)).1]
    exact t5 w hw
  · intro q hq
    rw [(hk 5 (by decide)).1]
    exact t6 q hq
end MM
