/-! the reference: a page is changed -/
theorem mls_tls (es : List Ent) (v : Nat) (o1 o2 : Option Nat) (h1 : oLt o1 16) (h2 : oLt o2 16) : ∀ n, n ≤ 16 → mls es v o1 o2 [] n = tls es v (vO o1) (vO o2) n
  | 0, _ => rfl
  | n + 1, hn => by
    have ih := mls_tls es v o1 o2 h1 h2 n (by omega)
    have e : ∀ o : Option Nat, oLt o 16 → (¬ some n = o ↔ ¬ nI n = vO o) := by
      intro o ho
      cases o with
      | none =>
        refine ⟨fun _ q => ?_, fun _ q => by cases q⟩
        have h3 := nI_toInt (n := n) (by omega)
        rw [q] at h3
        have : (vO none).toInt = -1 := rfl
        omega
      | some t =>
        have := ho t rfl
        refine ⟨fun q z => q ?_, fun q z => q (by cases z; rfl)⟩
        rw [(nI_eq (by omega) (by omega)).mp z]
    unfold mls tls
    rw [ih]
    by_cases hc : alv (en es n) v = true ∧ ¬ some n = o1 ∧ ¬ some n = o2
    · rw [if_pos hc, if_pos ⟨hc.1, (e o1 h1).mp hc.2.1, (e o2 h2).mp hc.2.2⟩]
    · rw [if_neg hc, if_neg (fun q => hc ⟨q.1, (e o1 h1).mpr q.2.1, (e o2 h2).mpr q.2.2⟩)]
theorem mls_copy (es : List Ent) (v : Nat) (R : qRw) : ∀ n, mls es v none none R n = gcopy es v (-2147483648) 2147483647 R n
  | 0 => rfl
  | n + 1 => by
    have ih := mls_copy es v R n
    unfold mls gcopy
    rw [ih]
    have h1 : (-2147483648 : Int32) ≤ (en es n).1 := Int32.le_iff_toInt_le.mpr (by have := Int32.le_toInt (en es n).1; exact this)
    have h2 : (en es n).1 ≤ 2147483647 := Int32.le_iff_toInt_le.mpr (by have := Int32.toInt_le (en es n).1; exact this)
    by_cases hc : alv (en es n) v = true
    · rw [if_pos ⟨hc, Option.some_ne_none n, Option.some_ne_none n⟩, if_pos ⟨hc, h1, h2⟩]
    · rw [if_neg (fun q => hc q.1), if_neg (fun q => hc q.1)]
theorem mls_srt (es : List Ent) (v : Nat) (o1 o2 : Option Nat) {R : qRw} (hR : rsrt R) : ∀ n, rsrt (mls es v o1 o2 R n)
  | 0 => hR
  | n + 1 => by
    unfold mls
    split
    · exact rins_srt (mls_srt es v o1 o2 hR n) _ _
    · exact mls_srt es v o1 o2 hR n
theorem tlc_srt {R : qRw} (hR : rsrt R) (co : qRw) : ∀ n, rsrt (tlc R co n)
  | 0 => hR
  | n + 1 => rins_srt (tlc_srt hR co n) _ _
theorem tlist_srt (P : Pg) (v : Nat) (o1 o2 : Option Nat) (h1 : oLt o1 16) (h2 : oLt o2 16) (hl : P.2.2.2.length ≤ 16) (co : qRw) : rsrt (tlist P v (vO o1) (vO o2) co) := by
  unfold tlist
  rw [← mls_tls _ _ _ _ h1 h2 _ hl]
  exact tlc_srt (mls_srt _ _ _ _ rsrt_nil _) _ _
/-- pages that have changed since -/
theorem gchgE_of {es : List Ent} {v i : Nat} : ∀ {n : Nat}, i < n → (decide (v < (en es i).2.1) || ogt (en es i).2.2.1 v) = true → gchgE es v n = true
  | 0, h, _ => by omega
  | n + 1, h, hc => by
    unfold gchgE
    by_cases hi : i = n
    · subst hi; rw [hc, Bool.or_true]
    · rw [gchgE_of (n := n) (by omega) hc, Bool.true_or]
theorem gchg_die (P : Pg) {v kp : Nat} (h : kp < v) : gchg (gdie P v) kp = true := by
  unfold gchg gdie
  show ((decide (kp < P.2.1) || decide (kp < v)) || _) = true
  rw [decide_eq_true h, Bool.or_true, Bool.true_or]
theorem gchg_born (lev : Nat) {v kp : Nat} (o : Option Nat) (es : List Ent) (h : kp < v) : gchg (lev, v, o, es) kp = true := by
  unfold gchg
  show ((decide (kp < v) || _) || _) = true
  rw [decide_eq_true h, Bool.true_or, Bool.true_or]
theorem gchg_go (P : Pg) {v kp : Nat} (o1 o2 : Option Nat) (co : qRw) (h : kp < v) (h1 : oLt o1 P.2.2.2.length) (hc : 0 < co.length ∨ ∃ i, o1 = some i) : gchg (tchGo P v o1 o2 co) kp = true := by
  unfold gchg tchGo
  show ((_ || _) || gchgE (gend (gend P.2.2.2 o1 v) o2 v ++ gtk co v 0 co.length) kp (gend (gend P.2.2.2 o1 v) o2 v ++ gtk co v 0 co.length).length) = true
  have hl : (gend (gend P.2.2.2 o1 v) o2 v).length = P.2.2.2.length := by rw [gend_len, gend_len]
  have key : ∃ i, i < (gend (gend P.2.2.2 o1 v) o2 v ++ gtk co v 0 co.length).length ∧ (decide (kp < (en (gend (gend P.2.2.2 o1 v) o2 v ++ gtk co v 0 co.length) i).2.1) || ogt (en (gend (gend P.2.2.2 o1 v) o2 v ++ gtk co v 0 co.length) i).2.2.1 kp) = true := by
    rcases hc with hc | ⟨i, rfl⟩
    · refine ⟨P.2.2.2.length, by rw [List.length_append, hl, gtk_len]; omega, ?_⟩
      have e : en (gend (gend P.2.2.2 o1 v) o2 v ++ gtk co v 0 co.length) P.2.2.2.length = (rk co 0, v, none, rv co 0) := by
        unfold en
        rw [List.getD_eq_getElem?_getD, List.getElem?_append_right (by omega), hl, Nat.sub_self]
        unfold gtk
        obtain ⟨k, hk⟩ : ∃ k, co.length = k + 1 := ⟨co.length - 1, by omega⟩
        rw [hk, List.range_succ_eq_map, List.map_cons]
        rfl
      rw [e]
      show (decide (kp < v) || _) = true
      rw [decide_eq_true h, Bool.true_or]
    · have hi := h1 i rfl
      refine ⟨i, by rw [List.length_append, hl]; omega, ?_⟩
      have e : (en (gend (gend P.2.2.2 (some i) v) o2 v ++ gtk co v 0 co.length) i).2.2.1 = some v := by
        have e1 : en (gend (gend P.2.2.2 (some i) v) o2 v ++ gtk co v 0 co.length) i = en (gend (gend P.2.2.2 (some i) v) o2 v) i := by
          unfold en
          rw [List.getD_eq_getElem?_getD, List.getD_eq_getElem?_getD, List.getElem?_append_left (by omega)]
        rw [e1]
        have e2 : (en (gend P.2.2.2 (some i) v) i).2.2.1 = some v := by
          show (en (P.2.2.2.set i _) i).2.2.1 = some v
          rw [en_set _ _ _ _ hi, if_pos rfl]
        cases o2 with
        | none => exact e2
        | some t =>
          by_cases ht : t < (gend P.2.2.2 (some i) v).length
          · show (en ((gend P.2.2.2 (some i) v).set t _) i).2.2.1 = some v
            rw [en_set _ _ _ _ ht]
            by_cases hit : i = t
            · rw [if_pos hit]
            · rw [if_neg hit]; exact e2
          · show (en ((gend P.2.2.2 (some i) v).set t _) i).2.2.1 = some v
            rw [List.set_eq_of_length_le (by omega)]
            exact e2
      rw [e]
      show (_ || decide (kp < v)) = true
      rw [decide_eq_true h, Bool.or_true]
  obtain ⟨i, hi1, hi2⟩ := key
  rw [gchgE_of hi1 hi2, Bool.or_true]
section MC
variable {X X' : qX} {m : Nat} {s : Nat → Int32} {I : Nat → Nat → Int32} {J : Nat → Nat → Int64}
variable {pg : Nat → Pg} {made lat : Nat} {dt : Nat → Bool} {ro : Nat → Nat} {rb : Nat}
variable {l : Launch} {s0 : State} {C : qC}
theorem MT.die (h : MT s I J pg made lat dt ro rb) {p v : Nat} (hp : p < made) (hv : v < 2 ^ 30) : MT s (mIu I 3 p (nI v)) J (va_up pg p (gdie (pg p) v)) made lat dt ro rb ∧ mSn I J (mIu I 3 p (nI v)) J := by
  have hk : mK [3] I J (mIu I 3 p (nI v)) J := (mK.rf _ _ _).int (by decide)
  obtain ⟨h1, h2, h3, h4, h5, h6⟩ := h
  have off : ∀ q Q, q ≠ p → mPg I J q Q → mPg (mIu I 3 p (nI v)) J q Q := fun q Q hq hQ => hQ.off (by rw [(hk 1 (by decide)).1]) (by rw [(hk 2 (by decide)).1]) (by rw [mIu_self, pk_un hq]) (by rw [(hk 4 (by decide)).1]) (fun i _ => by rw [(hk 6 (by decide)).1, (hk 7 (by decide)).1, (hk 8 (by decide)).1]; exact ⟨rfl, rfl, rfl, rfl⟩)
  refine ⟨⟨h1, h2, h3, fun q hq => ?_, fun w hw => by rw [(hk 10 (by decide)).1]; exact h5 w hw, fun p hp => by rw [(hk 5 (by decide)).1]; exact h6 p hp⟩, fun q Q hq _ hQ => off q Q (by omega) hQ⟩
  by_cases hqp : q = p
  · subst hqp
    rw [va_up_self]
    obtain ⟨⟨o1, o2, o3, o4, o5⟩, g1, g2, g3, g4, g5⟩ := h4 q hp
    exact ⟨⟨o1, o2, fun t ht => by cases ht; exact hv, o4, o5⟩, by rw [(hk 1 (by decide)).1]; exact g1, by rw [(hk 2 (by decide)).1]; exact g2, by rw [mIu_self, pk_us]; rfl, by rw [(hk 4 (by decide)).1]; exact g4, fun i hi => by rw [(hk 6 (by decide)).1, (hk 7 (by decide)).1, (hk 8 (by decide)).1]; exact g5 i hi⟩
  · rw [va_up_ne _ _ hqp]
    exact off q _ hqp (h4 q hq)
theorem MT.soil (h : MT s I J pg made lat dt ro rb) {p : Nat} : MT s (mIu I 5 p 1) J pg made lat (va_up dt p true) ro rb ∧ mSn I J (mIu I 5 p 1) J := by
  have hk : mK [5] I J (mIu I 5 p 1) J := (mK.rf _ _ _).int (by decide)
  obtain ⟨h1, h2, h3, h4, h5, h6⟩ := h
  refine ⟨⟨h1, h2, h3, fun q hq => (h4 q hq).keep hk (by decide), fun w hw => by rw [(hk 10 (by decide)).1]; exact h5 w hw, fun q hq => ?_⟩, mSn.keep hk (by decide)⟩
  rw [mIu_self]
  by_cases hqp : q = p
  · subst hqp; rw [pk_us, va_up_self]; rfl
  · rw [pk_un hqp, va_up_ne _ _ hqp]; exact h6 q hq
theorem MT.ends (h : MT s I J pg made lat dt ro rb) {p v i : Nat} (hp : p < made) (hi : i < (pg p).2.2.2.length) (hv : v < 2 ^ 30) : MT s (mIu I 8 (16 * p + i) (nI v)) J (va_up pg p ((pg p).1, (pg p).2.1, (pg p).2.2.1, gend (pg p).2.2.2 (some i) v)) made lat dt ro rb ∧ mSn I J (mIu I 8 (16 * p + i) (nI v)) J := by
  have hk : mK [8] I J (mIu I 8 (16 * p + i) (nI v)) J := (mK.rf _ _ _).int (by decide)
  obtain ⟨h1, h2, h3, h4, h5, h6⟩ := h
  obtain ⟨⟨o1, o2, o3, o4, o5⟩, g1, g2, g3, g4, g5⟩ := h4 p hp
  have off : ∀ q Q, q ≠ p → mPg I J q Q → mPg (mIu I 8 (16 * p + i) (nI v)) J q Q := fun q Q hq hQ => hQ.off (by rw [(hk 1 (by decide)).1]) (by rw [(hk 2 (by decide)).1]) (by rw [(hk 3 (by decide)).1]) (by rw [(hk 4 (by decide)).1]) (fun j hj => by rw [(hk 6 (by decide)).1, (hk 7 (by decide)).1, mIu_self, pk_un (by omega)]; exact ⟨rfl, rfl, rfl, rfl⟩)
  refine ⟨⟨h1, h2, h3, fun q hq => ?_, fun w hw => by rw [(hk 10 (by decide)).1]; exact h5 w hw, fun p hp => by rw [(hk 5 (by decide)).1]; exact h6 p hp⟩, fun q Q hq _ hQ => off q Q (by have := h2.2.1; omega) hQ⟩
  by_cases hqp : q = p
  · subst hqp
    rw [va_up_self]
    have hl : (gend (pg q).2.2.2 (some i) v).length = (pg q).2.2.2.length := gend_len _ _ _
    refine ⟨⟨o1, o2, o3, by show (gend (pg q).2.2.2 (some i) v).length ≤ 16; omega, fun j hj => ?_⟩, by rw [(hk 1 (by decide)).1]; exact g1, by rw [(hk 2 (by decide)).1]; exact g2, by rw [(hk 3 (by decide)).1]; exact g3, by rw [(hk 4 (by decide)).1]; show _ = nI (gend (pg q).2.2.2 (some i) v).length; rw [hl]; exact g4, fun j hj => ?_⟩
    · replace hj : j < (gend (pg q).2.2.2 (some i) v).length := hj
      show (en ((pg q).2.2.2.set i _) j).2.1 < 2 ^ 30 ∧ oLt (en ((pg q).2.2.2.set i _) j).2.2.1 (2 ^ 30)
      rw [en_set _ _ _ _ hi]
      by_cases hji : j = i
      · rw [if_pos hji]; exact ⟨(o5 i hi).1, fun t ht => by cases ht; exact hv⟩
      · rw [if_neg hji]; exact o5 j (by omega)
    · replace hj : j < (gend (pg q).2.2.2 (some i) v).length := hj
      have hgj := g5 j (by omega)
      show _ = (en ((pg q).2.2.2.set i _) j).1 ∧ _ = nI (en ((pg q).2.2.2.set i _) j).2.1 ∧ _ = vO (en ((pg q).2.2.2.set i _) j).2.2.1 ∧ _ = (en ((pg q).2.2.2.set i _) j).2.2.2
      rw [(hk 6 (by decide)).1, (hk 7 (by decide)).1, mIu_self, en_set _ _ _ _ hi]
      by_cases hji : j = i
      · subst hji
        rw [if_pos rfl, pk_us]
        exact ⟨hgj.1, hgj.2.1, rfl, hgj.2.2.2⟩
      · rw [if_neg hji, pk_un (by omega)]
        exact hgj
  · rw [va_up_ne _ _ hqp]
    exact off q _ hqp (h4 q hq)
theorem mCo.keep {s' : Nat → Int32} {I' : Nat → Nat → Int32} {J' : Nat → Nat → Int64} {A S : List Nat} {R : qRw} (h : mCo s I J R) (hk : mK A I J I' J') (hs : sK S s s') (hA : (A.contains 19 || A.contains 20 || S.contains 30) = false) : mCo s' I' J' R := by
  simp only [Bool.or_eq_false_iff] at hA
  have f : ∀ (A : List Nat) a, A.contains a = false → a ∉ A := fun A a ha q => by rw [List.contains_iff_mem.mpr q] at ha; cases ha
  obtain ⟨⟨x1, x2⟩, x3⟩ := hA
  obtain ⟨h1, h2, h3⟩ := h
  exact ⟨by rw [hs 30 (f _ _ x3)]; exact h1, h2, fun i hi => by rw [(hk 19 (f _ _ x1)).1, (hk 20 (f _ _ x2)).2]; exact h3 i hi⟩
theorem c_M_change_a (B : qB l s0 C) {R co : qRw} (hR : R.length ≤ 16) (p v : Nat) (z : Int32) {Qp : Option Value → qX → Prop} (hCo : mCo s I J co)
    (K : ∀ (X2 : qX) (s2 : Nat → Int32) (I2 : Nat → Nat → Int32) (J2 : Nat → Nat → Int64), MAt X2 m s2 I2 J2 → mRw s2 I2 J2 (tlc R co co.length) → mK [21, 22] I J I2 J2 → sK [33] s s2 → qSame X X2 m (m + 30) → qV l s0 C m_M_change rm_M_change Qp (fun _ _ => False) 0 0 X2 49 [(0, .ref m), (1, .int (nI p)), (2, .int (nI v)), (3, .int z)] []) :
    ∀ (j i : Nat) (X' : qX) (s' : Nat → Int32) (I' : Nat → Nat → Int32) (J' : Nat → Nat → Int64), i + j = co.length → MAt X' m s' I' J' → mRw s' I' J' (tlc R co i) → mK [21, 22] I J I' J' → sK [33] s s' → qSame X X' m (m + 30) →
      qV l s0 C m_M_change rm_M_change Qp (fun _ _ => False) 0 0 X' 16 [(0, .ref m), (1, .int (nI p)), (2, .int (nI v)), (3, .int z), (4, .int (nI i))] [] := by
  intro j
  induction j with
  | zero =>
    intro i X' s' I' J' hij h hRw hk hs hf
    obtain ⟨h0, a1, a2, a3, a4, a5, a6, a7, a8, a9, a10, a11, a12, a13, a14, a15, a16, a17, a18, a19, a20, a21, a22, a23, a24, a25, a26, a27, a28, a29⟩ := h.all
    obtain ⟨c1, c2, c3⟩ := hCo.keep hk hs (by decide)
    have hi : i = co.length := by omega
    subst hi
    refine v_iload i_M_change_16 rfl ?_
    refine v_aload_n i_M_change_18 rfl ?_
    refine v_get B i_M_change_19 (by first | assumption | exact qset_self _ _ _ | (rw [qset_ne _ _ (by omega)]; first | assumption | exact qset_self _ _ _ | (rw [qset_ne _ _ (by omega)]; first | assumption | exact qset_self _ _ _ | (rw [qset_ne _ _ (by omega)]; first | assumption | exact qset_self _ _ _ | (rw [qset_ne _ _ (by omega)]; first | assumption | exact qset_self _ _ _ | (rw [qset_ne _ _ (by omega)]; first | assumption | exact qset_self _ _ _ | (rw [qset_ne _ _ (by omega)]; first | assumption | exact qset_self _ _ _))))))) rfl ?_
    rw [c1]
    refine v_icmp_ge (tgt := 49) i_M_change_22 rfl (fun q22 => ?_) (fun q22 => ?_)
    · exact v_loc [(0, .ref m), (1, .int (nI p)), (2, .int (nI v)), (3, .int z)] rfl (K X' s' I' J' h hRw hk hs hf)
    · exact absurd (nI_le (Nat.le_refl _) (by omega)) q22
  | succ j ih =>
    intro i X' s' I' J' hij h hRw hk hs hf
    obtain ⟨h0, a1, a2, a3, a4, a5, a6, a7, a8, a9, a10, a11, a12, a13, a14, a15, a16, a17, a18, a19, a20, a21, a22, a23, a24, a25, a26, a27, a28, a29⟩ := h.all
    obtain ⟨c1, c2, c3⟩ := hCo.keep hk hs (by decide)
    obtain ⟨k1, k2⟩ := c3 i (by omega)
    refine v_iload i_M_change_16 rfl ?_
    refine v_aload_n i_M_change_18 rfl ?_
    refine v_get B i_M_change_19 (by first | assumption | exact qset_self _ _ _ | (rw [qset_ne _ _ (by omega)]; first | assumption | exact qset_self _ _ _ | (rw [qset_ne _ _ (by omega)]; first | assumption | exact qset_self _ _ _ | (rw [qset_ne _ _ (by omega)]; first | assumption | exact qset_self _ _ _ | (rw [qset_ne _ _ (by omega)]; first | assumption | exact qset_self _ _ _ | (rw [qset_ne _ _ (by omega)]; first | assumption | exact qset_self _ _ _ | (rw [qset_ne _ _ (by omega)]; first | assumption | exact qset_self _ _ _))))))) rfl ?_
    rw [c1]
    refine v_icmp_ge (tgt := 49) i_M_change_22 rfl (fun q22 => ?_) (fun q22 => ?_)
    · exact absurd q22 (nI_ge (by omega) (by omega))
    refine v_aload_n i_M_change_25 rfl ?_
    refine v_aload_n i_M_change_26 rfl ?_
    refine v_get B i_M_change_27 (by first | assumption | exact qset_self _ _ _ | (rw [qset_ne _ _ (by omega)]; first | assumption | exact qset_self _ _ _ | (rw [qset_ne _ _ (by omega)]; first | assumption | exact qset_self _ _ _ | (rw [qset_ne _ _ (by omega)]; first | assumption | exact qset_self _ _ _ | (rw [qset_ne _ _ (by omega)]; first | assumption | exact qset_self _ _ _ | (rw [qset_ne _ _ (by omega)]; first | assumption | exact qset_self _ _ _ | (rw [qset_ne _ _ (by omega)]; first | assumption | exact qset_self _ _ _))))))) rfl ?_
    refine v_iload i_M_change_30 rfl ?_
    refine v_iald B (by first | assumption | exact qset_self _ _ _ | (rw [qset_ne _ _ (by omega)]; first | assumption | exact qset_self _ _ _ | (rw [qset_ne _ _ (by omega)]; first | assumption | exact qset_self _ _ _ | (rw [qset_ne _ _ (by omega)]; first | assumption | exact qset_self _ _ _ | (rw [qset_ne _ _ (by omega)]; first | assumption | exact qset_self _ _ _ | (rw [qset_ne _ _ (by omega)]; first | assumption | exact qset_self _ _ _ | (rw [qset_ne _ _ (by omega)]; first | assumption | exact qset_self _ _ _))))))) rfl (by omega) (by omega) i_M_change_32 ?_
    refine v_aload_n i_M_change_33 rfl ?_
    refine v_get B i_M_change_34 (by first | assumption | exact qset_self _ _ _ | (rw [qset_ne _ _ (by omega)]; first | assumption | exact qset_self _ _ _ | (rw [qset_ne _ _ (by omega)]; first | assumption | exact qset_self _ _ _ | (rw [qset_ne _ _ (by omega)]; first | assumption | exact qset_self _ _ _ | (rw [qset_ne _ _ (by omega)]; first | assumption | exact qset_self _ _ _ | (rw [qset_ne _ _ (by omega)]; first | assumption | exact qset_self _ _ _ | (rw [qset_ne _ _ (by omega)]; first | assumption | exact qset_self _ _ _))))))) rfl ?_
    refine v_iload i_M_change_37 rfl ?_
    refine v_lald B (by first | assumption | exact qset_self _ _ _ | (rw [qset_ne _ _ (by omega)]; first | assumption | exact qset_self _ _ _ | (rw [qset_ne _ _ (by omega)]; first | assumption | exact qset_self _ _ _ | (rw [qset_ne _ _ (by omega)]; first | assumption | exact qset_self _ _ _ | (rw [qset_ne _ _ (by omega)]; first | assumption | exact qset_self _ _ _ | (rw [qset_ne _ _ (by omega)]; first | assumption | exact qset_self _ _ _ | (rw [qset_ne _ _ (by omega)]; first | assumption | exact qset_self _ _ _))))))) rfl (by omega) (by omega) i_M_change_39 ?_
    rw [k1, k2]
    have hlen := tlc_len R co i
    refine v_inv B i_M_change_40 kn_m_M_list (c_M_list B h hRw (rk co i) (rv co i) (by omega)) h0 rfl rfl (Nat.le_of_ble_eq_true rfl) ⟨by decide, by decide, by first | decide | (simp; omega), by first | decide | (simp; omega)⟩ rfl (fun r X' hq => ?_) (fun _ _ h => False.elim h)
    obtain ⟨rfl, s2, I2, J2, h2, hR2, hk2, hs2, hf2⟩ := hq
    refine v_iinc (v := nI (i + 1)) i_M_change_43 rfl (nI_1 i) (by decide) rfl ?_
    refine v_goto (tgt := 16) i_M_change_46 rfl ?_
    exact v_loc [(0, .ref m), (1, .int (nI p)), (2, .int (nI v)), (3, .int z), (4, .int (nI (i + 1)))] rfl (ih (i + 1) _ s2 I2 J2 (by omega) h2 hR2 (hk.trans hk2) (hs.trans hs2) (hf.trans hf2))
theorem c_M_change_b (B : qB l s0 C) {co : qRw} (p v : Nat) (hp : p < made) (hv : v < 2 ^ 30) (z : Int32) (P : Pg) (hroom : P.2.2.2.length + co.length ≤ 16) {Qp : Option Value → qX → Prop} (hCo : mCo s I J co)
    (K : ∀ (X2 : qX) (I2 : Nat → Nat → Int32) (J2 : Nat → Nat → Int64), MAt X2 m s I2 J2 → MT s I2 J2 (va_up pg p (P.1, P.2.1, P.2.2.1, P.2.2.2 ++ gtk co v 0 co.length)) made lat dt ro rb → mSn I J I2 J2 → mK [4, 6, 7, 8, 9] I J I2 J2 → qSame X X2 m (m + 30) → qV l s0 C m_M_change rm_M_change Qp (fun _ _ => False) 0 0 X2 199 [(0, .ref m), (1, .int (nI p)), (2, .int (nI v)), (3, .int z)] []) :
    ∀ (j i : Nat) (X' : qX) (I' : Nat → Nat → Int32) (J' : Nat → Nat → Int64), i + j = co.length → MAt X' m s I' J' → MT s I' J' (va_up pg p (P.1, P.2.1, P.2.2.1, P.2.2.2 ++ gtk co v 0 i)) made lat dt ro rb → mSn I J I' J' → mK [4, 6, 7, 8, 9] I J I' J' → qSame X X' m (m + 30) →
      qV l s0 C m_M_change rm_M_change Qp (fun _ _ => False) 0 0 X' 164 [(0, .ref m), (1, .int (nI p)), (2, .int (nI v)), (3, .int z), (4, .int (nI i))] [] := by
  intro j
  induction j with
  | zero =>
    intro i X' I' J' hij h hT hsn hk hf
    obtain ⟨h0, a1, a2, a3, a4, a5, a6, a7, a8, a9, a10, a11, a12, a13, a14, a15, a16, a17, a18, a19, a20, a21, a22, a23, a24, a25, a26, a27, a28, a29⟩ := h.all
    obtain ⟨c1, c2, c3⟩ := hCo.keep (S := []) hk (sK.rf _ _) (by decide)
    have hi : i = co.length := by omega
    subst hi
    refine v_iload i_M_change_164 rfl ?_
    refine v_aload_n i_M_change_166 rfl ?_
    refine v_get B i_M_change_167 (by first | assumption | exact qset_self _ _ _ | (rw [qset_ne _ _ (by omega)]; first | assumption | exact qset_self _ _ _ | (rw [qset_ne _ _ (by omega)]; first | assumption | exact qset_self _ _ _ | (rw [qset_ne _ _ (by omega)]; first | assumption | exact qset_self _ _ _ | (rw [qset_ne _ _ (by omega)]; first | assumption | exact qset_self _ _ _ | (rw [qset_ne _ _ (by omega)]; first | assumption | exact qset_self _ _ _ | (rw [qset_ne _ _ (by omega)]; first | assumption | exact qset_self _ _ _))))))) rfl ?_
    rw [c1]
    refine v_icmp_ge (tgt := 199) i_M_change_170 rfl (fun q22 => ?_) (fun q22 => ?_)
    · exact v_loc [(0, .ref m), (1, .int (nI p)), (2, .int (nI v)), (3, .int z)] rfl (K X' I' J' h hT hsn hk hf)
    · exact absurd (nI_le (Nat.le_refl _) (by omega)) q22
  | succ j ih =>
    intro i X' I' J' hij h hT hsn hk hf
    obtain ⟨h0, a1, a2, a3, a4, a5, a6, a7, a8, a9, a10, a11, a12, a13, a14, a15, a16, a17, a18, a19, a20, a21, a22, a23, a24, a25, a26, a27, a28, a29⟩ := h.all
    obtain ⟨c1, c2, c3⟩ := hCo.keep (S := []) hk (sK.rf _ _) (by decide)
    obtain ⟨k1, k2⟩ := c3 i (by omega)
    refine v_iload i_M_change_164 rfl ?_
    refine v_aload_n i_M_change_166 rfl ?_
    refine v_get B i_M_change_167 (by first | assumption | exact qset_self _ _ _ | (rw [qset_ne _ _ (by omega)]; first | assumption | exact qset_self _ _ _ | (rw [qset_ne _ _ (by omega)]; first | assumption | exact qset_self _ _ _ | (rw [qset_ne _ _ (by omega)]; first | assumption | exact qset_self _ _ _ | (rw [qset_ne _ _ (by omega)]; first | assumption | exact qset_self _ _ _ | (rw [qset_ne _ _ (by omega)]; first | assumption | exact qset_self _ _ _ | (rw [qset_ne _ _ (by omega)]; first | assumption | exact qset_self _ _ _))))))) rfl ?_
    rw [c1]
    refine v_icmp_ge (tgt := 199) i_M_change_170 rfl (fun q22 => ?_) (fun q22 => ?_)
    · exact absurd q22 (nI_ge (by omega) (by omega))
    refine v_aload_n i_M_change_173 rfl ?_
    refine v_iload_n i_M_change_174 rfl ?_
    refine v_aload_n i_M_change_175 rfl ?_
    refine v_get B i_M_change_176 (by first | assumption | exact qset_self _ _ _ | (rw [qset_ne _ _ (by omega)]; first | assumption | exact qset_self _ _ _ | (rw [qset_ne _ _ (by omega)]; first | assumption | exact qset_self _ _ _ | (rw [qset_ne _ _ (by omega)]; first | assumption | exact qset_self _ _ _ | (rw [qset_ne _ _ (by omega)]; first | assumption | exact qset_self _ _ _ | (rw [qset_ne _ _ (by omega)]; first | assumption | exact qset_self _ _ _ | (rw [qset_ne _ _ (by omega)]; first | assumption | exact qset_self _ _ _))))))) rfl ?_
    refine v_iload i_M_change_179 rfl ?_
    refine v_iald B (by first | assumption | exact qset_self _ _ _ | (rw [qset_ne _ _ (by omega)]; first | assumption | exact qset_self _ _ _ | (rw [qset_ne _ _ (by omega)]; first | assumption | exact qset_self _ _ _ | (rw [qset_ne _ _ (by omega)]; first | assumption | exact qset_self _ _ _ | (rw [qset_ne _ _ (by omega)]; first | assumption | exact qset_self _ _ _ | (rw [qset_ne _ _ (by omega)]; first | assumption | exact qset_self _ _ _ | (rw [qset_ne _ _ (by omega)]; first | assumption | exact qset_self _ _ _))))))) rfl (by omega) (by omega) i_M_change_181 ?_
    refine v_aload_n i_M_change_182 rfl ?_
    refine v_get B i_M_change_183 (by first | assumption | exact qset_self _ _ _ | (rw [qset_ne _ _ (by omega)]; first | assumption | exact qset_self _ _ _ | (rw [qset_ne _ _ (by omega)]; first | assumption | exact qset_self _ _ _ | (rw [qset_ne _ _ (by omega)]; first | assumption | exact qset_self _ _ _ | (rw [qset_ne _ _ (by omega)]; first | assumption | exact qset_self _ _ _ | (rw [qset_ne _ _ (by omega)]; first | assumption | exact qset_self _ _ _ | (rw [qset_ne _ _ (by omega)]; first | assumption | exact qset_self _ _ _))))))) rfl ?_
    refine v_iload i_M_change_186 rfl ?_
    refine v_lald B (by first | assumption | exact qset_self _ _ _ | (rw [qset_ne _ _ (by omega)]; first | assumption | exact qset_self _ _ _ | (rw [qset_ne _ _ (by omega)]; first | assumption | exact qset_self _ _ _ | (rw [qset_ne _ _ (by omega)]; first | assumption | exact qset_self _ _ _ | (rw [qset_ne _ _ (by omega)]; first | assumption | exact qset_self _ _ _ | (rw [qset_ne _ _ (by omega)]; first | assumption | exact qset_self _ _ _ | (rw [qset_ne _ _ (by omega)]; first | assumption | exact qset_self _ _ _))))))) rfl (by omega) (by omega) i_M_change_188 ?_
    refine v_iload_n i_M_change_189 rfl ?_
    rw [k1, k2]
    refine v_inv B i_M_change_190 kn_m_M_append (c_M_append B h hT p hp (by rw [va_up_self]; show (P.2.2.2 ++ gtk co v 0 i).length < 16; rw [List.length_append, gtk_len]; omega) (rk co i) (rv co i) v hv) h0 rfl rfl (Nat.le_of_ble_eq_true rfl) ⟨by decide, by decide, by first | decide | (simp; omega), by first | decide | (simp; omega)⟩ rfl (fun r X' hq => ?_) (fun _ _ h => False.elim h)
    obtain ⟨rfl, I2, J2, h2, hT2, hsn2, hk2, hf2⟩ := hq
    refine v_iinc (v := nI (i + 1)) i_M_change_193 rfl (nI_1 i) (by decide) rfl ?_
    refine v_goto (tgt := 164) i_M_change_196 rfl ?_
    refine v_loc [(0, .ref m), (1, .int (nI p)), (2, .int (nI v)), (3, .int z), (4, .int (nI (i + 1)))] rfl (ih (i + 1) _ I2 J2 (by omega) h2 ?_ (hsn.trans hsn2) (hk.trans hk2) (hf.trans hf2))
    rw [va_up2, va_up_self] at hT2
    have e9 : (((P.1, P.2.1, P.2.2.1, P.2.2.2 ++ gtk co v 0 i) : Pg).1, ((P.1, P.2.1, P.2.2.1, P.2.2.2 ++ gtk co v 0 i) : Pg).2.1, ((P.1, P.2.1, P.2.2.1, P.2.2.2 ++ gtk co v 0 i) : Pg).2.2.1, ((P.1, P.2.1, P.2.2.1, P.2.2.2 ++ gtk co v 0 i) : Pg).2.2.2 ++ [(rk co i, v, (none : Option Nat), rv co i)]) = (P.1, P.2.1, P.2.2.1, P.2.2.2 ++ gtk co v 0 (i + 1)) := by
      rw [gtk_succ, Nat.zero_add]
      show (P.1, P.2.1, P.2.2.1, (P.2.2.2 ++ gtk co v 0 i) ++ [(rk co i, v, none, rv co i)]) = _
      rw [List.append_assoc]
    rw [e9] at hT2
    exact hT2
end MC
