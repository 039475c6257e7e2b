/-! the reference: what comes of a page remade -/
theorem gtk_key (R : qRw) (lev v lo n : Nat) (hn : 0 < n) (h16 : n ≤ 16) : gkeyAt (lev, v, none, gtk R v lo n) 0 = rk R lo := by
  have hl : (gtk R v lo n).length = n := gtk_len R v lo n
  rw [show (0 : Int32) = nI 0 from rfl, gkeyAt_nI (P := (lev, v, none, gtk R v lo n)) (by show 0 < (gtk R v lo n).length; omega) (by show (gtk R v lo n).length ≤ 16; omega)]
  show (en (gtk R v lo n) 0).1 = rk R lo
  unfold en gtk
  obtain ⟨k, rfl⟩ : ∃ k, n = k + 1 := ⟨n - 1, by omega⟩
  rw [List.range_succ_eq_map, List.map_cons]
  rfl
theorem tmkC_two (made : Nat) (R : qRw) (lev v : Nat) (h : thalf R.length < R.length) (hs : rsrt R) (h20 : R.length ≤ 20) : tmkC made R lev v = [(rk R 0, (nI made).toInt64), (rk R (thalf R.length), (nI (made + 1)).toInt64)] := by
  have ht : thalf R.length ≤ 10 ∧ 0 < thalf R.length ∧ R.length - thalf R.length ≤ 10 := by unfold thalf at h ⊢; split at h <;> rename_i hq <;> first | (rw [if_pos hq]; omega) | omega
  rw [tmkC, if_pos h, gtk_key _ _ _ _ _ (by omega) (by omega), gtk_key _ _ _ _ _ (by omega) (by omega)]
  have hle : ¬ rk R (thalf R.length) < rk R 0 := fun q => by
    have h1 := hs 0 (thalf R.length) (by omega) h
    have h2 := Int32.lt_iff_toInt_lt.mp q
    omega
  have e1 : rins [] (rk R 0) (nI made).toInt64 = [(rk R 0, (nI made).toInt64)] := rfl
  rw [e1]
  unfold rins
  have e2 : rpos [(rk R 0, (nI made).toInt64)] (rk R (thalf R.length)) 1 = 1 := by
    unfold rpos
    rw [show rk [(rk R 0, (nI made).toInt64)] 0 = rk R 0 from rfl, if_neg hle]
  rw [show [(rk R 0, (nI made).toInt64)].length = 1 from rfl, e2]
  rfl
theorem tmkC_one (made : Nat) (R : qRw) (lev v : Nat) (h : ¬ thalf R.length < R.length) (h0 : 0 < R.length) : tmkC made R lev v = [(rk R 0, (nI made).toInt64)] := by
  have ht : thalf R.length = R.length ∧ R.length ≤ 10 := by unfold thalf at h ⊢; split at h <;> rename_i hq <;> first | (rw [if_neg hq]; omega) | omega
  rw [tmkC, if_neg h, gtk_key _ _ _ _ _ (by omega) (by omega)]
  rfl
/-- the first key of what goes -/
def mkey (es : List Ent) (i : Nat) (o : Option Nat) : Int32 := match o with
  | none => (en es i).1
  | some j => imin (en es i).1 (en es j).1
def mCo (s : Nat → Int32) (I : Nat → Nat → Int32) (J : Nat → Nat → Int64) (co : qRw) : Prop := s 30 = nI co.length ∧ co.length ≤ 2 ∧ ∀ i, i < co.length → I 19 i = rk co i ∧ J 20 i = rv co i
section MS
variable {X X' : qX} {m : Nat} {s : Nat → Int32} {I : Nat → Nat → Int32} {J : Nat → Nat → Int64}
variable {pg : Nat → Pg} {made lat : Nat} {dt : Nat → Bool} {ro : Nat → Nat} {rb : Nat}
variable {l : Launch} {s0 : State} {C : qC}
theorem MT.root (h : MT s I J pg made lat dt ro rb) {v x : Nat} (hv : v ≤ rb) (hx : x < 256) : MT s (mIu I 10 v (nI x)) J pg made lat dt (va_up ro v x) rb := by
  have hk : mK [10] I J (mIu I 10 v (nI x)) J := (mK.rf _ _ _).int (by decide)
  obtain ⟨h1, h2, h3, h4, h5, h6⟩ := h
  refine ⟨h1, h2, h3, fun p hp => (h4 p hp).keep hk (by decide), fun w hw => ?_, fun p hp => by rw [(hk 5 (by decide)).1]; exact h6 p hp⟩
  rw [mIu_self]
  by_cases hwv : w = v
  · subst hwv; rw [pk_us, va_up_self]; exact ⟨rfl, hx⟩
  · rw [pk_un hwv, va_up_ne _ _ hwv]; exact h5 w hw
theorem va_up_at {α : Type} (f : Nat → α) (a b : Nat) (x : α) : va_up f a x b = if b = a then x else f b := rfl
set_option maxHeartbeats 2000000 in
theorem c_M_remakeR (B : qB l s0 C) (h : MAt X m s I J) {v : Nat} (hT : MT s I J pg made lat dt ro v) {R : qRw} (hRw : mRw s I J R) (hR20 : R.length ≤ 20) (hsrt : rsrt R) (hm : made + 3 ≤ 256) (p : Nat) (hp : p < made) (hlv : (pg p).1 < 900) (hv : v < 4001) (g1 g2 : Int32) :
    qMet l s0 C m_M_remake rm_M_remake [.ref m, .int (nI p), .int (nI v), .int 1, .int g1, .int g2] X (fun r X' => r = none ∧ ∃ s' I' J', MAt X' m s' I' J' ∧ MT s' I' J' (trrP pg made R (pg p).1 v) (trrN made R) lat (mdt made dt) (va_up ro v (trrR made R)) v ∧ mSn I J I' J' ∧ mK [1, 2, 3, 4, 5, 6, 7, 8, 9, 10] I J I' J' ∧ sK [10] s s' ∧ qSame X X' m (m + 30)) (fun _ _ => False) := by
  refine q_of (by decide +kernel) (Nat.le_of_ble_eq_true rfl) ?_
  refine v_L (L' := [(0, .ref m), (1, .int (nI p)), (2, .int (nI v)), (3, .int 1), (4, .int g1), (5, .int g2)]) rfl ?_
  refine c_M_remake_f B h hT hRw hR20 (by omega) p v hp (by omega) 1 g1 g2 (fun X2 s2 I2 J2 h2 hT2 hRw2 hsn2 hk2 hs2 hf2 => ?_)
  obtain ⟨b0, -⟩ := id h2
  have hth : thalf R.length ≤ R.length := thalf_le R.length
  refine v_iload_n i_M_remake_141 rfl ?_
  refine v_if_eq (tgt := 215) i_M_remake_142 rfl (fun q142 => ?_) (fun q142 => ?_)
  · exact absurd q142 (by decide)
  refine v_aload_n i_M_remake_145 rfl ?_
  refine v_get B i_M_remake_146 (by first | assumption | exact qset_self _ _ _ | (rw [qset_ne _ _ (by omega)]; first | assumption | exact qset_self _ _ _ | (rw [qset_ne _ _ (by omega)]; first | assumption | exact qset_self _ _ _ | (rw [qset_ne _ _ (by omega)]; first | assumption | exact qset_self _ _ _ | (rw [qset_ne _ _ (by omega)]; first | assumption | exact qset_self _ _ _ | (rw [qset_ne _ _ (by omega)]; first | assumption | exact qset_self _ _ _ | (rw [qset_ne _ _ (by omega)]; first | assumption | exact qset_self _ _ _))))))) rfl ?_
  refine v_iload_n i_M_remake_149 rfl ?_
  refine v_iload i_M_remake_150 rfl ?_
  refine v_mist B h2 (a := 10) (N := 5000) (j := v) rfl rfl (by decide) (by decide) (rfl) (by omega) (by omega) i_M_remake_152 (fun X3 h3 f3 => ?_)
  have hT3 := hT2.root (v := v) (x := made) (Nat.le_refl _) (by omega)
  have hk3 : mK [1, 2, 3, 4, 5, 6, 7, 8, 9, 10] I J (mIu I2 10 v (nI made)) J2 := (hk2.mono (by decide)).int (by decide)
  have hsn3 : mSn I J (mIu I2 10 v (nI made)) J2 := hsn2.trans (mSn.keep ((mK.rf [10] I2 J2).int (by decide)) (by decide))
  have hRw3 := hRw2.keep (S := []) ((mK.rf [10] I2 J2).int (a := 10) (j := v) (x := nI made) (by decide)) (sK.rf _ _) (by decide)
  generalize mIu I2 10 v (nI made) = I3 at h3 hT3 hk3 hsn3 hRw3
  refine v_iload i_M_remake_153 rfl ?_
  refine v_if_lt (tgt := 214) i_M_remake_155 rfl (fun q155 => ?_) (fun q155 => ?_)
  · have hnl : ¬ thalf R.length < R.length := fun q => by
      rw [mb8, if_pos q] at q155
      exact nI_pos (by omega) q155
    refine v_vret i_M_remake_214 rfl (by decide) (by decide) ⟨rfl, s2, I3, J2, h3, ?_, hsn3, hk3, hs2, hf2.trans f3⟩
    rw [trrP, trrN, trrR, if_neg hnl, if_neg hnl, if_neg hnl]
    rw [tmkN, if_neg hnl] at hT3
    exact hT3
  have hlt : thalf R.length < R.length := Classical.byContradiction fun q => by
    rw [mb8, if_neg q] at q155
    exact q155 (by decide)
  rw [tmkN, if_pos hlt] at hT3
  rw [show mb8 made R = nI (made + 1) by rw [mb8, if_pos hlt]]
  obtain ⟨u1, u2, u3, u4, u5, u6⟩ := id hT3
  have hpe : (tmkP pg made R (pg p).1 v) p = pg p := by
    rw [tmkP, if_pos hlt, va_up_ne _ _ (by omega), va_up_ne _ _ (by omega)]
  have e1 : I3 1 p = nI (pg p).1 := by
    have := (u4 p (by omega)).2.1
    rw [hpe] at this
    exact this
  obtain ⟨r1, r2, r3⟩ := id hRw3
  obtain ⟨k1, -⟩ := r3 0 (by omega)
  obtain ⟨k2, -⟩ := r3 (thalf R.length) hlt
  obtain ⟨c0, -⟩ := id h3
  have c1 : X3.1 (m + 1) = some (.inl (0, 512, .inl (I3 1))) := h3.2 1 (by decide) (by decide)
  refine v_aload_n i_M_remake_158 rfl ?_
  refine v_aload_n i_M_remake_159 rfl ?_
  refine v_get B i_M_remake_160 (by first | assumption | exact qset_self _ _ _ | (rw [qset_ne _ _ (by omega)]; first | assumption | exact qset_self _ _ _ | (rw [qset_ne _ _ (by omega)]; first | assumption | exact qset_self _ _ _ | (rw [qset_ne _ _ (by omega)]; first | assumption | exact qset_self _ _ _ | (rw [qset_ne _ _ (by omega)]; first | assumption | exact qset_self _ _ _ | (rw [qset_ne _ _ (by omega)]; first | assumption | exact qset_self _ _ _ | (rw [qset_ne _ _ (by omega)]; first | assumption | exact qset_self _ _ _))))))) rfl ?_
  refine v_iload_n i_M_remake_163 rfl ?_
  refine v_iald B (by first | assumption | exact qset_self _ _ _ | (rw [qset_ne _ _ (by omega)]; first | assumption | exact qset_self _ _ _ | (rw [qset_ne _ _ (by omega)]; first | assumption | exact qset_self _ _ _ | (rw [qset_ne _ _ (by omega)]; first | assumption | exact qset_self _ _ _ | (rw [qset_ne _ _ (by omega)]; first | assumption | exact qset_self _ _ _ | (rw [qset_ne _ _ (by omega)]; first | assumption | exact qset_self _ _ _ | (rw [qset_ne _ _ (by omega)]; first | assumption | exact qset_self _ _ _))))))) rfl (by omega) (by omega) i_M_remake_164 ?_
  refine v_iconst (v := 1) i_M_remake_165 rfl ?_
  refine v_iadd i_M_remake_166 ?_
  rw [e1, nI_1]
  refine v_iload_n i_M_remake_167 rfl ?_
  refine v_inv B i_M_remake_168 kn_m_M_newPage (c_M_newPage B h3 hT3 (by omega) ((pg p).1 + 1) v (by omega) (by omega)) c0 rfl rfl (Nat.le_of_ble_eq_true rfl) ⟨by decide, by decide, by first | decide | (simp; omega), by first | decide | (simp; omega)⟩ rfl (fun r X' hq => ?_) (fun _ _ h => False.elim h)
  obtain ⟨rfl, s4, I4, h4, hT4, hsn4, hk4, hs4, hf4⟩ := hq
  have hRw4 := hRw3.keep hk4 hs4 (by decide)
  generalize X' = X4 at h4 hf4 ⊢
  obtain ⟨d0, -⟩ := id h4
  have d21 : X4.1 (m + 21) = some (.inl (0, 40, .inl (I4 21))) := h4.2 21 (by decide) (by decide)
  obtain ⟨-, -, r4⟩ := id hRw4
  obtain ⟨k1, -⟩ := r4 0 (by omega)
  refine v_istore i_M_remake_171 (by decide) rfl ?_
  refine v_aload_n i_M_remake_173 rfl ?_
  refine v_iload i_M_remake_174 rfl ?_
  refine v_aload_n i_M_remake_176 rfl ?_
  refine v_get B i_M_remake_177 (by first | assumption | exact qset_self _ _ _ | (rw [qset_ne _ _ (by omega)]; first | assumption | exact qset_self _ _ _ | (rw [qset_ne _ _ (by omega)]; first | assumption | exact qset_self _ _ _ | (rw [qset_ne _ _ (by omega)]; first | assumption | exact qset_self _ _ _ | (rw [qset_ne _ _ (by omega)]; first | assumption | exact qset_self _ _ _ | (rw [qset_ne _ _ (by omega)]; first | assumption | exact qset_self _ _ _ | (rw [qset_ne _ _ (by omega)]; first | assumption | exact qset_self _ _ _))))))) rfl ?_
  refine v_iconst (v := 0) i_M_remake_180 rfl ?_
  refine v_iald (j := 0) B d21 rfl (by omega) (by omega) i_M_remake_181 ?_
  rw [k1]
  refine v_iload i_M_remake_182 rfl ?_
  refine v_i2l i_M_remake_184 ?_
  refine v_iload_n i_M_remake_185 rfl ?_
  refine v_inv B i_M_remake_186 kn_m_M_append (c_M_append B h4 hT4 (made + 2) (by omega) (by rw [va_up_self]; exact Nat.le_of_ble_eq_true rfl) (rk R 0) (nI made).toInt64 v (by omega)) d0 rfl rfl (Nat.le_of_ble_eq_true rfl) ⟨by decide, by decide, by first | decide | (simp; omega), by first | decide | (simp; omega)⟩ rfl (fun r X' hq => ?_) (fun _ _ h => False.elim h)
  obtain ⟨rfl, I5, J5, h5, hT5, hsn5, hk5, hf5⟩ := hq
  rw [va_up2, va_up_self] at hT5
  have hRw5 := hRw4.keep (S := []) hk5 (sK.rf _ _) (by decide)
  generalize X' = X5 at h5 hf5 ⊢
  obtain ⟨x0, -⟩ := id h5
  have x21 : X5.1 (m + 21) = some (.inl (0, 40, .inl (I5 21))) := h5.2 21 (by decide) (by decide)
  obtain ⟨-, -, r5⟩ := id hRw5
  obtain ⟨k2, -⟩ := r5 (thalf R.length) hlt
  refine v_aload_n i_M_remake_189 rfl ?_
  refine v_iload i_M_remake_190 rfl ?_
  refine v_aload_n i_M_remake_192 rfl ?_
  refine v_get B i_M_remake_193 (by first | assumption | exact qset_self _ _ _ | (rw [qset_ne _ _ (by omega)]; first | assumption | exact qset_self _ _ _ | (rw [qset_ne _ _ (by omega)]; first | assumption | exact qset_self _ _ _ | (rw [qset_ne _ _ (by omega)]; first | assumption | exact qset_self _ _ _ | (rw [qset_ne _ _ (by omega)]; first | assumption | exact qset_self _ _ _ | (rw [qset_ne _ _ (by omega)]; first | assumption | exact qset_self _ _ _ | (rw [qset_ne _ _ (by omega)]; first | assumption | exact qset_self _ _ _))))))) rfl ?_
  refine v_iload i_M_remake_196 rfl ?_
  refine v_iald (j := thalf R.length) B x21 rfl (by omega) (by omega) i_M_remake_198 ?_
  rw [k2]
  refine v_iload i_M_remake_199 rfl ?_
  refine v_i2l i_M_remake_201 ?_
  refine v_iload_n i_M_remake_202 rfl ?_
  refine v_inv B i_M_remake_203 kn_m_M_append (c_M_append B h5 hT5 (made + 2) (by omega) (by rw [va_up_self]; exact Nat.le_of_ble_eq_true rfl) (rk R (thalf R.length)) (nI (made + 1)).toInt64 v (by omega)) x0 rfl rfl (Nat.le_of_ble_eq_true rfl) ⟨by decide, by decide, by first | decide | (simp; omega), by first | decide | (simp; omega)⟩ rfl (fun r X' hq => ?_) (fun _ _ h => False.elim h)
  obtain ⟨rfl, I6, J6, h6, hT6, hsn6, hk6, hf6⟩ := hq
  rw [va_up2, va_up_self] at hT6
  generalize X' = X6 at h6 hf6 ⊢
  obtain ⟨y0, -⟩ := id h6
  refine v_aload_n i_M_remake_206 rfl ?_
  refine v_get B i_M_remake_207 (by first | assumption | exact qset_self _ _ _ | (rw [qset_ne _ _ (by omega)]; first | assumption | exact qset_self _ _ _ | (rw [qset_ne _ _ (by omega)]; first | assumption | exact qset_self _ _ _ | (rw [qset_ne _ _ (by omega)]; first | assumption | exact qset_self _ _ _ | (rw [qset_ne _ _ (by omega)]; first | assumption | exact qset_self _ _ _ | (rw [qset_ne _ _ (by omega)]; first | assumption | exact qset_self _ _ _ | (rw [qset_ne _ _ (by omega)]; first | assumption | exact qset_self _ _ _))))))) rfl ?_
  refine v_iload_n i_M_remake_210 rfl ?_
  refine v_iload i_M_remake_211 rfl ?_
  refine v_mist B h6 (a := 10) (N := 5000) (j := v) rfl rfl (by decide) (by decide) (rfl) (by omega) (by omega) i_M_remake_213 (fun X7 h7 f7 => ?_)
  have hT7 := hT6.root (v := v) (x := made + 2) (Nat.le_refl _) (by omega)
  refine v_vret i_M_remake_214 rfl (by decide) (by decide) ⟨rfl, s4, _, J6, h7, ?_, (((hsn3.trans hsn4).trans hsn5).trans hsn6).trans (mSn.keep ((mK.rf [10] I6 J6).int (by decide)) (by decide)), ((((hk3.trans (hk4.mono (by decide))).trans (hk5.mono (by decide))).trans (hk6.mono (by decide)))).int (by decide), hs2.trans hs4, ((((hf2.trans f3).trans hf4).trans hf5).trans hf6).trans f7⟩
  rw [trrP, trrN, trrR, if_pos hlt, if_pos hlt, if_pos hlt, tmkC_two made R (pg p).1 v hlt hsrt hR20]
  rw [va_up2] at hT7
  refine hT7.dts (fun q hq => ?_)
  unfold mdt va_up
  by_cases hqm : q = made + 2
  · rw [if_pos hqm, if_pos (by omega)]
  · rw [if_neg hqm]
set_option maxHeartbeats 2000000 in
theorem c_M_remakeB (B : qB l s0 C) (h : MAt X m s I J) {v : Nat} (hT : MT s I J pg made lat dt ro v) {R : qRw} (hRw : mRw s I J R) (hR0 : 0 < R.length) (hR20 : R.length ≤ 20) (hsrt : rsrt R) (hm : made + 2 ≤ 256) (p : Nat) (hp : p < made) (hv : v < 4001) (q i : Nat) (o2 : Option Nat) (hq0 : q < made) (hi : i < (pg q).2.2.2.length) (ho2 : oLt o2 (pg q).2.2.2.length) :
    qMet l s0 C m_M_remake rm_M_remake [.ref m, .int (nI p), .int (nI v), .int 0, .int (vA q (some i)), .int (vA q o2)] X (fun r X' => r = none ∧ ∃ s' I' J', MAt X' m s' I' J' ∧ MT s' I' J' (tmkP pg made R (pg p).1 v) (tmkN made R) lat (mdt made dt) ro v ∧ s' 28 = vA q (some i) ∧ s' 29 = vA q o2 ∧
      mCo s' I' J' (rlow (tmkC made R (pg p).1 v) (mkey (pg q).2.2.2 i o2)) ∧ mSn I J I' J' ∧ mK [1, 2, 3, 4, 5, 6, 7, 8, 9, 19, 20] I J I' J' ∧ sK [10, 28, 29, 30] s s' ∧ qSame X X' m (m + 30)) (fun _ _ => False) := by
  refine q_of (by decide +kernel) (Nat.le_of_ble_eq_true rfl) ?_
  refine v_L (L' := [(0, .ref m), (1, .int (nI p)), (2, .int (nI v)), (3, .int 0), (4, .int (vA q (some i))), (5, .int (vA q o2))]) rfl ?_
  refine c_M_remake_f B h hT hRw hR20 (by omega) p v hp (by omega) 0 (vA q (some i)) (vA q o2) (fun X2 s2 I2 J2 h2 hT2 hRw2 hsn2 hk2 hs2 hf2 => ?_)
  obtain ⟨b0, -⟩ := id h2
  have hpe : (tmkP pg made R (pg p).1 v) q = pg q := by
    unfold tmkP
    split
    · rw [va_up_ne _ _ (by omega), va_up_ne _ _ (by omega)]
    · rw [va_up_ne _ _ (by omega)]
  have hmn : made < tmkN made R := by unfold tmkN; split <;> omega
  obtain ⟨u1, u2, u3, u4, u5, u6⟩ := id hT2
  have hQ : mPg I2 J2 q (pg q) := by
    have := u4 q (by omega)
    rw [hpe] at this
    exact this
  obtain ⟨⟨ok1, ok2, ok3, ok4, ok5⟩, -, -, -, -, kk⟩ := id hQ
  obtain ⟨ki, -⟩ := kk i hi
  refine v_iload_n i_M_remake_141 rfl ?_
  refine v_if_eq (tgt := 215) i_M_remake_142 rfl (fun q142 => ?_) (fun q142 => ?_)
  rotate_left
  · exact absurd rfl q142
  refine v_aload_n i_M_remake_215 rfl ?_
  refine v_iload i_M_remake_216 rfl ?_
  refine v_mput B h2 (j := 28) i_M_remake_218 (Nat.le_of_ble_eq_true rfl) rfl rfl rfl (fun X3 h3 f3 => ?_)
  obtain ⟨c0, -⟩ := id h3
  refine v_aload_n i_M_remake_221 rfl ?_
  refine v_iload i_M_remake_222 rfl ?_
  refine v_mput B h3 (j := 29) i_M_remake_224 (Nat.le_of_ble_eq_true rfl) rfl rfl rfl (fun X4 h4 f4 => ?_)
  obtain ⟨h0, a1, a2, a3, a4, a5, a6, a7, a8, a9, a10, a11, a12, a13, a14, a15, a16, a17, a18, a19, a20, a21, a22, a23, a24, a25, a26, a27, a28, a29⟩ := h4.all
  have hs4 : sK [10, 28, 29, 30] s (upd (upd s2 28 (vA q (some i))) 29 (vA q o2)) := ((hs2.mono (by decide)).set (by decide)).set (by decide)
  have hRw4 := hRw2.keep (A := []) (mK.rf _ _ _) (((sK.rf [28, 29] s2).set (j := 28) (x := vA q (some i)) (by decide)).set (j := 29) (x := vA q o2) (by decide)) (by decide)
  have hT4 := hT2.keep (A := []) (mK.rf _ _ _) (((sK.rf [28, 29] s2).set (j := 28) (x := vA q (some i)) (by decide)).set (j := 29) (x := vA q o2) (by decide)) (by decide) (by decide)
  have e28 : (upd (upd s2 28 (vA q (some i))) 29 (vA q o2)) 28 = vA q (some i) := by rw [pk_un (by decide), pk_us]
  have e29 : (upd (upd s2 28 (vA q (some i))) 29 (vA q o2)) 29 = vA q o2 := pk_us
  generalize (upd (upd s2 28 (vA q (some i))) 29 (vA q o2)) = s4 at h4 hs4 hRw4 hT4 e28 e29 h0
  obtain ⟨r1, r2, r3⟩ := id hRw4
  obtain ⟨kl0, -⟩ := r3 0 hR0
  -- the key that the first one comes with
  have hbound : 16 * q + i < 8192 := by omega
  have last : ∀ (c : Int32), c = (mkey (pg q).2.2.2 i o2) →
      qV l s0 C m_M_remake rm_M_remake (fun r X' => r = none ∧ ∃ s' I' J', MAt X' m s' I' J' ∧ MT s' I' J' (tmkP pg made R (pg p).1 v) (tmkN made R) lat (mdt made dt) ro v ∧ s' 28 = vA q (some i) ∧ s' 29 = vA q o2 ∧
      mCo s' I' J' (rlow (tmkC made R (pg p).1 v) (mkey (pg q).2.2.2 i o2)) ∧ mSn I J I' J' ∧ mK [1, 2, 3, 4, 5, 6, 7, 8, 9, 19, 20] I J I' J' ∧ sK [10, 28, 29, 30] s s' ∧ qSame X X' m (m + 30)) (fun _ _ => False) 0 0 X4 271 [(0, .ref m), (1, .int (nI p)), (2, .int (nI v)), (3, .int 0), (4, .int (vA q (some i))), (5, .int (vA q o2)), (6, .int (nI made)), (7, .int (nI (thalf R.length))), (8, .int (mb8 made R))] [.int c, .int 0, .ref (m + 19)] := by
    intro c hc
    rw [← hc]
    refine v_mist B h4 (a := 19) (N := 2) (j := 0) rfl rfl (by decide) (by decide) (rfl) (by omega) (by omega) i_M_remake_271 (fun X5 h5 f5 => ?_)
    obtain ⟨d0, -⟩ := id h5
    have d19 : X5.1 (m + 19) = some (.inl (0, 2, .inl (upd (I2 19) 0 c))) := by
      have := h5.2 19 (by decide) (by decide)
      rw [mcell, mIu_self] at this
      exact this
    have d21 : X5.1 (m + 21) = some (.inl (0, 40, .inl (I2 21))) := h5.2 21 (by decide) (by decide)
    have fin : ∀ (x : Int32), x = (if c < rk R 0 then c else rk R 0) → qV l s0 C m_M_remake rm_M_remake (fun r X' => r = none ∧ ∃ s' I' J', MAt X' m s' I' J' ∧ MT s' I' J' (tmkP pg made R (pg p).1 v) (tmkN made R) lat (mdt made dt) ro v ∧ s' 28 = vA q (some i) ∧ s' 29 = vA q o2 ∧
      mCo s' I' J' (rlow (tmkC made R (pg p).1 v) c) ∧ mSn I J I' J' ∧ mK [1, 2, 3, 4, 5, 6, 7, 8, 9, 19, 20] I J I' J' ∧ sK [10, 28, 29, 30] s s' ∧ qSame X X' m (m + 30)) (fun _ _ => False) 0 0 X5 307 [(0, .ref m), (1, .int (nI p)), (2, .int (nI v)), (3, .int 0), (4, .int (vA q (some i))), (5, .int (vA q o2)), (6, .int (nI made)), (7, .int (nI (thalf R.length))), (8, .int (mb8 made R))] [.int x, .int 0, .ref (m + 19)] := by
      intro x hx
      refine v_mist B h5 (a := 19) (N := 2) (j := 0) rfl rfl (by decide) (by decide) (rfl) (by omega) (by omega) i_M_remake_307 (fun X6 h6 f6 => ?_)
      obtain ⟨g0, -⟩ := id h6
      refine v_aload_n i_M_remake_308 rfl ?_
      refine v_get B i_M_remake_309 (by first | assumption | exact qset_self _ _ _ | (rw [qset_ne _ _ (by omega)]; first | assumption | exact qset_self _ _ _ | (rw [qset_ne _ _ (by omega)]; first | assumption | exact qset_self _ _ _ | (rw [qset_ne _ _ (by omega)]; first | assumption | exact qset_self _ _ _ | (rw [qset_ne _ _ (by omega)]; first | assumption | exact qset_self _ _ _ | (rw [qset_ne _ _ (by omega)]; first | assumption | exact qset_self _ _ _ | (rw [qset_ne _ _ (by omega)]; first | assumption | exact qset_self _ _ _))))))) rfl ?_
      refine v_iconst (v := 0) i_M_remake_312 rfl ?_
      refine v_iload i_M_remake_313 rfl ?_
      refine v_i2l i_M_remake_315 ?_
      refine v_mlst B h6 (a := 20) (N := 2) (j := 0) rfl rfl (by decide) (by decide) (rfl) (by omega) (by omega) i_M_remake_316 (fun X7 h7 f7 => ?_)
      obtain ⟨g0, -⟩ := id h7
      refine v_aload_n i_M_remake_317 rfl ?_
      refine v_iconst (v := 1) i_M_remake_318 rfl ?_
      refine v_mput B h7 (j := 30) i_M_remake_319 (Nat.le_of_ble_eq_true rfl) rfl rfl rfl (fun X8 h8 f8 => ?_)
      have hk8 : mK [19, 20] I2 J2 (mIu (mIu I2 19 0 c) 19 0 x) (mJu J2 20 0 (nI made).toInt64) := (((mK.rf _ _ _).int (by decide)).int (by decide)).long (by decide)
      have e19 : (mIu (mIu I2 19 0 c) 19 0 x) 19 0 = x := by rw [mIu_self, pk_us]
      have e20 : (mJu J2 20 0 (nI made).toInt64) 20 0 = (nI made).toInt64 := by rw [mJu_self, pk_uLs]
      generalize mIu (mIu I2 19 0 c) 19 0 x = I8 at h8 hk8 e19
      generalize mJu J2 20 0 (nI made).toInt64 = J8 at h8 hk8 e20
      have hRw8 := hRw4.keep (s' := upd s4 30 1) hk8 ((sK.rf [30] s4).set (by decide)) (by decide)
      have hT8 := hT4.keep (s' := upd s4 30 1) hk8 ((sK.rf [30] s4).set (by decide)) (by decide) (by decide)
      have hs8 : sK [10, 28, 29, 30] s (upd s4 30 1) := hs4.set (by decide)
      have E28 : upd s4 30 1 28 = vA q (some i) := by rw [pk_un (by decide)]; exact e28
      have E29 : upd s4 30 1 29 = vA q o2 := by rw [pk_un (by decide)]; exact e29
      have E30 : upd s4 30 1 30 = 1 := pk_us
      generalize upd s4 30 1 = s8 at h8 hRw8 hT8 hs8 E28 E29 E30
      refine v_iload i_M_remake_322 rfl ?_
      refine v_if_lt (tgt := 354) i_M_remake_324 rfl (fun q324 => ?_) (fun q324 => ?_)
      · have hnl : ¬ thalf R.length < R.length := fun q => by
          rw [mb8, if_pos q] at q324
          exact nI_pos (by omega) q324
        refine v_vret i_M_remake_354 rfl (by decide) (by decide) ⟨rfl, s8, I8, J8, h8, hT8, E28, E29, ?_, hsn2.trans (mSn.keep hk8 (by decide)), (hk2.mono (by decide)).trans (hk8.mono (by decide)), hs8, (((((hf2.trans f3).trans f4).trans f5).trans f6).trans f7).trans f8⟩
        rw [tmkC_one made R (pg p).1 v hnl hR0]
        refine ⟨E30, by show 1 ≤ 2; omega, fun j hj => ?_⟩
        have hj0 : j = 0 := by have : j < 1 := hj; omega
        subst hj0
        rw [e19, e20, hx]
        exact ⟨rfl, rfl⟩
      have hlt : thalf R.length < R.length := Classical.byContradiction fun q => by
        rw [mb8, if_neg q] at q324
        exact q324 (by decide)
      rw [show mb8 made R = nI (made + 1) by rw [mb8, if_pos hlt]]
      obtain ⟨-, -, r8⟩ := id hRw8
      obtain ⟨kh, -⟩ := r8 (thalf R.length) hlt
      obtain ⟨g0, -⟩ := id h8
      have g21 : X8.1 (m + 21) = some (.inl (0, 40, .inl (I8 21))) := h8.2 21 (by decide) (by decide)
      refine v_aload_n i_M_remake_327 rfl ?_
      refine v_get B i_M_remake_328 (by first | assumption | exact qset_self _ _ _ | (rw [qset_ne _ _ (by omega)]; first | assumption | exact qset_self _ _ _ | (rw [qset_ne _ _ (by omega)]; first | assumption | exact qset_self _ _ _ | (rw [qset_ne _ _ (by omega)]; first | assumption | exact qset_self _ _ _ | (rw [qset_ne _ _ (by omega)]; first | assumption | exact qset_self _ _ _ | (rw [qset_ne _ _ (by omega)]; first | assumption | exact qset_self _ _ _ | (rw [qset_ne _ _ (by omega)]; first | assumption | exact qset_self _ _ _))))))) rfl ?_
      refine v_iconst (v := 1) i_M_remake_331 rfl ?_
      refine v_aload_n i_M_remake_332 rfl ?_
      refine v_get B i_M_remake_333 (by first | assumption | exact qset_self _ _ _ | (rw [qset_ne _ _ (by omega)]; first | assumption | exact qset_self _ _ _ | (rw [qset_ne _ _ (by omega)]; first | assumption | exact qset_self _ _ _ | (rw [qset_ne _ _ (by omega)]; first | assumption | exact qset_self _ _ _ | (rw [qset_ne _ _ (by omega)]; first | assumption | exact qset_self _ _ _ | (rw [qset_ne _ _ (by omega)]; first | assumption | exact qset_self _ _ _ | (rw [qset_ne _ _ (by omega)]; first | assumption | exact qset_self _ _ _))))))) rfl ?_
      refine v_iload i_M_remake_336 rfl ?_
      refine v_iald (j := thalf R.length) B g21 rfl (by omega) (by omega) i_M_remake_338 ?_
      rw [kh]
      refine v_mist B h8 (a := 19) (N := 2) (j := 1) rfl rfl (by decide) (by decide) (rfl) (by omega) (by omega) i_M_remake_339 (fun X9 h9 f9 => ?_)
      obtain ⟨g0, -⟩ := id h9
      refine v_aload_n i_M_remake_340 rfl ?_
      refine v_get B i_M_remake_341 (by first | assumption | exact qset_self _ _ _ | (rw [qset_ne _ _ (by omega)]; first | assumption | exact qset_self _ _ _ | (rw [qset_ne _ _ (by omega)]; first | assumption | exact qset_self _ _ _ | (rw [qset_ne _ _ (by omega)]; first | assumption | exact qset_self _ _ _ | (rw [qset_ne _ _ (by omega)]; first | assumption | exact qset_self _ _ _ | (rw [qset_ne _ _ (by omega)]; first | assumption | exact qset_self _ _ _ | (rw [qset_ne _ _ (by omega)]; first | assumption | exact qset_self _ _ _))))))) rfl ?_
      refine v_iconst (v := 1) i_M_remake_344 rfl ?_
      refine v_iload i_M_remake_345 rfl ?_
      refine v_i2l i_M_remake_347 ?_
      refine v_mlst B h9 (a := 20) (N := 2) (j := 1) rfl rfl (by decide) (by decide) (rfl) (by omega) (by omega) i_M_remake_348 (fun X10 h10 f10 => ?_)
      obtain ⟨g0, -⟩ := id h10
      refine v_aload_n i_M_remake_349 rfl ?_
      refine v_iconst (v := 2) i_M_remake_350 rfl ?_
      refine v_mput B h10 (j := 30) i_M_remake_351 (Nat.le_of_ble_eq_true rfl) rfl rfl rfl (fun X11 h11 f11 => ?_)
      have hk11 : mK [19, 20] I8 J8 (mIu I8 19 1 (rk R (thalf R.length))) (mJu J8 20 1 (nI (made + 1)).toInt64) := ((mK.rf _ _ _).int (by decide)).long (by decide)
      have hT11 := hT8.keep (s' := upd s8 30 2) hk11 ((sK.rf [30] s8).set (by decide)) (by decide) (by decide)
      refine v_vret i_M_remake_354 rfl (by decide) (by decide) ⟨rfl, _, _, _, h11, hT11, by rw [pk_un (by decide)]; exact E28, by rw [pk_un (by decide)]; exact E29, ?_, (hsn2.trans (mSn.keep hk8 (by decide))).trans (mSn.keep hk11 (by decide)), ((hk2.mono (by decide)).trans (hk8.mono (by decide))).trans (hk11.mono (by decide)), hs8.set (by decide), ((((((((hf2.trans f3).trans f4).trans f5).trans f6).trans f7).trans f8).trans f9).trans f10).trans f11⟩
      rw [tmkC_two made R (pg p).1 v hlt hsrt hR20]
      refine ⟨pk_us, by show 2 ≤ 2; omega, fun j hj => ?_⟩
      have hj2 : j = 0 ∨ j = 1 := by have : j < 2 := hj; omega
      rcases hj2 with rfl | rfl
      · rw [mIu_self, mJu_self, pk_un (by decide), pk_uLn (by decide), e19, e20, hx]
        exact ⟨rfl, rfl⟩
      · rw [mIu_self, mJu_self, pk_us, pk_uLs]
        exact ⟨rfl, rfl⟩
    refine v_aload_n i_M_remake_272 rfl ?_
    refine v_get B i_M_remake_273 (by first | assumption | exact qset_self _ _ _ | (rw [qset_ne _ _ (by omega)]; first | assumption | exact qset_self _ _ _ | (rw [qset_ne _ _ (by omega)]; first | assumption | exact qset_self _ _ _ | (rw [qset_ne _ _ (by omega)]; first | assumption | exact qset_self _ _ _ | (rw [qset_ne _ _ (by omega)]; first | assumption | exact qset_self _ _ _ | (rw [qset_ne _ _ (by omega)]; first | assumption | exact qset_self _ _ _ | (rw [qset_ne _ _ (by omega)]; first | assumption | exact qset_self _ _ _))))))) rfl ?_
    refine v_iconst (v := 0) i_M_remake_276 rfl ?_
    refine v_aload_n i_M_remake_277 rfl ?_
    refine v_get B i_M_remake_278 (by first | assumption | exact qset_self _ _ _ | (rw [qset_ne _ _ (by omega)]; first | assumption | exact qset_self _ _ _ | (rw [qset_ne _ _ (by omega)]; first | assumption | exact qset_self _ _ _ | (rw [qset_ne _ _ (by omega)]; first | assumption | exact qset_self _ _ _ | (rw [qset_ne _ _ (by omega)]; first | assumption | exact qset_self _ _ _ | (rw [qset_ne _ _ (by omega)]; first | assumption | exact qset_self _ _ _ | (rw [qset_ne _ _ (by omega)]; first | assumption | exact qset_self _ _ _))))))) rfl ?_
    refine v_iconst (v := 0) i_M_remake_281 rfl ?_
    refine v_iald (j := 0) B d21 rfl (by omega) (by omega) i_M_remake_282 ?_
    rw [kl0]
    refine v_aload_n i_M_remake_283 rfl ?_
    refine v_get B i_M_remake_284 (by first | assumption | exact qset_self _ _ _ | (rw [qset_ne _ _ (by omega)]; first | assumption | exact qset_self _ _ _ | (rw [qset_ne _ _ (by omega)]; first | assumption | exact qset_self _ _ _ | (rw [qset_ne _ _ (by omega)]; first | assumption | exact qset_self _ _ _ | (rw [qset_ne _ _ (by omega)]; first | assumption | exact qset_self _ _ _ | (rw [qset_ne _ _ (by omega)]; first | assumption | exact qset_self _ _ _ | (rw [qset_ne _ _ (by omega)]; first | assumption | exact qset_self _ _ _))))))) rfl ?_
    refine v_iconst (v := 0) i_M_remake_287 rfl ?_
    refine v_iald (j := 0) B d19 rfl (by omega) (by omega) i_M_remake_288 ?_
    rw [pk_us]
    refine v_icmp_ge (tgt := 301) i_M_remake_289 rfl (fun q289 => ?_) (fun q289 => ?_)
    · refine v_aload_n i_M_remake_301 rfl ?_
      refine v_get B i_M_remake_302 (by first | assumption | exact qset_self _ _ _ | (rw [qset_ne _ _ (by omega)]; first | assumption | exact qset_self _ _ _ | (rw [qset_ne _ _ (by omega)]; first | assumption | exact qset_self _ _ _ | (rw [qset_ne _ _ (by omega)]; first | assumption | exact qset_self _ _ _ | (rw [qset_ne _ _ (by omega)]; first | assumption | exact qset_self _ _ _ | (rw [qset_ne _ _ (by omega)]; first | assumption | exact qset_self _ _ _ | (rw [qset_ne _ _ (by omega)]; first | assumption | exact qset_self _ _ _))))))) rfl ?_
      refine v_iconst (v := 0) i_M_remake_305 rfl ?_
      refine v_iald (j := 0) B d19 rfl (by omega) (by omega) i_M_remake_306 ?_
      rw [pk_us]
      refine fin c ?_
      by_cases hlt : c < rk R 0
      · rw [if_pos hlt]
      · rw [if_neg hlt]
        have h1 := Int32.le_iff_toInt_le.mp q289
        have h2 := Int.not_lt.mp (fun q => hlt (Int32.lt_iff_toInt_lt.mpr q))
        exact Int32.toInt_inj.mp (by omega)
    · refine v_aload_n i_M_remake_292 rfl ?_
      refine v_get B i_M_remake_293 (by first | assumption | exact qset_self _ _ _ | (rw [qset_ne _ _ (by omega)]; first | assumption | exact qset_self _ _ _ | (rw [qset_ne _ _ (by omega)]; first | assumption | exact qset_self _ _ _ | (rw [qset_ne _ _ (by omega)]; first | assumption | exact qset_self _ _ _ | (rw [qset_ne _ _ (by omega)]; first | assumption | exact qset_self _ _ _ | (rw [qset_ne _ _ (by omega)]; first | assumption | exact qset_self _ _ _ | (rw [qset_ne _ _ (by omega)]; first | assumption | exact qset_self _ _ _))))))) rfl ?_
      refine v_iconst (v := 0) i_M_remake_296 rfl ?_
      refine v_iald (j := 0) B d21 rfl (by omega) (by omega) i_M_remake_297 ?_
      rw [kl0]
      refine v_goto (tgt := 307) i_M_remake_298 rfl ?_
      refine fin (rk R 0) ?_
      rw [if_neg (fun q => by
        have h1 := Int.not_le.mp (fun z => q289 (Int32.le_iff_toInt_le.mpr z))
        have h2 := Int32.lt_iff_toInt_lt.mp q
        omega)]
  cases o2 with
  | none =>
    refine v_aload_n i_M_remake_227 rfl ?_
    refine v_get B i_M_remake_228 (by first | assumption | exact qset_self _ _ _ | (rw [qset_ne _ _ (by omega)]; first | assumption | exact qset_self _ _ _ | (rw [qset_ne _ _ (by omega)]; first | assumption | exact qset_self _ _ _ | (rw [qset_ne _ _ (by omega)]; first | assumption | exact qset_self _ _ _ | (rw [qset_ne _ _ (by omega)]; first | assumption | exact qset_self _ _ _ | (rw [qset_ne _ _ (by omega)]; first | assumption | exact qset_self _ _ _ | (rw [qset_ne _ _ (by omega)]; first | assumption | exact qset_self _ _ _))))))) rfl ?_
    refine v_iconst (v := 0) i_M_remake_231 rfl ?_
    refine v_iload i_M_remake_232 rfl ?_
    refine v_if_lt (tgt := 264) i_M_remake_234 rfl (fun q234 => ?_) (fun q234 => ?_)
    · refine v_aload_n i_M_remake_264 rfl ?_
      refine v_get B i_M_remake_265 (by first | assumption | exact qset_self _ _ _ | (rw [qset_ne _ _ (by omega)]; first | assumption | exact qset_self _ _ _ | (rw [qset_ne _ _ (by omega)]; first | assumption | exact qset_self _ _ _ | (rw [qset_ne _ _ (by omega)]; first | assumption | exact qset_self _ _ _ | (rw [qset_ne _ _ (by omega)]; first | assumption | exact qset_self _ _ _ | (rw [qset_ne _ _ (by omega)]; first | assumption | exact qset_self _ _ _ | (rw [qset_ne _ _ (by omega)]; first | assumption | exact qset_self _ _ _))))))) rfl ?_
      refine v_iload i_M_remake_268 rfl ?_
      refine v_iald (j := 16 * q + i) B a6 rfl hbound (by omega) i_M_remake_270 ?_
      rw [ki]
      exact last _ rfl
    · exact absurd (show (-1 : Int32) < 0 by decide) q234
  | some j =>
    have hj := ho2 j rfl
    obtain ⟨kj, -⟩ := kk j hj
    have hjb : 16 * q + j < 8192 := by omega
    refine v_aload_n i_M_remake_227 rfl ?_
    refine v_get B i_M_remake_228 (by first | assumption | exact qset_self _ _ _ | (rw [qset_ne _ _ (by omega)]; first | assumption | exact qset_self _ _ _ | (rw [qset_ne _ _ (by omega)]; first | assumption | exact qset_self _ _ _ | (rw [qset_ne _ _ (by omega)]; first | assumption | exact qset_self _ _ _ | (rw [qset_ne _ _ (by omega)]; first | assumption | exact qset_self _ _ _ | (rw [qset_ne _ _ (by omega)]; first | assumption | exact qset_self _ _ _ | (rw [qset_ne _ _ (by omega)]; first | assumption | exact qset_self _ _ _))))))) rfl ?_
    refine v_iconst (v := 0) i_M_remake_231 rfl ?_
    refine v_iload i_M_remake_232 rfl ?_
    refine v_if_lt (tgt := 264) i_M_remake_234 rfl (fun q234 => ?_) (fun q234 => ?_)
    · exact absurd q234 (nI_pos (n := 16 * q + j) (by omega))
    refine v_aload_n i_M_remake_237 rfl ?_
    refine v_get B i_M_remake_238 (by first | assumption | exact qset_self _ _ _ | (rw [qset_ne _ _ (by omega)]; first | assumption | exact qset_self _ _ _ | (rw [qset_ne _ _ (by omega)]; first | assumption | exact qset_self _ _ _ | (rw [qset_ne _ _ (by omega)]; first | assumption | exact qset_self _ _ _ | (rw [qset_ne _ _ (by omega)]; first | assumption | exact qset_self _ _ _ | (rw [qset_ne _ _ (by omega)]; first | assumption | exact qset_self _ _ _ | (rw [qset_ne _ _ (by omega)]; first | assumption | exact qset_self _ _ _))))))) rfl ?_
    refine v_iload i_M_remake_241 rfl ?_
    refine v_iald (j := 16 * q + j) B a6 rfl hjb (by omega) i_M_remake_243 ?_
    refine v_aload_n i_M_remake_244 rfl ?_
    refine v_get B i_M_remake_245 (by first | assumption | exact qset_self _ _ _ | (rw [qset_ne _ _ (by omega)]; first | assumption | exact qset_self _ _ _ | (rw [qset_ne _ _ (by omega)]; first | assumption | exact qset_self _ _ _ | (rw [qset_ne _ _ (by omega)]; first | assumption | exact qset_self _ _ _ | (rw [qset_ne _ _ (by omega)]; first | assumption | exact qset_self _ _ _ | (rw [qset_ne _ _ (by omega)]; first | assumption | exact qset_self _ _ _ | (rw [qset_ne _ _ (by omega)]; first | assumption | exact qset_self _ _ _))))))) rfl ?_
    refine v_iload i_M_remake_248 rfl ?_
    refine v_iald (j := 16 * q + i) B a6 rfl hbound (by omega) i_M_remake_250 ?_
    rw [ki, kj]
    refine v_icmp_ge (tgt := 264) i_M_remake_251 rfl (fun q251 => ?_) (fun q251 => ?_)
    · refine v_aload_n i_M_remake_264 rfl ?_
      refine v_get B i_M_remake_265 (by first | assumption | exact qset_self _ _ _ | (rw [qset_ne _ _ (by omega)]; first | assumption | exact qset_self _ _ _ | (rw [qset_ne _ _ (by omega)]; first | assumption | exact qset_self _ _ _ | (rw [qset_ne _ _ (by omega)]; first | assumption | exact qset_self _ _ _ | (rw [qset_ne _ _ (by omega)]; first | assumption | exact qset_self _ _ _ | (rw [qset_ne _ _ (by omega)]; first | assumption | exact qset_self _ _ _ | (rw [qset_ne _ _ (by omega)]; first | assumption | exact qset_self _ _ _))))))) rfl ?_
      refine v_iload i_M_remake_268 rfl ?_
      refine v_iald (j := 16 * q + i) B a6 rfl hbound (by omega) i_M_remake_270 ?_
      rw [ki]
      refine last _ ?_
      show _ = imin (en (pg q).2.2.2 i).1 (en (pg q).2.2.2 j).1
      rw [imin, if_neg (fun q => by
        have h1 := Int32.le_iff_toInt_le.mp q251
        have h2 := Int32.lt_iff_toInt_lt.mp q
        omega)]
    · refine v_aload_n i_M_remake_254 rfl ?_
      refine v_get B i_M_remake_255 (by first | assumption | exact qset_self _ _ _ | (rw [qset_ne _ _ (by omega)]; first | assumption | exact qset_self _ _ _ | (rw [qset_ne _ _ (by omega)]; first | assumption | exact qset_self _ _ _ | (rw [qset_ne _ _ (by omega)]; first | assumption | exact qset_self _ _ _ | (rw [qset_ne _ _ (by omega)]; first | assumption | exact qset_self _ _ _ | (rw [qset_ne _ _ (by omega)]; first | assumption | exact qset_self _ _ _ | (rw [qset_ne _ _ (by omega)]; first | assumption | exact qset_self _ _ _))))))) rfl ?_
      refine v_iload i_M_remake_258 rfl ?_
      refine v_iald (j := 16 * q + j) B a6 rfl hjb (by omega) i_M_remake_260 ?_
      rw [kj]
      refine v_goto (tgt := 271) i_M_remake_261 rfl ?_
      refine last _ ?_
      show _ = imin (en (pg q).2.2.2 i).1 (en (pg q).2.2.2 j).1
      rw [imin, if_pos (Int32.lt_iff_toInt_lt.mpr (Int.not_le.mp (fun z => q251 (Int32.le_iff_toInt_le.mpr z))))]
end MS
