/-! the reference: a page is changed, as the class changes it -/
/-- what the reference asks beside tchOK -/
def mchOK (pn : Nat → Option Nat) (lat v : Nat) (k : Int32) (lev : Nat) (s : TU) : Prop :=
  tchOK pn lat v lev s ∧ (0 < s.2.2.2.2.2.length ∨ ∃ i, s.2.2.2.1 = some i) ∧
  (¬ tchA pn lat v lev s → ¬ tchB pn lat v lev s → ¬ tps pn lev = s.2.2.1 v →
    (∃ i, trbO1 (tchP1 pn v lev s) (tps pn (lev + 1)) k lat = some i ∧ mentry (s.1 (tps pn (lev + 1))).2.2.2 lat (tps pn lev) (s.1 (tps pn (lev + 1))).2.2.2.length = some i) ∧
    ((tchL pn lat lev s).length < 5 → ∃ j c, trbO2 (tchP1 pn v lev s) (tps pn (lev + 1)) k lat (tchL pn lat lev s) = some j ∧ c < s.2.1 ∧ (en (s.1 (tps pn (lev + 1))).2.2.2 j).2.2.2 = lN c) ∧
    0 < (trbL (tchP1 pn v lev s) s.2.1 (tps pn (lev + 1)) k lat (tchL pn lat lev s)).length)
theorem gneigh_lt {P : Pg} {i : Int32} {v j : Nat} (h : gneigh P i v = some j) : j < P.2.2.2.length := by
  unfold gneigh at h
  cases hg : gnext P i v with
  | none => rw [hg] at h; exact gbel_lt _ _ _ _ _ h
  | some b => rw [hg] at h; cases h; exact gabo_lt _ _ _ _ _ hg
theorem die_ents (pg : Nat → Pg) (p v q : Nat) : (va_up pg p (gdie (pg p) v) q).2.2.2 = (pg q).2.2.2 ∧ (va_up pg p (gdie (pg p) v) q).1 = (pg q).1 := by
  by_cases h : q = p
  · subst h; rw [va_up_self]; exact ⟨rfl, rfl⟩
  · rw [va_up_ne _ _ h]; exact ⟨rfl, rfl⟩
section MD
variable {X X' : qX} {m : Nat} {s : Nat → Int32} {I : Nat → Nat → Int32} {J : Nat → Nat → Int64}
variable {pg : Nat → Pg} {made lat kp v lev : Nat} {ro : Nat → Nat} {pn : Nat → Option Nat} {o1 o2 : Option Nat} {co : qRw} {k : Int32}
variable {l : Launch} {s0 : State} {C : qC}
set_option maxHeartbeats 8000000 in
theorem c_M_change (B : qB l s0 C) (h : MAt X m s I J) (hT : MT s I J pg made lat (fun q => gchg (pg q) kp) ro v) (hv : v = lat + 1) (hkp : kp ≤ lat) (hg1 : s 28 = vA (tps pn lev) o1) (hg2 : s 29 = vA (tps pn lev) o2) (hCo : mCo s I J co) (hpath : ¬ tps pn lev = ro v → I 23 (lev + 1) = nI (tps pn (lev + 1))) (hok : mchOK pn lat v k lev (pg, made, ro, o1, o2, co)) :
    qMet l s0 C m_M_change rm_M_change [.ref m, .int (nI (tps pn lev)), .int (nI v), .int (bI (decide (tps pn lev = ro v)))] X (fun r X' => r = some (.int (bI (tch pn lat v k lev (pg, made, ro, o1, o2, co)).1)) ∧ ∃ s' I' J', MAt X' m s' I' J' ∧ MT s' I' J' (tch pn lat v k lev (pg, made, ro, o1, o2, co)).2.1 (tch pn lat v k lev (pg, made, ro, o1, o2, co)).2.2.1 lat (fun q => gchg ((tch pn lat v k lev (pg, made, ro, o1, o2, co)).2.1 q) kp) (tch pn lat v k lev (pg, made, ro, o1, o2, co)).2.2.2.1 v ∧ ((tch pn lat v k lev (pg, made, ro, o1, o2, co)).1 = true → s' 28 = vA (tps pn (lev + 1)) (tch pn lat v k lev (pg, made, ro, o1, o2, co)).2.2.2.2.1 ∧ s' 29 = vA (tps pn (lev + 1)) (tch pn lat v k lev (pg, made, ro, o1, o2, co)).2.2.2.2.2.1 ∧ mCo s' I' J' (tch pn lat v k lev (pg, made, ro, o1, o2, co)).2.2.2.2.2.2) ∧ mSn I J I' J' ∧ mK [1, 2, 3, 4, 5, 6, 7, 8, 9, 10, 19, 20, 21, 22] I J I' J' ∧ sK [10, 28, 29, 30, 33] s s' ∧ qSame X X' m (m + 30)) (fun _ _ => False) := by
  obtain ⟨⟨hp, hlev, hlv, ho1, ho2, hA, hC, hD⟩, hch, hDD⟩ := hok
  dsimp only at hp hlv ho1 ho2 hch
  obtain ⟨t1, ⟨t2, t2b, t2c, t2d⟩, t3, t4, t5, t6⟩ := id hT
  have hP := t4 (tps pn lev) hp
  obtain ⟨⟨ok1, ok2, ok3, ok4, ok5⟩, -⟩ := id hP
  have ho1' : oLt o1 16 := fun t ht => by have := ho1 t ht; omega
  have ho2' : oLt o2 16 := fun t ht => by have := ho2 t ht; omega
  obtain ⟨h0, -⟩ := id h
  refine q_of (by decide +kernel) (Nat.le_of_ble_eq_true rfl) ?_
  refine v_L (L' := [(0, .ref m), (1, .int (nI (tps pn lev))), (2, .int (nI v)), (3, .int (bI (decide (tps pn lev = ro v))))]) rfl ?_
  refine v_aload_n i_M_change_0 rfl ?_
  refine v_iconst (v := 0) i_M_change_1 rfl ?_
  refine v_mput B h (j := 33) i_M_change_2 (Nat.le_of_ble_eq_true rfl) rfl rfl rfl (fun X1 h1 f1 => ?_)
  have hT1 := hT.keep (A := []) (mK.rf _ _ _) ((sK.rf [33] s).set (j := 33) (x := 0) (by decide)) (by decide) (by decide)
  have hCo1 := hCo.keep (A := []) (mK.rf _ _ _) ((sK.rf [33] s).set (j := 33) (x := 0) (by decide)) (by decide)
  have hR1 : mRw (upd s 33 0) I J [] := ⟨pk_us, by decide, fun i hi => by simp at hi⟩
  have g1 : upd s 33 0 28 = vA (tps pn lev) o1 := by rw [pk_un (by decide)]; exact hg1
  have g2 : upd s 33 0 29 = vA (tps pn lev) o2 := by rw [pk_un (by decide)]; exact hg2
  have hs1 : sK [10, 28, 29, 30, 33] s (upd s 33 0) := (sK.rf _ _).set (by decide)
  generalize upd s 33 0 = s1 at h1 hT1 hCo1 hR1 g1 g2 hs1
  obtain ⟨b0, -⟩ := id h1
  refine v_aload_n i_M_change_5 rfl ?_
  refine v_iload_n i_M_change_6 rfl ?_
  refine v_iload_n i_M_change_7 rfl ?_
  refine v_iconst (v := 1) i_M_change_8 rfl ?_
  refine v_isub i_M_change_9 ?_
  rw [show nI v - 1 = nI lat by rw [hv]; exact nI_pred lat]
  refine v_inv B i_M_change_10 kn_m_M_listAlive (c_M_listAlive B h1 hP (by omega) (by omega) ho1' ho2' hR1 (by show 0 + (pg (tps pn lev)).2.2.2.length ≤ 40; omega) g1 g2) b0 rfl rfl (Nat.le_of_ble_eq_true rfl) ⟨by decide, by decide, by first | decide | (simp; omega), by first | decide | (simp; omega)⟩ rfl (fun r X' hq => ?_) (fun _ _ h => False.elim h)
  obtain ⟨rfl, s2, I2, J2, h2, hR2, hk2, hs2, hf2⟩ := hq
  have hT2 := hT1.keep hk2 hs2 (by decide) (by decide)
  have hCo2 := hCo1.keep hk2 hs2 (by decide)
  generalize X' = X2 at h2 hf2 ⊢
  refine v_iconst (v := 0) i_M_change_13 rfl ?_
  refine v_istore i_M_change_14 (by decide) rfl ?_
  have hmlen := mls_len (pg (tps pn lev)).2.2.2 lat o1 o2 [] (pg (tps pn lev)).2.2.2.length
  refine v_loc [(0, .ref m), (1, .int (nI (tps pn lev))), (2, .int (nI v)), (3, .int (bI (decide (tps pn lev = ro v)))), (4, .int (nI 0))] rfl ?_
  refine c_M_change_a (X := X2) B (R := mls (pg (tps pn lev)).2.2.2 lat o1 o2 [] (pg (tps pn lev)).2.2.2.length) (co := co) (by show _ ≤ 16; have : ([] : qRw).length = 0 := rfl; omega) (tps pn lev) v (bI (decide (tps pn lev = ro v))) hCo2 (fun X3 s3 I3 J3 h3 hR3 hk3 hs3 hf3 => ?_) co.length 0 X2 s2 I2 J2 (by omega) h2 hR2 (mK.rf _ _ _) (sK.rf _ _) (qSame.rf _ _ _)
  have hLe : tlc (mls (pg (tps pn lev)).2.2.2 lat o1 o2 [] (pg (tps pn lev)).2.2.2.length) co co.length = tchL pn lat lev (pg, made, ro, o1, o2, co) := by
    rw [mls_tls _ _ _ _ ho1' ho2' _ ok4]; rfl
  rw [hLe] at hR3
  have hLs : rsrt (tchL pn lat lev (pg, made, ro, o1, o2, co)) := tlist_srt _ _ _ _ ho1' ho2' ok4 _
  have hL18 : (tchL pn lat lev (pg, made, ro, o1, o2, co)).length ≤ 18 := by
    rw [← hLe, tlc_len]
    have := hCo.2.1
    have : ([] : qRw).length = 0 := rfl
    omega
  have hT3 := hT2.keep hk3 hs3 (by decide) (by decide)
  have hCo3 := hCo2.keep hk3 hs3 (by decide)
  have g13 : s3 28 = vA (tps pn lev) o1 := by rw [hs3 28 (by decide), hs2 28 (by decide)]; exact g1
  have g23 : s3 29 = vA (tps pn lev) o2 := by rw [hs3 29 (by decide), hs2 29 (by decide)]; exact g2
  have hk3' : mK [1, 2, 3, 4, 5, 6, 7, 8, 9, 10, 19, 20, 21, 22] I J I3 J3 := (hk2.mono (by decide)).trans (hk3.mono (by decide))
  have hs3' : sK [10, 28, 29, 30, 33] s s3 := (hs1.trans (hs2.mono (by decide))).trans (hs3.mono (by decide))
  have hsn3 : mSn I J I3 J3 := (mSn.keep hk2 (by decide)).trans (mSn.keep hk3 (by decide))
  have hf3' : qSame X X3 m (m + 30) := (f1.trans hf2).trans hf3
  clear hf3 hf2 f1 hk3 hs3 hk2 hs2 hCo2 hT2 h2 hR2
  obtain ⟨c0, -⟩ := id h3
  refine v_aload_n i_M_change_49 rfl ?_
  refine v_get B i_M_change_50 (by first | assumption | exact qset_self _ _ _ | (rw [qset_ne _ _ (by omega)]; first | assumption | exact qset_self _ _ _ | (rw [qset_ne _ _ (by omega)]; first | assumption | exact qset_self _ _ _ | (rw [qset_ne _ _ (by omega)]; first | assumption | exact qset_self _ _ _ | (rw [qset_ne _ _ (by omega)]; first | assumption | exact qset_self _ _ _ | (rw [qset_ne _ _ (by omega)]; first | assumption | exact qset_self _ _ _ | (rw [qset_ne _ _ (by omega)]; first | assumption | exact qset_self _ _ _))))))) rfl ?_
  refine v_iload_n i_M_change_53 rfl ?_
  refine v_iconst (v := 1) i_M_change_54 rfl ?_
  refine v_mzst B h3 (a := 5) (N := 256) (j := tps pn lev) rfl rfl (by decide) (by decide) (rfl) (by omega) (by omega) (by first | exact Or.inl rfl | exact Or.inr rfl | assumption | exact bI_01 _) i_M_change_55 (fun X4 h4 f4 => ?_)
  obtain ⟨hT4, hsn4⟩ := hT3.soil (p := tps pn lev)
  have hk4 : mK [5] I3 J3 (mIu I3 5 (tps pn lev) 1) J3 := (mK.rf _ _ _).int (by decide)
  have hR4 := hR3.keep (S := []) hk4 (sK.rf _ _) (by decide)
  have hCo4 := hCo3.keep (S := []) hk4 (sK.rf _ _) (by decide)
  have hk4' := hk3'.trans (hk4.mono (A' := [1, 2, 3, 4, 5, 6, 7, 8, 9, 10, 19, 20, 21, 22]) (by decide))
  have hsn4' := hsn3.trans hsn4
  have hf4 := hf3'.trans f4
  have hpath4 : ¬ tps pn lev = ro v → mIu I3 5 (tps pn lev) 1 23 (lev + 1) = nI (tps pn (lev + 1)) := fun q => by rw [(hk4' 23 (by decide)).1]; exact hpath q
  generalize mIu I3 5 (tps pn lev) 1 = I4 at h4 hT4 hR4 hCo4 hk4' hsn4' hpath4
  clear hk4 hsn4 hsn3 hk3' f4 hf3' hT3 h3 hR3 hCo3
  obtain ⟨h0, a1, a2, a3, a4, a5, a6, a7, a8, a9, a10, a11, a12, a13, a14, a15, a16, a17, a18, a19, a20, a21, a22, a23, a24, a25, a26, a27, a28, a29⟩ := h4.all
  obtain ⟨r1, r2, r3⟩ := id hR4
  obtain ⟨cc1, cc2, -⟩ := id hCo4
  obtain ⟨w1, w2, w3, w4, w5, w6⟩ := id hT4
  obtain ⟨-, e1, -, -, e4, -⟩ := id (w4 (tps pn lev) hp)
  have hdt : ∀ q, va_up (fun q => gchg (pg q) kp) (tps pn lev) true q = if q = tps pn lev then true else gchg (pg q) kp := fun q => rfl
  have remake : ¬ tchA pn lat v lev (pg, made, ro, o1, o2, co) → ¬ tchB pn lat v lev (pg, made, ro, o1, o2, co) → qV l s0 C m_M_change rm_M_change (fun r X' => r = some (.int (bI (tch pn lat v k lev (pg, made, ro, o1, o2, co)).1)) ∧ ∃ s' I' J', MAt X' m s' I' J' ∧ MT s' I' J' (tch pn lat v k lev (pg, made, ro, o1, o2, co)).2.1 (tch pn lat v k lev (pg, made, ro, o1, o2, co)).2.2.1 lat (fun q => gchg ((tch pn lat v k lev (pg, made, ro, o1, o2, co)).2.1 q) kp) (tch pn lat v k lev (pg, made, ro, o1, o2, co)).2.2.2.1 v ∧ ((tch pn lat v k lev (pg, made, ro, o1, o2, co)).1 = true → s' 28 = vA (tps pn (lev + 1)) (tch pn lat v k lev (pg, made, ro, o1, o2, co)).2.2.2.2.1 ∧ s' 29 = vA (tps pn (lev + 1)) (tch pn lat v k lev (pg, made, ro, o1, o2, co)).2.2.2.2.2.1 ∧ mCo s' I' J' (tch pn lat v k lev (pg, made, ro, o1, o2, co)).2.2.2.2.2.2) ∧ mSn I J I' J' ∧ mK [1, 2, 3, 4, 5, 6, 7, 8, 9, 10, 19, 20, 21, 22] I J I' J' ∧ sK [10, 28, 29, 30, 33] s s' ∧ qSame X X' m (m + 30)) (fun _ _ => False) 0 0 X4 201 [(0, .ref m), (1, .int (nI (tps pn lev))), (2, .int (nI v)), (3, .int (bI (decide (tps pn lev = ro v))))] [] := by
    intro nA nB
    refine v_aload_n i_M_change_201 rfl ?_
    refine v_get B i_M_change_202 (by first | assumption | exact qset_self _ _ _ | (rw [qset_ne _ _ (by omega)]; first | assumption | exact qset_self _ _ _ | (rw [qset_ne _ _ (by omega)]; first | assumption | exact qset_self _ _ _ | (rw [qset_ne _ _ (by omega)]; first | assumption | exact qset_self _ _ _ | (rw [qset_ne _ _ (by omega)]; first | assumption | exact qset_self _ _ _ | (rw [qset_ne _ _ (by omega)]; first | assumption | exact qset_self _ _ _ | (rw [qset_ne _ _ (by omega)]; first | assumption | exact qset_self _ _ _))))))) rfl ?_
    refine v_iload_n i_M_change_205 rfl ?_
    refine v_iload_n i_M_change_206 rfl ?_
    refine v_mist B h4 (a := 3) (N := 512) (j := tps pn lev) rfl rfl (by decide) (by decide) (rfl) (by omega) (by omega) i_M_change_207 (fun X5 h5 f5 => ?_)
    obtain ⟨hT5, hsn5⟩ := hT4.die (v := v) hp (by omega)
    have hk5 : mK [3] I4 J3 (mIu I4 3 (tps pn lev) (nI v)) J3 := (mK.rf _ _ _).int (by decide)
    have hR5 := hR4.keep (S := []) hk5 (sK.rf _ _) (by decide)
    have hk5' := hk4'.trans (hk5.mono (A' := [1, 2, 3, 4, 5, 6, 7, 8, 9, 10, 19, 20, 21, 22]) (by decide))
    have hsn5' := hsn4'.trans hsn5
    have hf5 := hf4.trans f5
    have hpath5 : ¬ tps pn lev = ro v → mIu I4 3 (tps pn lev) (nI v) 23 (lev + 1) = nI (tps pn (lev + 1)) := fun q => by rw [(hk5 23 (by decide)).1]; exact hpath4 q
    have e15 : mIu I4 3 (tps pn lev) (nI v) 1 (tps pn lev) = nI lev := by rw [(hk5 1 (by decide)).1, e1, hlv]
    generalize mIu I4 3 (tps pn lev) (nI v) = I5 at h5 hT5 hR5 hk5' hsn5' hpath5 e15
    clear hk5 hsn5 f5
    rw [show va_up pg (tps pn lev) (gdie (pg (tps pn lev)) v) = tchP1 pn v lev (pg, made, ro, o1, o2, co) from rfl] at hT5
    have hp1e : ∀ q, (tchP1 pn v lev (pg, made, ro, o1, o2, co) q).2.2.2 = (pg q).2.2.2 ∧ (tchP1 pn v lev (pg, made, ro, o1, o2, co) q).1 = (pg q).1 := fun q => die_ents pg (tps pn lev) v q
    have hdt5 : ∀ q, va_up (fun q => gchg (pg q) kp) (tps pn lev) true q = gchg (tchP1 pn v lev (pg, made, ro, o1, o2, co) q) kp := by
      intro q
      show (if q = tps pn lev then true else gchg (pg q) kp) = gchg (va_up pg (tps pn lev) (gdie (pg (tps pn lev)) v) q) kp
      by_cases hq : q = tps pn lev
      · rw [if_pos hq, hq, va_up_self, gchg_die _ (by omega)]
      · rw [if_neg hq, va_up_ne _ _ hq]
    have hT5 := hT5.dts (dt' := fun q => gchg (tchP1 pn v lev (pg, made, ro, o1, o2, co) q) kp) (fun q _ => hdt5 q)
    refine v_iconst (v := (-1)) i_M_change_208 rfl ?_
    refine v_istore i_M_change_209 (by decide) rfl ?_
    refine v_iconst (v := (-1)) i_M_change_211 rfl ?_
    refine v_istore i_M_change_212 (by decide) rfl ?_
    refine v_iload_n i_M_change_214 rfl ?_
    rw [tch, if_neg nA, if_neg nB]
    refine v_if_ne (tgt := 311) i_M_change_215 rfl (fun q215 => ?_) (fun q215 => ?_)
    · have hr : tps pn lev = ro v := of_decide_eq_true (bI_ne q215)
      have d1 := hC nA nB hr
      replace d1 : made + 3 ≤ 256 := d1
      rw [show (if tps pn lev = (pg, made, ro, o1, o2, co).2.2.1 v then (false, tchC pn lat v lev (pg, made, ro, o1, o2, co)) else (true, tchD pn lat v k lev (pg, made, ro, o1, o2, co))) = (false, tchC pn lat v lev (pg, made, ro, o1, o2, co)) from if_pos hr]
      obtain ⟨d0, -⟩ := id h5
      refine v_aload_n i_M_change_311 rfl ?_
      refine v_iload_n i_M_change_312 rfl ?_
      refine v_iload_n i_M_change_313 rfl ?_
      refine v_iload_n i_M_change_314 rfl ?_
      refine v_iload i_M_change_315 rfl ?_
      refine v_iload i_M_change_317 rfl ?_
      rw [decide_eq_true hr]
      refine v_inv B i_M_change_319 kn_m_M_remake (c_M_remakeR B h5 hT5 hR5 (by omega) hLs (by omega) (tps pn lev) hp (by rw [(hp1e _).2]; omega) (by omega) (-1) (-1)) d0 rfl rfl (Nat.le_of_ble_eq_true rfl) ⟨by decide, by decide, by first | decide | (simp; omega), by first | decide | (simp; omega)⟩ rfl (fun r X' hq => ?_) (fun _ _ h => False.elim h)
      obtain ⟨rfl, s6, I6, J6, h6, hT6, hsn6, hk6, hs6, hf6⟩ := hq
      rw [(hp1e (tps pn lev)).2, hlv] at hT6
      refine v_iload_n i_M_change_322 rfl ?_
      refine v_if_ne (tgt := 330) i_M_change_323 rfl (fun q323 => ?_) (fun q323 => absurd q323 (by decide))
      refine v_iconst (v := 0) i_M_change_330 rfl ?_
      refine v_zret i_M_change_331 rfl (Or.inl rfl) (by decide) (by decide) ⟨rfl, s6, I6, J6, h6, ?_, fun q => absurd (show false = true from q) (by decide), hsn5'.trans hsn6, hk5'.trans (hk6.mono (by decide)), hs3'.trans (hs6.mono (by decide)), hf5.trans hf6⟩
      refine MT.dts hT6 (fun q hq => ?_)
      show (if made ≤ q then true else gchg (tchP1 pn v lev (pg, made, ro, o1, o2, co) q) kp) = gchg (trrP (tchP1 pn v lev (pg, made, ro, o1, o2, co)) made (tchL pn lat lev (pg, made, ro, o1, o2, co)) lev v q) kp
      have hlow : ∀ q, q < made → trrP (tchP1 pn v lev (pg, made, ro, o1, o2, co)) made (tchL pn lat lev (pg, made, ro, o1, o2, co)) lev v q = tchP1 pn v lev (pg, made, ro, o1, o2, co) q := by
        intro q hq
        unfold trrP tmkP
        split
        · rw [va_up_ne _ _ (by omega), va_up_ne _ _ (by omega), va_up_ne _ _ (by omega)]
        · rw [va_up_ne _ _ (by omega)]
      by_cases hqm : made ≤ q
      · rw [if_pos hqm]
        symm
        unfold trrP tmkP
        replace hq : q < trrN made (tchL pn lat lev (pg, made, ro, o1, o2, co)) := hq
        unfold trrN at hq
        split
        · rename_i hsp
          rw [if_pos hsp] at hq
          by_cases a1 : q = made + 2
          · rw [a1, va_up_self]; exact gchg_born _ _ _ (by omega)
          · rw [va_up_ne _ _ a1]
            by_cases a2 : q = made + 1
            · rw [a2, va_up_self]; exact gchg_born _ _ _ (by omega)
            · rw [va_up_ne _ _ a2, show q = made by omega, va_up_self]; exact gchg_born _ _ _ (by omega)
        · rename_i hsp
          rw [if_neg hsp] at hq
          rw [show q = made by omega, va_up_self]; exact gchg_born _ _ _ (by omega)
      · rw [if_neg hqm, hlow q (by omega)]
    · have hnr : ¬ tps pn lev = ro v := of_decide_eq_false (bI_0.mp q215)
      obtain ⟨d1, d2, d3⟩ := hD nA nB hnr
      obtain ⟨⟨i, ti, mi⟩, dj, dpos⟩ := hDD nA nB hnr
      replace d1 : made + 2 ≤ 256 := d1
      replace d3 : tps pn (lev + 1) < made := d3
      replace mi : mentry (pg (tps pn (lev + 1))).2.2.2 lat (tps pn lev) (pg (tps pn (lev + 1))).2.2.2.length = some i := mi
      replace dpos : 0 < (trbL (tchP1 pn v lev (pg, made, ro, o1, o2, co)) made (tps pn (lev + 1)) k lat (tchL pn lat lev (pg, made, ro, o1, o2, co))).length := dpos
      replace dj : (tchL pn lat lev (pg, made, ro, o1, o2, co)).length < 5 → ∃ j c, trbO2 (tchP1 pn v lev (pg, made, ro, o1, o2, co)) (tps pn (lev + 1)) k lat (tchL pn lat lev (pg, made, ro, o1, o2, co)) = some j ∧ c < made ∧ (en (pg (tps pn (lev + 1))).2.2.2 j).2.2.2 = lN c := dj
      rw [show (if tps pn lev = (pg, made, ro, o1, o2, co).2.2.1 v then (false, tchC pn lat v lev (pg, made, ro, o1, o2, co)) else (true, tchD pn lat v k lev (pg, made, ro, o1, o2, co))) = (true, tchD pn lat v k lev (pg, made, ro, o1, o2, co)) from if_neg hnr]
      rw [decide_eq_false hnr]
      have hi : i < (pg (tps pn (lev + 1))).2.2.2.length := by
        have := gstand_lt (P := tchP1 pn v lev (pg, made, ro, o1, o2, co) (tps pn (lev + 1))) ti
        rw [(hp1e _).1] at this
        exact this
      obtain ⟨x1, x2, x3, x4, x5, x6⟩ := id hT5
      have hQ := x4 (tps pn (lev + 1)) (by omega)
      obtain ⟨⟨-, -, -, okq, -⟩, -⟩ := id hQ
      rw [(hp1e _).1] at okq
      obtain ⟨d0, -⟩ := id h5
      have d1' : X5.1 (m + 1) = some (.inl (0, 512, .inl (I5 1))) := h5.2 1 (by decide) (by decide)
      have d23 : X5.1 (m + 23) = some (.inl (0, 40, .inl (I5 23))) := h5.2 23 (by decide) (by decide)
      refine v_aload_n i_M_change_218 rfl ?_
      refine v_get B i_M_change_219 (by first | assumption | exact qset_self _ _ _ | (rw [qset_ne _ _ (by omega)]; first | assumption | exact qset_self _ _ _ | (rw [qset_ne _ _ (by omega)]; first | assumption | exact qset_self _ _ _ | (rw [qset_ne _ _ (by omega)]; first | assumption | exact qset_self _ _ _ | (rw [qset_ne _ _ (by omega)]; first | assumption | exact qset_self _ _ _ | (rw [qset_ne _ _ (by omega)]; first | assumption | exact qset_self _ _ _ | (rw [qset_ne _ _ (by omega)]; first | assumption | exact qset_self _ _ _))))))) rfl ?_
      refine v_aload_n i_M_change_222 rfl ?_
      refine v_get B i_M_change_223 (by first | assumption | exact qset_self _ _ _ | (rw [qset_ne _ _ (by omega)]; first | assumption | exact qset_self _ _ _ | (rw [qset_ne _ _ (by omega)]; first | assumption | exact qset_self _ _ _ | (rw [qset_ne _ _ (by omega)]; first | assumption | exact qset_self _ _ _ | (rw [qset_ne _ _ (by omega)]; first | assumption | exact qset_self _ _ _ | (rw [qset_ne _ _ (by omega)]; first | assumption | exact qset_self _ _ _ | (rw [qset_ne _ _ (by omega)]; first | assumption | exact qset_self _ _ _))))))) rfl ?_
      refine v_iload_n i_M_change_226 rfl ?_
      refine v_iald B (by first | assumption | exact qset_self _ _ _ | (rw [qset_ne _ _ (by omega)]; first | assumption | exact qset_self _ _ _ | (rw [qset_ne _ _ (by omega)]; first | assumption | exact qset_self _ _ _ | (rw [qset_ne _ _ (by omega)]; first | assumption | exact qset_self _ _ _ | (rw [qset_ne _ _ (by omega)]; first | assumption | exact qset_self _ _ _ | (rw [qset_ne _ _ (by omega)]; first | assumption | exact qset_self _ _ _ | (rw [qset_ne _ _ (by omega)]; first | assumption | exact qset_self _ _ _))))))) rfl (by omega) (by omega) i_M_change_227 ?_
      refine v_iconst (v := 1) i_M_change_228 rfl ?_
      refine v_iadd i_M_change_229 ?_
      rw [e15, nI_1]
      refine v_iald (j := lev + 1) B d23 rfl (by omega) (by omega) i_M_change_230 ?_
      rw [hpath5 hnr]
      refine v_istore i_M_change_231 (by decide) rfl ?_
      refine v_aload_n i_M_change_233 rfl ?_
      refine v_iload i_M_change_234 rfl ?_
      refine v_iload_n i_M_change_236 rfl ?_
      refine v_iconst (v := 1) i_M_change_237 rfl ?_
      refine v_isub i_M_change_238 ?_
      refine v_iload_n i_M_change_239 rfl ?_
      rw [show nI v - 1 = nI lat by rw [hv]; exact nI_pred lat]
      refine v_inv B i_M_change_240 kn_m_M_entryOf (c_M_entryOf B h5 hQ (by omega) (v := lat) (by omega) (q := tps pn lev) (by omega)) d0 rfl rfl (Nat.le_of_ble_eq_true rfl) ⟨by decide, by decide, by first | decide | (simp; omega), by first | decide | (simp; omega)⟩ rfl (fun r X' hq => ?_) (fun _ _ h => False.elim h)
      obtain ⟨rfl, rfl⟩ := hq
      rw [(hp1e _).1, mi]
      obtain ⟨rr1, rr2, rr3⟩ := id hR5
      have fin : ∀ (X6 : qX) (s6 : Nat → Int32) (I6 : Nat → Nat → Int32) (J6 : Nat → Nat → Int64), MAt X6 m s6 I6 J6 → MT s6 I6 J6 (trbP (tchP1 pn v lev (pg, made, ro, o1, o2, co)) made (tps pn (lev + 1)) k lat v (tchL pn lat lev (pg, made, ro, o1, o2, co))) made lat (fun q => gchg ((trbP (tchP1 pn v lev (pg, made, ro, o1, o2, co)) made (tps pn (lev + 1)) k lat v (tchL pn lat lev (pg, made, ro, o1, o2, co))) q) kp) ro v → mRw s6 I6 J6 (trbL (tchP1 pn v lev (pg, made, ro, o1, o2, co)) made (tps pn (lev + 1)) k lat (tchL pn lat lev (pg, made, ro, o1, o2, co))) → mSn I J I6 J6 → mK [1, 2, 3, 4, 5, 6, 7, 8, 9, 10, 19, 20, 21, 22] I J I6 J6 → sK [10, 28, 29, 30, 33] s s6 → qSame X X6 m (m + 30) →
          rsrt (trbL (tchP1 pn v lev (pg, made, ro, o1, o2, co)) made (tps pn (lev + 1)) k lat (tchL pn lat lev (pg, made, ro, o1, o2, co))) → (trbL (tchP1 pn v lev (pg, made, ro, o1, o2, co)) made (tps pn (lev + 1)) k lat (tchL pn lat lev (pg, made, ro, o1, o2, co))).length ≤ 20 → oLt (trbO2 (tchP1 pn v lev (pg, made, ro, o1, o2, co)) (tps pn (lev + 1)) k lat (tchL pn lat lev (pg, made, ro, o1, o2, co))) (pg (tps pn (lev + 1))).2.2.2.length → qV l s0 C m_M_change rm_M_change (fun r X' => r = some (.int (bI (true, tchD pn lat v k lev (pg, made, ro, o1, o2, co)).1)) ∧ ∃ s' I' J', MAt X' m s' I' J' ∧ MT s' I' J' (true, tchD pn lat v k lev (pg, made, ro, o1, o2, co)).2.1 (true, tchD pn lat v k lev (pg, made, ro, o1, o2, co)).2.2.1 lat (fun q => gchg ((true, tchD pn lat v k lev (pg, made, ro, o1, o2, co)).2.1 q) kp) (true, tchD pn lat v k lev (pg, made, ro, o1, o2, co)).2.2.2.1 v ∧ ((true, tchD pn lat v k lev (pg, made, ro, o1, o2, co)).1 = true → s' 28 = vA (tps pn (lev + 1)) (true, tchD pn lat v k lev (pg, made, ro, o1, o2, co)).2.2.2.2.1 ∧ s' 29 = vA (tps pn (lev + 1)) (true, tchD pn lat v k lev (pg, made, ro, o1, o2, co)).2.2.2.2.2.1 ∧ mCo s' I' J' (true, tchD pn lat v k lev (pg, made, ro, o1, o2, co)).2.2.2.2.2.2) ∧ mSn I J I' J' ∧ mK [1, 2, 3, 4, 5, 6, 7, 8, 9, 10, 19, 20, 21, 22] I J I' J' ∧ sK [10, 28, 29, 30, 33] s s' ∧ qSame X X' m (m + 30)) (fun _ _ => False) 0 0 X6 311 [(0, .ref m), (1, .int (nI (tps pn lev))), (2, .int (nI v)), (3, .int (bI false)), (4, .int (vA (tps pn (lev + 1)) (some i))), (5, .int (vA (tps pn (lev + 1)) (trbO2 (tchP1 pn v lev (pg, made, ro, o1, o2, co)) (tps pn (lev + 1)) k lat (tchL pn lat lev (pg, made, ro, o1, o2, co)))))] [] := by
        intro X6 s6 I6 J6 h6 hT6 hR6 hsn6 hk6 hs6 hf6 hsr hl20 hol
        obtain ⟨y0, -⟩ := id h6
        have hpe : ∀ q, ((trbP (tchP1 pn v lev (pg, made, ro, o1, o2, co)) made (tps pn (lev + 1)) k lat v (tchL pn lat lev (pg, made, ro, o1, o2, co))) q).2.2.2 = (pg q).2.2.2 ∧ ((trbP (tchP1 pn v lev (pg, made, ro, o1, o2, co)) made (tps pn (lev + 1)) k lat v (tchL pn lat lev (pg, made, ro, o1, o2, co))) q).1 = (pg q).1 := by
          intro q
          unfold trbP
          split
          · have := die_ents (tchP1 pn v lev (pg, made, ro, o1, o2, co)) (trbN (tchP1 pn v lev (pg, made, ro, o1, o2, co)) made (tps pn (lev + 1)) k lat (tchL pn lat lev (pg, made, ro, o1, o2, co))) v q
            rw [(hp1e q).1, (hp1e q).2] at this
            exact this
          · exact hp1e q
        refine v_aload_n i_M_change_311 rfl ?_
        refine v_iload_n i_M_change_312 rfl ?_
        refine v_iload_n i_M_change_313 rfl ?_
        refine v_iload_n i_M_change_314 rfl ?_
        refine v_iload i_M_change_315 rfl ?_
        refine v_iload i_M_change_317 rfl ?_
        refine v_inv B i_M_change_319 kn_m_M_remake (c_M_remakeB B h6 hT6 hR6 dpos hl20 hsr (by omega) (tps pn lev) hp (by omega) (tps pn (lev + 1)) i (trbO2 (tchP1 pn v lev (pg, made, ro, o1, o2, co)) (tps pn (lev + 1)) k lat (tchL pn lat lev (pg, made, ro, o1, o2, co))) (by omega) (by rw [(hpe _).1]; exact hi) (by rw [(hpe _).1]; exact hol)) y0 rfl rfl (Nat.le_of_ble_eq_true rfl) ⟨by decide, by decide, by decide, by decide⟩ rfl (fun r X7 hq => ?_) (fun _ _ h => False.elim h)
        obtain ⟨rfl, s7, I7, J7, h7, hT7, k28, k29, kCo, hsn7, hk7, hs7, hf7⟩ := hq
        rw [(hpe (tps pn lev)).2, hlv] at hT7 kCo
        refine v_iload_n i_M_change_322 rfl ?_
        refine v_if_ne (tgt := 330) i_M_change_323 rfl (fun q323 => absurd rfl q323) (fun q323 => ?_)
        refine v_iconst (v := 1) i_M_change_326 rfl ?_
        refine v_goto (tgt := 331) i_M_change_327 rfl ?_
        refine v_zret i_M_change_331 rfl (Or.inr rfl) (by decide) (by decide) ⟨rfl, s7, I7, J7, h7, ?_, fun _ => ⟨?_, ?_, ?_⟩, hsn6.trans hsn7, hk6.trans (hk7.mono (by decide)), hs6.trans (hs7.mono (by decide)), hf6.trans hf7⟩
        · refine MT.dts hT7 (fun q hq => ?_)
          show (if made ≤ q then true else gchg ((trbP (tchP1 pn v lev (pg, made, ro, o1, o2, co)) made (tps pn (lev + 1)) k lat v (tchL pn lat lev (pg, made, ro, o1, o2, co))) q) kp) = gchg (tmkP (trbP (tchP1 pn v lev (pg, made, ro, o1, o2, co)) made (tps pn (lev + 1)) k lat v (tchL pn lat lev (pg, made, ro, o1, o2, co))) made (trbL (tchP1 pn v lev (pg, made, ro, o1, o2, co)) made (tps pn (lev + 1)) k lat (tchL pn lat lev (pg, made, ro, o1, o2, co))) lev v q) kp
          replace hq : q < tmkN made (trbL (tchP1 pn v lev (pg, made, ro, o1, o2, co)) made (tps pn (lev + 1)) k lat (tchL pn lat lev (pg, made, ro, o1, o2, co))) := hq
          unfold tmkN at hq
          by_cases hqm : made ≤ q
          · rw [if_pos hqm]
            symm
            unfold tmkP
            split
            · rename_i hsp
              rw [if_pos hsp] at hq
              by_cases a2 : q = made + 1
              · rw [a2, va_up_self]; exact gchg_born _ _ _ (by omega)
              · rw [va_up_ne _ _ a2, show q = made by omega, va_up_self]; exact gchg_born _ _ _ (by omega)
            · rename_i hsp
              rw [if_neg hsp] at hq
              rw [show q = made by omega, va_up_self]; exact gchg_born _ _ _ (by omega)
          · rw [if_neg hqm]
            unfold tmkP
            split
            · rw [va_up_ne _ _ (by omega), va_up_ne _ _ (by omega)]
            · rw [va_up_ne _ _ (by omega)]
        · rw [k28, show (true, tchD pn lat v k lev (pg, made, ro, o1, o2, co)).2.2.2.2.1 = trbO1 (tchP1 pn v lev (pg, made, ro, o1, o2, co)) (tps pn (lev + 1)) k lat from rfl, ti]
        · exact k29
        · have eK : mkey ((trbP (tchP1 pn v lev (pg, made, ro, o1, o2, co)) made (tps pn (lev + 1)) k lat v (tchL pn lat lev (pg, made, ro, o1, o2, co))) (tps pn (lev + 1))).2.2.2 i (trbO2 (tchP1 pn v lev (pg, made, ro, o1, o2, co)) (tps pn (lev + 1)) k lat (tchL pn lat lev (pg, made, ro, o1, o2, co))) = trbK (tchP1 pn v lev (pg, made, ro, o1, o2, co)) (tps pn (lev + 1)) k lat (tchL pn lat lev (pg, made, ro, o1, o2, co)) := by
            rw [(hpe _).1]
            unfold trbK
            rw [ti, show vO (some i) = nI i from rfl, gkeyAt_nI (P := (tchP1 pn v lev (pg, made, ro, o1, o2, co)) (tps pn (lev + 1))) (by rw [(hp1e _).1]; exact hi) (by rw [(hp1e _).1]; exact okq), (hp1e _).1]
            by_cases h5 : (tchL pn lat lev (pg, made, ro, o1, o2, co)).length < 5
            · obtain ⟨j, c, tj, -, -⟩ := dj h5
              rw [if_pos h5, tj]
              have hj := hol j tj
              rw [show vO (some j) = nI j from rfl, gkeyAt_nI (P := (tchP1 pn v lev (pg, made, ro, o1, o2, co)) (tps pn (lev + 1))) (by rw [(hp1e _).1]; exact hj) (by rw [(hp1e _).1]; exact okq), (hp1e _).1]
              rfl
            · rw [if_neg h5, show trbO2 (tchP1 pn v lev (pg, made, ro, o1, o2, co)) (tps pn (lev + 1)) k lat (tchL pn lat lev (pg, made, ro, o1, o2, co)) = none by unfold trbO2; rw [if_neg h5]]
              rfl
          show mCo s7 I7 J7 (rlow (tmkC made (trbL (tchP1 pn v lev (pg, made, ro, o1, o2, co)) made (tps pn (lev + 1)) k lat (tchL pn lat lev (pg, made, ro, o1, o2, co))) lev v) (trbK (tchP1 pn v lev (pg, made, ro, o1, o2, co)) (tps pn (lev + 1)) k lat (tchL pn lat lev (pg, made, ro, o1, o2, co))))
          rw [← eK]
          exact kCo
      refine v_istore i_M_change_243 (by decide) rfl ?_
      refine v_aload_n i_M_change_245 rfl ?_
      refine v_get B i_M_change_246 (by first | assumption | exact qset_self _ _ _ | (rw [qset_ne _ _ (by omega)]; first | assumption | exact qset_self _ _ _ | (rw [qset_ne _ _ (by omega)]; first | assumption | exact qset_self _ _ _ | (rw [qset_ne _ _ (by omega)]; first | assumption | exact qset_self _ _ _ | (rw [qset_ne _ _ (by omega)]; first | assumption | exact qset_self _ _ _ | (rw [qset_ne _ _ (by omega)]; first | assumption | exact qset_self _ _ _ | (rw [qset_ne _ _ (by omega)]; first | assumption | exact qset_self _ _ _))))))) rfl ?_
      refine v_iconst (v := 5) i_M_change_249 rfl ?_
      rw [rr1]
      refine v_icmp_ge (tgt := 311) i_M_change_250 rfl (fun q250 => ?_) (fun q250 => ?_)
      · have h5n : ¬ (tchL pn lat lev (pg, made, ro, o1, o2, co)).length < 5 := Nat.not_lt.mpr ((nI_leI (a := 5) (by omega) (by omega)).mp q250)
        have eP : trbP (tchP1 pn v lev (pg, made, ro, o1, o2, co)) made (tps pn (lev + 1)) k lat v (tchL pn lat lev (pg, made, ro, o1, o2, co)) = tchP1 pn v lev (pg, made, ro, o1, o2, co) := by unfold trbP; rw [if_neg h5n]
        have eL : trbL (tchP1 pn v lev (pg, made, ro, o1, o2, co)) made (tps pn (lev + 1)) k lat (tchL pn lat lev (pg, made, ro, o1, o2, co)) = tchL pn lat lev (pg, made, ro, o1, o2, co) := by unfold trbL; rw [if_neg h5n]
        have eO : trbO2 (tchP1 pn v lev (pg, made, ro, o1, o2, co)) (tps pn (lev + 1)) k lat (tchL pn lat lev (pg, made, ro, o1, o2, co)) = none := by unfold trbO2; rw [if_neg h5n]
        have F := fin X5 s3 I5 J3 h5 (by rw [eP]; exact hT5) (by rw [eL]; exact hR5) hsn5' hk5' hs3' hf5 (by rw [eL]; exact hLs) (by rw [eL]; omega) (by rw [eO]; intro t ht; cases ht)
        rw [eO] at F
        exact v_loc [(0, .ref m), (1, .int (nI (tps pn lev))), (2, .int (nI v)), (3, .int (bI false)), (4, .int (vA (tps pn (lev + 1)) (some i))), (5, .int (vA (tps pn (lev + 1)) none))] rfl F
      have h5y : (tchL pn lat lev (pg, made, ro, o1, o2, co)).length < 5 := by
        have : ¬ 5 ≤ (tchL pn lat lev (pg, made, ro, o1, o2, co)).length := fun q => q250 (nI_le (a := 5) q (by omega))
        omega
      obtain ⟨j, c, tj, hc, hw⟩ := dj h5y
      have hgn : gneigh ((tchP1 pn v lev (pg, made, ro, o1, o2, co)) (tps pn (lev + 1))) (nI i) lat = some j := by
        have := tj
        unfold trbO2 at this
        rw [if_pos h5y, ti] at this
        exact this
      have hj : j < (pg (tps pn (lev + 1))).2.2.2.length := by
        have := gneigh_lt hgn
        rw [(hp1e _).1] at this
        exact this
      refine v_aload_n i_M_change_253 rfl ?_
      refine v_iload i_M_change_254 rfl ?_
      refine v_iload_n i_M_change_256 rfl ?_
      refine v_iconst (v := 1) i_M_change_257 rfl ?_
      refine v_isub i_M_change_258 ?_
      refine v_iload i_M_change_259 rfl ?_
      rw [show nI v - 1 = nI lat by rw [hv]; exact nI_pred lat]
      refine v_inv B i_M_change_261 kn_m_M_neighbour (c_M_neighbour B h5 hQ (by omega) (v := lat) (by omega) (d := i) (by rw [(hp1e _).1]; exact hi)) d0 rfl rfl (Nat.le_of_ble_eq_true rfl) ⟨by decide, by decide, by decide, by decide⟩ rfl (fun r X' hq => ?_) (fun _ _ h => False.elim h)
      obtain ⟨rfl, rfl⟩ := hq
      rw [hgn, show vA (tps pn (lev + 1)) (some j) = nI (16 * (tps pn (lev + 1)) + j) from rfl]
      refine v_istore i_M_change_264 (by decide) rfl ?_
      have d9 : X5.1 (m + 9) = some (.inl (1, 8192, .inr (.inl (J3 9)))) := h5.2 9 (by decide) (by decide)
      obtain ⟨-, -, -, -, -, qk⟩ := id hQ
      obtain ⟨-, -, -, qkj⟩ := qk j (by rw [(hp1e _).1]; exact hj)
      rw [(hp1e _).1, hw] at qkj
      refine v_aload_n i_M_change_266 rfl ?_
      refine v_get B i_M_change_267 (by first | assumption | exact qset_self _ _ _ | (rw [qset_ne _ _ (by omega)]; first | assumption | exact qset_self _ _ _ | (rw [qset_ne _ _ (by omega)]; first | assumption | exact qset_self _ _ _ | (rw [qset_ne _ _ (by omega)]; first | assumption | exact qset_self _ _ _ | (rw [qset_ne _ _ (by omega)]; first | assumption | exact qset_self _ _ _ | (rw [qset_ne _ _ (by omega)]; first | assumption | exact qset_self _ _ _ | (rw [qset_ne _ _ (by omega)]; first | assumption | exact qset_self _ _ _))))))) rfl ?_
      refine v_iload i_M_change_270 rfl ?_
      refine v_lald (j := 16 * (tps pn (lev + 1)) + j) B d9 rfl (by omega) (by omega) i_M_change_272 ?_
      rw [qkj]
      refine v_l2i i_M_change_273 ?_
      rw [lN_i]
      refine v_istore i_M_change_274 (by decide) rfl ?_
      refine v_aload_n i_M_change_276 rfl ?_
      refine v_get B i_M_change_277 (by first | assumption | exact qset_self _ _ _ | (rw [qset_ne _ _ (by omega)]; first | assumption | exact qset_self _ _ _ | (rw [qset_ne _ _ (by omega)]; first | assumption | exact qset_self _ _ _ | (rw [qset_ne _ _ (by omega)]; first | assumption | exact qset_self _ _ _ | (rw [qset_ne _ _ (by omega)]; first | assumption | exact qset_self _ _ _ | (rw [qset_ne _ _ (by omega)]; first | assumption | exact qset_self _ _ _ | (rw [qset_ne _ _ (by omega)]; first | assumption | exact qset_self _ _ _))))))) rfl ?_
      refine v_iload i_M_change_280 rfl ?_
      refine v_iload_n i_M_change_282 rfl ?_
      refine v_mist B h5 (a := 3) (N := 512) (j := c) rfl rfl (by decide) (by decide) (rfl) (by omega) (by omega) i_M_change_283 (fun X6 h6 f6 => ?_)
      obtain ⟨hT6, hsn6⟩ := hT5.die (p := c) (v := v) hc (by omega)
      obtain ⟨y0, -⟩ := id h6
      refine v_aload_n i_M_change_284 rfl ?_
      refine v_get B i_M_change_285 (by first | assumption | exact qset_self _ _ _ | (rw [qset_ne _ _ (by omega)]; first | assumption | exact qset_self _ _ _ | (rw [qset_ne _ _ (by omega)]; first | assumption | exact qset_self _ _ _ | (rw [qset_ne _ _ (by omega)]; first | assumption | exact qset_self _ _ _ | (rw [qset_ne _ _ (by omega)]; first | assumption | exact qset_self _ _ _ | (rw [qset_ne _ _ (by omega)]; first | assumption | exact qset_self _ _ _ | (rw [qset_ne _ _ (by omega)]; first | assumption | exact qset_self _ _ _))))))) rfl ?_
      refine v_iload i_M_change_288 rfl ?_
      refine v_iconst (v := 1) i_M_change_290 rfl ?_
      refine v_mzst B h6 (a := 5) (N := 256) (j := c) rfl rfl (by decide) (by decide) (rfl) (by omega) (by omega) (by first | exact Or.inl rfl | exact Or.inr rfl | assumption | exact bI_01 _) i_M_change_291 (fun X7 h7 f7 => ?_)
      obtain ⟨hT7, hsn7⟩ := hT6.soil (p := c)
      obtain ⟨y0, -⟩ := id h7
      refine v_aload_n i_M_change_292 rfl ?_
      refine v_iconst (v := (-1)) i_M_change_293 rfl ?_
      refine v_mput B h7 (j := 28) i_M_change_294 (Nat.le_of_ble_eq_true rfl) rfl rfl rfl (fun X8 h8 f8 => ?_)
      obtain ⟨y0, -⟩ := id h8
      refine v_aload_n i_M_change_297 rfl ?_
      refine v_iconst (v := (-1)) i_M_change_298 rfl ?_
      refine v_mput B h8 (j := 29) i_M_change_299 (Nat.le_of_ble_eq_true rfl) rfl rfl rfl (fun X9 h9 f9 => ?_)
      have eN : trbN (tchP1 pn v lev (pg, made, ro, o1, o2, co)) made (tps pn (lev + 1)) k lat (tchL pn lat lev (pg, made, ro, o1, o2, co)) = c := by
        unfold trbN
        rw [tj, show vO (some j) = nI j from rfl, gwhatAt_nI (P := (tchP1 pn v lev (pg, made, ro, o1, o2, co)) (tps pn (lev + 1))) (by rw [(hp1e _).1]; exact hj) (by rw [(hp1e _).1]; exact okq), (hp1e _).1, hw, tpn_of hc (by omega)]
      have eP : trbP (tchP1 pn v lev (pg, made, ro, o1, o2, co)) made (tps pn (lev + 1)) k lat v (tchL pn lat lev (pg, made, ro, o1, o2, co)) = va_up (tchP1 pn v lev (pg, made, ro, o1, o2, co)) c (gdie ((tchP1 pn v lev (pg, made, ro, o1, o2, co)) c) v) := by unfold trbP; rw [if_pos h5y, eN]
      have hkx : mK [3, 5] I5 J3 (mIu (mIu I5 3 c (nI v)) 5 c 1) J3 := ((mK.rf _ _ _).int (by decide)).int (by decide)
      have hsx : sK [28, 29] s3 (upd (upd s3 28 (-1)) 29 (-1)) := ((sK.rf _ _).set (by decide)).set (by decide)
      have hT9 := (hT7.keep (A := []) (mK.rf _ _ _) hsx (by decide) (by decide)).dts (dt' := fun q => gchg (va_up (tchP1 pn v lev (pg, made, ro, o1, o2, co)) c (gdie ((tchP1 pn v lev (pg, made, ro, o1, o2, co)) c) v) q) kp) (fun q _ => by
        show (if q = c then true else gchg ((tchP1 pn v lev (pg, made, ro, o1, o2, co)) q) kp) = gchg (va_up (tchP1 pn v lev (pg, made, ro, o1, o2, co)) c (gdie ((tchP1 pn v lev (pg, made, ro, o1, o2, co)) c) v) q) kp
        by_cases hqc : q = c
        · rw [if_pos hqc, hqc, va_up_self, gchg_die _ (by omega)]
        · rw [if_neg hqc, va_up_ne _ _ hqc])
      have hR9 := (hR5.keep (S := []) hkx (sK.rf _ _) (by decide)).keep (A := []) (mK.rf _ _ _) hsx (by decide)
      have z28 : upd (upd s3 28 (-1)) 29 (-1) 28 = vA c none := by rw [pk_un (by decide), pk_us]; rfl
      have z29 : upd (upd s3 28 (-1)) 29 (-1) 29 = vA c none := by rw [pk_us]; rfl
      have hs9 : sK [10, 28, 29, 30, 33] s (upd (upd s3 28 (-1)) 29 (-1)) := hs3'.trans (hsx.mono (by decide))
      have hk9 := hk5'.trans (hkx.mono (A' := [1, 2, 3, 4, 5, 6, 7, 8, 9, 10, 19, 20, 21, 22]) (by decide))
      have hsn9 := (hsn5'.trans hsn6).trans hsn7
      have hf9 := (((hf5.trans f6).trans f7).trans f8).trans f9
      generalize upd (upd s3 28 (-1)) 29 (-1) = s9 at h9 hT9 hR9 z28 z29 hs9
      generalize mIu (mIu I5 3 c (nI v)) 5 c 1 = I9 at h9 hT9 hR9 hk9 hsn9
      obtain ⟨y0, -⟩ := id h9
      obtain ⟨-, -, -, v4, -, -⟩ := id hT9
      have hPc := v4 c hc
      obtain ⟨⟨-, -, -, okc, -⟩, -⟩ := id hPc
      refine v_aload_n i_M_change_302 rfl ?_
      refine v_iload i_M_change_303 rfl ?_
      refine v_iload_n i_M_change_305 rfl ?_
      refine v_iconst (v := 1) i_M_change_306 rfl ?_
      refine v_isub i_M_change_307 ?_
      rw [show nI v - 1 = nI lat by rw [hv]; exact nI_pred lat]
      refine v_inv B i_M_change_308 kn_m_M_listAlive (c_M_listAlive B h9 hPc (by omega) (v := lat) (by omega) (o1 := none) (o2 := none) (fun t ht => by cases ht) (fun t ht => by cases ht) hR9 (by omega) z28 z29) y0 rfl rfl (Nat.le_of_ble_eq_true rfl) ⟨by decide, by decide, by decide, by decide⟩ rfl (fun r X10 hq => ?_) (fun _ _ h => False.elim h)
      obtain ⟨rfl, s10, I10, J10, h10, hR10, hk10, hs10, hf10⟩ := hq
      have ePc : (va_up (tchP1 pn v lev (pg, made, ro, o1, o2, co)) c (gdie ((tchP1 pn v lev (pg, made, ro, o1, o2, co)) c) v) c).2.2.2 = ((tchP1 pn v lev (pg, made, ro, o1, o2, co)) c).2.2.2 := by rw [va_up_self]; rfl
      rw [ePc] at hR10 okc
      have eL : trbL (tchP1 pn v lev (pg, made, ro, o1, o2, co)) made (tps pn (lev + 1)) k lat (tchL pn lat lev (pg, made, ro, o1, o2, co)) = mls ((tchP1 pn v lev (pg, made, ro, o1, o2, co)) c).2.2.2 lat none none (tchL pn lat lev (pg, made, ro, o1, o2, co)) ((tchP1 pn v lev (pg, made, ro, o1, o2, co)) c).2.2.2.length := by
        unfold trbL
        rw [if_pos h5y, eN, mls_copy]
      have hlm := mls_len ((tchP1 pn v lev (pg, made, ro, o1, o2, co)) c).2.2.2 lat none none (tchL pn lat lev (pg, made, ro, o1, o2, co)) ((tchP1 pn v lev (pg, made, ro, o1, o2, co)) c).2.2.2.length
      have F := fin X10 s10 I10 J10 h10 (by rw [eP]; exact hT9.keep hk10 hs10 (by decide) (by decide)) (by rw [eL]; exact hR10) (hsn9.trans (mSn.keep hk10 (by decide))) (hk9.trans (hk10.mono (by decide))) (hs9.trans (hs10.mono (by decide))) (hf9.trans hf10) (by rw [eL]; exact mls_srt _ _ _ _ hLs _) (by rw [eL]; omega) (by rw [tj]; intro t ht; cases ht; exact hj)
      rw [tj] at F
      exact v_loc [(0, .ref m), (1, .int (nI (tps pn lev))), (2, .int (nI v)), (3, .int (bI false)), (4, .int (vA (tps pn (lev + 1)) (some i))), (5, .int (vA (tps pn (lev + 1)) (some j)))] rfl F
  have rest : ¬ tchA pn lat v lev (pg, made, ro, o1, o2, co) → qV l s0 C m_M_change rm_M_change (fun r X' => r = some (.int (bI (tch pn lat v k lev (pg, made, ro, o1, o2, co)).1)) ∧ ∃ s' I' J', MAt X' m s' I' J' ∧ MT s' I' J' (tch pn lat v k lev (pg, made, ro, o1, o2, co)).2.1 (tch pn lat v k lev (pg, made, ro, o1, o2, co)).2.2.1 lat (fun q => gchg ((tch pn lat v k lev (pg, made, ro, o1, o2, co)).2.1 q) kp) (tch pn lat v k lev (pg, made, ro, o1, o2, co)).2.2.2.1 v ∧ ((tch pn lat v k lev (pg, made, ro, o1, o2, co)).1 = true → s' 28 = vA (tps pn (lev + 1)) (tch pn lat v k lev (pg, made, ro, o1, o2, co)).2.2.2.2.1 ∧ s' 29 = vA (tps pn (lev + 1)) (tch pn lat v k lev (pg, made, ro, o1, o2, co)).2.2.2.2.2.1 ∧ mCo s' I' J' (tch pn lat v k lev (pg, made, ro, o1, o2, co)).2.2.2.2.2.2) ∧ mSn I J I' J' ∧ mK [1, 2, 3, 4, 5, 6, 7, 8, 9, 10, 19, 20, 21, 22] I J I' J' ∧ sK [10, 28, 29, 30, 33] s s' ∧ qSame X X' m (m + 30)) (fun _ _ => False) 0 0 X4 99 [(0, .ref m), (1, .int (nI (tps pn lev))), (2, .int (nI v)), (3, .int (bI (decide (tps pn lev = ro v))))] [] := by
    intro nA
    have room : (tps pn lev = ro v ∨ 3 ≤ (tchL pn lat lev (pg, made, ro, o1, o2, co)).length) → qV l s0 C m_M_change rm_M_change (fun r X' => r = some (.int (bI (tch pn lat v k lev (pg, made, ro, o1, o2, co)).1)) ∧ ∃ s' I' J', MAt X' m s' I' J' ∧ MT s' I' J' (tch pn lat v k lev (pg, made, ro, o1, o2, co)).2.1 (tch pn lat v k lev (pg, made, ro, o1, o2, co)).2.2.1 lat (fun q => gchg ((tch pn lat v k lev (pg, made, ro, o1, o2, co)).2.1 q) kp) (tch pn lat v k lev (pg, made, ro, o1, o2, co)).2.2.2.1 v ∧ ((tch pn lat v k lev (pg, made, ro, o1, o2, co)).1 = true → s' 28 = vA (tps pn (lev + 1)) (tch pn lat v k lev (pg, made, ro, o1, o2, co)).2.2.2.2.1 ∧ s' 29 = vA (tps pn (lev + 1)) (tch pn lat v k lev (pg, made, ro, o1, o2, co)).2.2.2.2.2.1 ∧ mCo s' I' J' (tch pn lat v k lev (pg, made, ro, o1, o2, co)).2.2.2.2.2.2) ∧ mSn I J I' J' ∧ mK [1, 2, 3, 4, 5, 6, 7, 8, 9, 10, 19, 20, 21, 22] I J I' J' ∧ sK [10, 28, 29, 30, 33] s s' ∧ qSame X X' m (m + 30)) (fun _ _ => False) 0 0 X4 111 [(0, .ref m), (1, .int (nI (tps pn lev))), (2, .int (nI v)), (3, .int (bI (decide (tps pn lev = ro v))))] [] := by
      intro hor
      refine v_aload_n i_M_change_111 rfl ?_
      refine v_get B i_M_change_112 (by first | assumption | exact qset_self _ _ _ | (rw [qset_ne _ _ (by omega)]; first | assumption | exact qset_self _ _ _ | (rw [qset_ne _ _ (by omega)]; first | assumption | exact qset_self _ _ _ | (rw [qset_ne _ _ (by omega)]; first | assumption | exact qset_self _ _ _ | (rw [qset_ne _ _ (by omega)]; first | assumption | exact qset_self _ _ _ | (rw [qset_ne _ _ (by omega)]; first | assumption | exact qset_self _ _ _ | (rw [qset_ne _ _ (by omega)]; first | assumption | exact qset_self _ _ _))))))) rfl ?_
      refine v_iload_n i_M_change_115 rfl ?_
      refine v_iald B (by first | assumption | exact qset_self _ _ _ | (rw [qset_ne _ _ (by omega)]; first | assumption | exact qset_self _ _ _ | (rw [qset_ne _ _ (by omega)]; first | assumption | exact qset_self _ _ _ | (rw [qset_ne _ _ (by omega)]; first | assumption | exact qset_self _ _ _ | (rw [qset_ne _ _ (by omega)]; first | assumption | exact qset_self _ _ _ | (rw [qset_ne _ _ (by omega)]; first | assumption | exact qset_self _ _ _ | (rw [qset_ne _ _ (by omega)]; first | assumption | exact qset_self _ _ _))))))) rfl (by omega) (by omega) i_M_change_116 ?_
      refine v_aload_n i_M_change_117 rfl ?_
      refine v_get B i_M_change_118 (by first | assumption | exact qset_self _ _ _ | (rw [qset_ne _ _ (by omega)]; first | assumption | exact qset_self _ _ _ | (rw [qset_ne _ _ (by omega)]; first | assumption | exact qset_self _ _ _ | (rw [qset_ne _ _ (by omega)]; first | assumption | exact qset_self _ _ _ | (rw [qset_ne _ _ (by omega)]; first | assumption | exact qset_self _ _ _ | (rw [qset_ne _ _ (by omega)]; first | assumption | exact qset_self _ _ _ | (rw [qset_ne _ _ (by omega)]; first | assumption | exact qset_self _ _ _))))))) rfl ?_
      rw [e4, cc1]
      refine v_iadd i_M_change_121 ?_
      refine v_bipush (v := 16) i_M_change_122 rfl ?_
      rw [nI_add]
      refine v_icmp_gt (tgt := 201) i_M_change_124 rfl (fun q124 => ?_) (fun q124 => ?_)
      · refine remake nA (fun q => ?_)
        exact absurd q124 (nI_nlt (a := 16) (b := (pg (tps pn lev)).2.2.2.length + co.length) q.2 (by omega)) 
      have hrm : (pg (tps pn lev)).2.2.2.length + co.length ≤ 16 := by
        have : ¬ 16 < (pg (tps pn lev)).2.2.2.length + co.length := fun q => q124 (nI_lt (a := 16) q (by omega))
        omega
      have hB : tchB pn lat v lev (pg, made, ro, o1, o2, co) := ⟨hor, hrm⟩
      rw [tch, if_neg nA, if_pos hB]
      have fin : ∀ (X6 : qX) (I6 : Nat → Nat → Int32), MAt X6 m s3 I6 J3 → MT s3 I6 J3 (va_up pg (tps pn lev) ((pg (tps pn lev)).1, (pg (tps pn lev)).2.1, (pg (tps pn lev)).2.2.1, gend (gend (pg (tps pn lev)).2.2.2 o1 v) o2 v)) made lat (va_up (fun q => gchg (pg q) kp) (tps pn lev) true) ro v → mSn I J I6 J3 → mK [8] I4 J3 I6 J3 → qSame X X6 m (m + 30) →
          qV l s0 C m_M_change rm_M_change (fun r X' => r = some (.int (bI (false, va_up (pg, made, ro, o1, o2, co).1 (tps pn lev) (tchGo ((pg, made, ro, o1, o2, co).1 (tps pn lev)) v (pg, made, ro, o1, o2, co).2.2.2.1 (pg, made, ro, o1, o2, co).2.2.2.2.1 (pg, made, ro, o1, o2, co).2.2.2.2.2), (pg, made, ro, o1, o2, co).2).1)) ∧ ∃ s' I' J', MAt X' m s' I' J' ∧ MT s' I' J' (false, va_up (pg, made, ro, o1, o2, co).1 (tps pn lev) (tchGo ((pg, made, ro, o1, o2, co).1 (tps pn lev)) v (pg, made, ro, o1, o2, co).2.2.2.1 (pg, made, ro, o1, o2, co).2.2.2.2.1 (pg, made, ro, o1, o2, co).2.2.2.2.2), (pg, made, ro, o1, o2, co).2).2.1 (false, va_up (pg, made, ro, o1, o2, co).1 (tps pn lev) (tchGo ((pg, made, ro, o1, o2, co).1 (tps pn lev)) v (pg, made, ro, o1, o2, co).2.2.2.1 (pg, made, ro, o1, o2, co).2.2.2.2.1 (pg, made, ro, o1, o2, co).2.2.2.2.2), (pg, made, ro, o1, o2, co).2).2.2.1 lat (fun q => gchg ((false, va_up (pg, made, ro, o1, o2, co).1 (tps pn lev) (tchGo ((pg, made, ro, o1, o2, co).1 (tps pn lev)) v (pg, made, ro, o1, o2, co).2.2.2.1 (pg, made, ro, o1, o2, co).2.2.2.2.1 (pg, made, ro, o1, o2, co).2.2.2.2.2), (pg, made, ro, o1, o2, co).2).2.1 q) kp) (false, va_up (pg, made, ro, o1, o2, co).1 (tps pn lev) (tchGo ((pg, made, ro, o1, o2, co).1 (tps pn lev)) v (pg, made, ro, o1, o2, co).2.2.2.1 (pg, made, ro, o1, o2, co).2.2.2.2.1 (pg, made, ro, o1, o2, co).2.2.2.2.2), (pg, made, ro, o1, o2, co).2).2.2.2.1 v ∧ ((false, va_up (pg, made, ro, o1, o2, co).1 (tps pn lev) (tchGo ((pg, made, ro, o1, o2, co).1 (tps pn lev)) v (pg, made, ro, o1, o2, co).2.2.2.1 (pg, made, ro, o1, o2, co).2.2.2.2.1 (pg, made, ro, o1, o2, co).2.2.2.2.2), (pg, made, ro, o1, o2, co).2).1 = true → s' 28 = vA (tps pn (lev + 1)) (false, va_up (pg, made, ro, o1, o2, co).1 (tps pn lev) (tchGo ((pg, made, ro, o1, o2, co).1 (tps pn lev)) v (pg, made, ro, o1, o2, co).2.2.2.1 (pg, made, ro, o1, o2, co).2.2.2.2.1 (pg, made, ro, o1, o2, co).2.2.2.2.2), (pg, made, ro, o1, o2, co).2).2.2.2.2.1 ∧ s' 29 = vA (tps pn (lev + 1)) (false, va_up (pg, made, ro, o1, o2, co).1 (tps pn lev) (tchGo ((pg, made, ro, o1, o2, co).1 (tps pn lev)) v (pg, made, ro, o1, o2, co).2.2.2.1 (pg, made, ro, o1, o2, co).2.2.2.2.1 (pg, made, ro, o1, o2, co).2.2.2.2.2), (pg, made, ro, o1, o2, co).2).2.2.2.2.2.1 ∧ mCo s' I' J' (false, va_up (pg, made, ro, o1, o2, co).1 (tps pn lev) (tchGo ((pg, made, ro, o1, o2, co).1 (tps pn lev)) v (pg, made, ro, o1, o2, co).2.2.2.1 (pg, made, ro, o1, o2, co).2.2.2.2.1 (pg, made, ro, o1, o2, co).2.2.2.2.2), (pg, made, ro, o1, o2, co).2).2.2.2.2.2.2) ∧ mSn I J I' J' ∧ mK [1, 2, 3, 4, 5, 6, 7, 8, 9, 10, 19, 20, 21, 22] I J I' J' ∧ sK [10, 28, 29, 30, 33] s s' ∧ qSame X X' m (m + 30)) (fun _ _ => False) 0 0 X6 161 [(0, .ref m), (1, .int (nI (tps pn lev))), (2, .int (nI v)), (3, .int (bI (decide (tps pn lev = ro v))))] [] := by
        intro X6 I6 h6 hT6 hsn6 hk6 hf6
        have hCo6 := hCo4.keep (S := []) hk6 (sK.rf _ _) (by decide)
        have hl2 : (gend (gend (pg (tps pn lev)).2.2.2 o1 v) o2 v).length = (pg (tps pn lev)).2.2.2.length := by rw [gend_len, gend_len]
        refine v_iconst (v := 0) i_M_change_161 rfl ?_
        refine v_istore i_M_change_162 (by decide) rfl ?_
        refine v_loc [(0, .ref m), (1, .int (nI (tps pn lev))), (2, .int (nI v)), (3, .int (bI (decide (tps pn lev = ro v)))), (4, .int (nI 0))] rfl ?_
        refine c_M_change_b (X := X6) (I := I6) (J := J3) (pg := pg) (dt := va_up (fun q => gchg (pg q) kp) (tps pn lev) true) (ro := ro) (rb := v) (lat := lat) (made := made) B (co := co) (tps pn lev) v hp (by omega) (bI (decide (tps pn lev = ro v))) ((pg (tps pn lev)).1, (pg (tps pn lev)).2.1, (pg (tps pn lev)).2.2.1, gend (gend (pg (tps pn lev)).2.2.2 o1 v) o2 v) (by show (gend (gend (pg (tps pn lev)).2.2.2 o1 v) o2 v).length + co.length ≤ 16; omega) hCo6 (fun X7 I7 J7 h7 hT7 hsn7 hk7 hf7 => ?_) co.length 0 X6 I6 J3 (by omega) h6 ?_ (mSn.rf _ _) (mK.rf _ _ _) (qSame.rf _ _ _)
        · refine v_iconst (v := 0) i_M_change_199 rfl ?_
          refine v_zret i_M_change_200 rfl (Or.inl rfl) (by decide) (by decide) ⟨rfl, s3, I7, J7, h7, ?_, fun q => absurd (show false = true from q) (by decide), hsn6.trans hsn7, (hk4'.trans (hk6.mono (by decide))).trans (hk7.mono (by decide)), hs3', hf6.trans hf7⟩
          refine MT.dts hT7 (fun q hq => ?_)
          show (if q = tps pn lev then true else gchg (pg q) kp) = gchg (va_up pg (tps pn lev) (tchGo (pg (tps pn lev)) v o1 o2 co) q) kp
          by_cases hqp : q = tps pn lev
          · rw [if_pos hqp, hqp, va_up_self, gchg_go _ _ _ _ (by omega) ho1 hch]
          · rw [if_neg hqp, va_up_ne _ _ hqp]
        · show MT s3 I6 J3 (va_up pg (tps pn lev) ((pg (tps pn lev)).1, (pg (tps pn lev)).2.1, (pg (tps pn lev)).2.2.1, gend (gend (pg (tps pn lev)).2.2.2 o1 v) o2 v ++ gtk co v 0 0)) made lat (va_up (fun q => gchg (pg q) kp) (tps pn lev) true) ro v
          rw [show gtk co v 0 0 = [] from rfl, List.append_nil]
          exact hT6
      have second : ∀ (X5 : qX) (I5 : Nat → Nat → Int32), MAt X5 m s3 I5 J3 → MT s3 I5 J3 (va_up pg (tps pn lev) ((pg (tps pn lev)).1, (pg (tps pn lev)).2.1, (pg (tps pn lev)).2.2.1, gend (pg (tps pn lev)).2.2.2 o1 v)) made lat (va_up (fun q => gchg (pg q) kp) (tps pn lev) true) ro v → mSn I J I5 J3 → mK [8] I4 J3 I5 J3 → qSame X X5 m (m + 30) →
          qV l s0 C m_M_change rm_M_change (fun r X' => r = some (.int (bI (false, va_up (pg, made, ro, o1, o2, co).1 (tps pn lev) (tchGo ((pg, made, ro, o1, o2, co).1 (tps pn lev)) v (pg, made, ro, o1, o2, co).2.2.2.1 (pg, made, ro, o1, o2, co).2.2.2.2.1 (pg, made, ro, o1, o2, co).2.2.2.2.2), (pg, made, ro, o1, o2, co).2).1)) ∧ ∃ s' I' J', MAt X' m s' I' J' ∧ MT s' I' J' (false, va_up (pg, made, ro, o1, o2, co).1 (tps pn lev) (tchGo ((pg, made, ro, o1, o2, co).1 (tps pn lev)) v (pg, made, ro, o1, o2, co).2.2.2.1 (pg, made, ro, o1, o2, co).2.2.2.2.1 (pg, made, ro, o1, o2, co).2.2.2.2.2), (pg, made, ro, o1, o2, co).2).2.1 (false, va_up (pg, made, ro, o1, o2, co).1 (tps pn lev) (tchGo ((pg, made, ro, o1, o2, co).1 (tps pn lev)) v (pg, made, ro, o1, o2, co).2.2.2.1 (pg, made, ro, o1, o2, co).2.2.2.2.1 (pg, made, ro, o1, o2, co).2.2.2.2.2), (pg, made, ro, o1, o2, co).2).2.2.1 lat (fun q => gchg ((false, va_up (pg, made, ro, o1, o2, co).1 (tps pn lev) (tchGo ((pg, made, ro, o1, o2, co).1 (tps pn lev)) v (pg, made, ro, o1, o2, co).2.2.2.1 (pg, made, ro, o1, o2, co).2.2.2.2.1 (pg, made, ro, o1, o2, co).2.2.2.2.2), (pg, made, ro, o1, o2, co).2).2.1 q) kp) (false, va_up (pg, made, ro, o1, o2, co).1 (tps pn lev) (tchGo ((pg, made, ro, o1, o2, co).1 (tps pn lev)) v (pg, made, ro, o1, o2, co).2.2.2.1 (pg, made, ro, o1, o2, co).2.2.2.2.1 (pg, made, ro, o1, o2, co).2.2.2.2.2), (pg, made, ro, o1, o2, co).2).2.2.2.1 v ∧ ((false, va_up (pg, made, ro, o1, o2, co).1 (tps pn lev) (tchGo ((pg, made, ro, o1, o2, co).1 (tps pn lev)) v (pg, made, ro, o1, o2, co).2.2.2.1 (pg, made, ro, o1, o2, co).2.2.2.2.1 (pg, made, ro, o1, o2, co).2.2.2.2.2), (pg, made, ro, o1, o2, co).2).1 = true → s' 28 = vA (tps pn (lev + 1)) (false, va_up (pg, made, ro, o1, o2, co).1 (tps pn lev) (tchGo ((pg, made, ro, o1, o2, co).1 (tps pn lev)) v (pg, made, ro, o1, o2, co).2.2.2.1 (pg, made, ro, o1, o2, co).2.2.2.2.1 (pg, made, ro, o1, o2, co).2.2.2.2.2), (pg, made, ro, o1, o2, co).2).2.2.2.2.1 ∧ s' 29 = vA (tps pn (lev + 1)) (false, va_up (pg, made, ro, o1, o2, co).1 (tps pn lev) (tchGo ((pg, made, ro, o1, o2, co).1 (tps pn lev)) v (pg, made, ro, o1, o2, co).2.2.2.1 (pg, made, ro, o1, o2, co).2.2.2.2.1 (pg, made, ro, o1, o2, co).2.2.2.2.2), (pg, made, ro, o1, o2, co).2).2.2.2.2.2.1 ∧ mCo s' I' J' (false, va_up (pg, made, ro, o1, o2, co).1 (tps pn lev) (tchGo ((pg, made, ro, o1, o2, co).1 (tps pn lev)) v (pg, made, ro, o1, o2, co).2.2.2.1 (pg, made, ro, o1, o2, co).2.2.2.2.1 (pg, made, ro, o1, o2, co).2.2.2.2.2), (pg, made, ro, o1, o2, co).2).2.2.2.2.2.2) ∧ mSn I J I' J' ∧ mK [1, 2, 3, 4, 5, 6, 7, 8, 9, 10, 19, 20, 21, 22] I J I' J' ∧ sK [10, 28, 29, 30, 33] s s' ∧ qSame X X' m (m + 30)) (fun _ _ => False) 0 0 X5 144 [(0, .ref m), (1, .int (nI (tps pn lev))), (2, .int (nI v)), (3, .int (bI (decide (tps pn lev = ro v))))] [] := by
        intro X5 I5 h5 hT5 hsn5 hk5 hf5
        obtain ⟨y0, -⟩ := id h5
        refine v_aload_n i_M_change_144 rfl ?_
        refine v_get B i_M_change_145 (by first | assumption | exact qset_self _ _ _ | (rw [qset_ne _ _ (by omega)]; first | assumption | exact qset_self _ _ _ | (rw [qset_ne _ _ (by omega)]; first | assumption | exact qset_self _ _ _ | (rw [qset_ne _ _ (by omega)]; first | assumption | exact qset_self _ _ _ | (rw [qset_ne _ _ (by omega)]; first | assumption | exact qset_self _ _ _ | (rw [qset_ne _ _ (by omega)]; first | assumption | exact qset_self _ _ _ | (rw [qset_ne _ _ (by omega)]; first | assumption | exact qset_self _ _ _))))))) rfl ?_
        rw [g23]
        refine v_if_lt (tgt := 161) i_M_change_148 rfl (fun q148 => ?_) (fun q148 => ?_)
        · have ho := (vA_neg (by omega) ho2').mp q148
          refine fin X5 I5 h5 ?_ hsn5 hk5 hf5
          rw [ho]
          exact hT5
        cases ho : o2 with
        | none => rw [ho] at q148; exact absurd (show (-1 : Int32) < 0 from by decide) q148
        | some t =>
          have ht := ho2 t ho
          rw [ho] at g23
          refine v_aload_n i_M_change_151 rfl ?_
          refine v_get B i_M_change_152 (by first | assumption | exact qset_self _ _ _ | (rw [qset_ne _ _ (by omega)]; first | assumption | exact qset_self _ _ _ | (rw [qset_ne _ _ (by omega)]; first | assumption | exact qset_self _ _ _ | (rw [qset_ne _ _ (by omega)]; first | assumption | exact qset_self _ _ _ | (rw [qset_ne _ _ (by omega)]; first | assumption | exact qset_self _ _ _ | (rw [qset_ne _ _ (by omega)]; first | assumption | exact qset_self _ _ _ | (rw [qset_ne _ _ (by omega)]; first | assumption | exact qset_self _ _ _))))))) rfl ?_
          refine v_aload_n i_M_change_155 rfl ?_
          refine v_get B i_M_change_156 (by first | assumption | exact qset_self _ _ _ | (rw [qset_ne _ _ (by omega)]; first | assumption | exact qset_self _ _ _ | (rw [qset_ne _ _ (by omega)]; first | assumption | exact qset_self _ _ _ | (rw [qset_ne _ _ (by omega)]; first | assumption | exact qset_self _ _ _ | (rw [qset_ne _ _ (by omega)]; first | assumption | exact qset_self _ _ _ | (rw [qset_ne _ _ (by omega)]; first | assumption | exact qset_self _ _ _ | (rw [qset_ne _ _ (by omega)]; first | assumption | exact qset_self _ _ _))))))) rfl ?_
          refine v_iload_n i_M_change_159 rfl ?_
          rw [g23, show vA (tps pn lev) (some t) = nI (16 * tps pn lev + t) from rfl]
          refine v_mist B h5 (a := 8) (N := 8192) (j := 16 * tps pn lev + t) rfl rfl (by decide) (by decide) (rfl) (by omega) (by omega) i_M_change_160 (fun X6 h6 f6 => ?_)
          have hlen : t < ((va_up pg (tps pn lev) ((pg (tps pn lev)).1, (pg (tps pn lev)).2.1, (pg (tps pn lev)).2.2.1, gend (pg (tps pn lev)).2.2.2 o1 v)) (tps pn lev)).2.2.2.length := by
            rw [va_up_self]
            show t < (gend (pg (tps pn lev)).2.2.2 o1 v).length
            rw [gend_len]; exact ht
          obtain ⟨hT6, hsn6⟩ := hT5.ends (i := t) hp hlen (v := v) (by omega)
          rw [va_up2, va_up_self] at hT6
          rw [ho] at fin
          exact fin X6 _ h6 hT6 (hsn5.trans hsn6) (hk5.int (by decide)) (hf5.trans f6)
      refine v_aload_n i_M_change_127 rfl ?_
      refine v_get B i_M_change_128 (by first | assumption | exact qset_self _ _ _ | (rw [qset_ne _ _ (by omega)]; first | assumption | exact qset_self _ _ _ | (rw [qset_ne _ _ (by omega)]; first | assumption | exact qset_self _ _ _ | (rw [qset_ne _ _ (by omega)]; first | assumption | exact qset_self _ _ _ | (rw [qset_ne _ _ (by omega)]; first | assumption | exact qset_self _ _ _ | (rw [qset_ne _ _ (by omega)]; first | assumption | exact qset_self _ _ _ | (rw [qset_ne _ _ (by omega)]; first | assumption | exact qset_self _ _ _))))))) rfl ?_
      rw [g13]
      refine v_if_lt (tgt := 144) i_M_change_131 rfl (fun q131 => ?_) (fun q131 => ?_)
      · have ho := (vA_neg (by omega) ho1').mp q131
        refine second X4 I4 h4 ?_ hsn4' (mK.rf _ _ _) hf4
        rw [ho]
        show MT s3 I4 J3 (va_up pg (tps pn lev) (pg (tps pn lev))) made lat (va_up (fun q => gchg (pg q) kp) (tps pn lev) true) ro v
        rw [show va_up pg (tps pn lev) (pg (tps pn lev)) = pg by funext q; unfold va_up; by_cases hq : q = tps pn lev <;> simp [hq]]
        exact hT4
      cases ho : o1 with
      | none => rw [ho] at q131; exact absurd (show (-1 : Int32) < 0 from by decide) q131
      | some t =>
        have ht := ho1 t ho
        rw [ho] at g13
        refine v_aload_n i_M_change_134 rfl ?_
        refine v_get B i_M_change_135 (by first | assumption | exact qset_self _ _ _ | (rw [qset_ne _ _ (by omega)]; first | assumption | exact qset_self _ _ _ | (rw [qset_ne _ _ (by omega)]; first | assumption | exact qset_self _ _ _ | (rw [qset_ne _ _ (by omega)]; first | assumption | exact qset_self _ _ _ | (rw [qset_ne _ _ (by omega)]; first | assumption | exact qset_self _ _ _ | (rw [qset_ne _ _ (by omega)]; first | assumption | exact qset_self _ _ _ | (rw [qset_ne _ _ (by omega)]; first | assumption | exact qset_self _ _ _))))))) rfl ?_
        refine v_aload_n i_M_change_138 rfl ?_
        refine v_get B i_M_change_139 (by first | assumption | exact qset_self _ _ _ | (rw [qset_ne _ _ (by omega)]; first | assumption | exact qset_self _ _ _ | (rw [qset_ne _ _ (by omega)]; first | assumption | exact qset_self _ _ _ | (rw [qset_ne _ _ (by omega)]; first | assumption | exact qset_self _ _ _ | (rw [qset_ne _ _ (by omega)]; first | assumption | exact qset_self _ _ _ | (rw [qset_ne _ _ (by omega)]; first | assumption | exact qset_self _ _ _ | (rw [qset_ne _ _ (by omega)]; first | assumption | exact qset_self _ _ _))))))) rfl ?_
        refine v_iload_n i_M_change_142 rfl ?_
        rw [g13, show vA (tps pn lev) (some t) = nI (16 * tps pn lev + t) from rfl]
        refine v_mist B h4 (a := 8) (N := 8192) (j := 16 * tps pn lev + t) rfl rfl (by decide) (by decide) (rfl) (by omega) (by omega) i_M_change_143 (fun X5 h5 f5 => ?_)
        obtain ⟨hT5, hsn5⟩ := hT4.ends (i := t) hp ht (v := v) (by omega)
        rw [ho] at second
        exact second X5 _ h5 hT5 (hsn4'.trans hsn5) ((mK.rf _ _ _).int (by decide)) (hf4.trans f5)
    refine v_iload_n i_M_change_99 rfl ?_
    refine v_if_ne (tgt := 111) i_M_change_100 rfl (fun q100 => ?_) (fun q100 => ?_)
    · exact room (Or.inl (of_decide_eq_true (bI_ne q100)))
    refine v_aload_n i_M_change_103 rfl ?_
    refine v_get B i_M_change_104 (by first | assumption | exact qset_self _ _ _ | (rw [qset_ne _ _ (by omega)]; first | assumption | exact qset_self _ _ _ | (rw [qset_ne _ _ (by omega)]; first | assumption | exact qset_self _ _ _ | (rw [qset_ne _ _ (by omega)]; first | assumption | exact qset_self _ _ _ | (rw [qset_ne _ _ (by omega)]; first | assumption | exact qset_self _ _ _ | (rw [qset_ne _ _ (by omega)]; first | assumption | exact qset_self _ _ _ | (rw [qset_ne _ _ (by omega)]; first | assumption | exact qset_self _ _ _))))))) rfl ?_
    refine v_iconst (v := 2) i_M_change_107 rfl ?_
    rw [r1]
    refine v_icmp_le (tgt := 201) i_M_change_108 rfl (fun q108 => ?_) (fun q108 => ?_)
    · refine remake nA (fun q => ?_)
      rcases q.1 with q | q
      · rw [decide_eq_true q] at q100; exact absurd q100 (by decide)
      · have := (nI_leI (b := 2) (by omega) (by omega)).mp q108
        omega
    · refine room (Or.inr ?_)
      have : ¬ (tchL pn lat lev (pg, made, ro, o1, o2, co)).length ≤ 2 := fun q => q108 (nI_le (b := 2) q (by omega))
      omega
  refine v_iload_n i_M_change_56 rfl ?_
  refine v_if_eq (tgt := 99) i_M_change_57 rfl (fun q57 => ?_) (fun q57 => ?_)
  · refine rest (fun q => ?_)
    have := of_decide_eq_false (bI_0.mp q57)
    exact this q.1
  have hr : tps pn lev = ro v := of_decide_eq_true (bI_ne q57)
  refine v_aload_n i_M_change_60 rfl ?_
  refine v_get B i_M_change_61 (by first | assumption | exact qset_self _ _ _ | (rw [qset_ne _ _ (by omega)]; first | assumption | exact qset_self _ _ _ | (rw [qset_ne _ _ (by omega)]; first | assumption | exact qset_self _ _ _ | (rw [qset_ne _ _ (by omega)]; first | assumption | exact qset_self _ _ _ | (rw [qset_ne _ _ (by omega)]; first | assumption | exact qset_self _ _ _ | (rw [qset_ne _ _ (by omega)]; first | assumption | exact qset_self _ _ _ | (rw [qset_ne _ _ (by omega)]; first | assumption | exact qset_self _ _ _))))))) rfl ?_
  refine v_iload_n i_M_change_64 rfl ?_
  refine v_iald B (by first | assumption | exact qset_self _ _ _ | (rw [qset_ne _ _ (by omega)]; first | assumption | exact qset_self _ _ _ | (rw [qset_ne _ _ (by omega)]; first | assumption | exact qset_self _ _ _ | (rw [qset_ne _ _ (by omega)]; first | assumption | exact qset_self _ _ _ | (rw [qset_ne _ _ (by omega)]; first | assumption | exact qset_self _ _ _ | (rw [qset_ne _ _ (by omega)]; first | assumption | exact qset_self _ _ _ | (rw [qset_ne _ _ (by omega)]; first | assumption | exact qset_self _ _ _))))))) rfl (by omega) (by omega) i_M_change_65 ?_
  rw [e1, hlv]
  refine v_if_le (tgt := 99) i_M_change_66 rfl (fun q66 => ?_) (fun q66 => ?_)
  · exact rest (fun q => nI_nle q.2.1 (by omega) q66)
  refine v_aload_n i_M_change_69 rfl ?_
  refine v_get B i_M_change_70 (by first | assumption | exact qset_self _ _ _ | (rw [qset_ne _ _ (by omega)]; first | assumption | exact qset_self _ _ _ | (rw [qset_ne _ _ (by omega)]; first | assumption | exact qset_self _ _ _ | (rw [qset_ne _ _ (by omega)]; first | assumption | exact qset_self _ _ _ | (rw [qset_ne _ _ (by omega)]; first | assumption | exact qset_self _ _ _ | (rw [qset_ne _ _ (by omega)]; first | assumption | exact qset_self _ _ _ | (rw [qset_ne _ _ (by omega)]; first | assumption | exact qset_self _ _ _))))))) rfl ?_
  refine v_iconst (v := 1) i_M_change_73 rfl ?_
  rw [r1]
  refine v_icmp_ne (tgt := 99) i_M_change_74 rfl (fun q74 => ?_) (fun q74 => ?_)
  · refine rest (fun q => q74 ?_)
    rw [q.2.2]; rfl
  have hAA : tchA pn lat v lev (pg, made, ro, o1, o2, co) := by
    refine ⟨hr, ?_, (nI_eq (b := 1) (by omega) (by omega)).mp q74⟩
    rcases Nat.eq_zero_or_pos lev with q | q
    · subst q; exact absurd (by decide) q66
    · exact q
  obtain ⟨c, hc, hcw⟩ := hA hAA
  dsimp only at hc
  obtain ⟨-, kw⟩ := r3 0 (by rw [hAA.2.2]; decide)
  rw [tch, if_pos hAA, hcw, tpn_lN (by omega)]
  refine v_aload_n i_M_change_77 rfl ?_
  refine v_get B i_M_change_78 (by first | assumption | exact qset_self _ _ _ | (rw [qset_ne _ _ (by omega)]; first | assumption | exact qset_self _ _ _ | (rw [qset_ne _ _ (by omega)]; first | assumption | exact qset_self _ _ _ | (rw [qset_ne _ _ (by omega)]; first | assumption | exact qset_self _ _ _ | (rw [qset_ne _ _ (by omega)]; first | assumption | exact qset_self _ _ _ | (rw [qset_ne _ _ (by omega)]; first | assumption | exact qset_self _ _ _ | (rw [qset_ne _ _ (by omega)]; first | assumption | exact qset_self _ _ _))))))) rfl ?_
  refine v_iload_n i_M_change_81 rfl ?_
  refine v_iload_n i_M_change_82 rfl ?_
  refine v_mist B h4 (a := 3) (N := 512) (j := tps pn lev) rfl rfl (by decide) (by decide) (rfl) (by omega) (by omega) i_M_change_83 (fun X5 h5 f5 => ?_)
  obtain ⟨hT5, hsn5⟩ := hT4.die (v := v) hp (by omega)
  obtain ⟨y0, -⟩ := id h5
  have y22 : X5.1 (m + 22) = some (.inl (1, 40, .inr (.inl (J3 22)))) := h5.2 22 (by decide) (by decide)
  refine v_aload_n i_M_change_84 rfl ?_
  refine v_get B i_M_change_85 (by first | assumption | exact qset_self _ _ _ | (rw [qset_ne _ _ (by omega)]; first | assumption | exact qset_self _ _ _ | (rw [qset_ne _ _ (by omega)]; first | assumption | exact qset_self _ _ _ | (rw [qset_ne _ _ (by omega)]; first | assumption | exact qset_self _ _ _ | (rw [qset_ne _ _ (by omega)]; first | assumption | exact qset_self _ _ _ | (rw [qset_ne _ _ (by omega)]; first | assumption | exact qset_self _ _ _ | (rw [qset_ne _ _ (by omega)]; first | assumption | exact qset_self _ _ _))))))) rfl ?_
  refine v_iload_n i_M_change_88 rfl ?_
  refine v_aload_n i_M_change_89 rfl ?_
  refine v_get B i_M_change_90 (by first | assumption | exact qset_self _ _ _ | (rw [qset_ne _ _ (by omega)]; first | assumption | exact qset_self _ _ _ | (rw [qset_ne _ _ (by omega)]; first | assumption | exact qset_self _ _ _ | (rw [qset_ne _ _ (by omega)]; first | assumption | exact qset_self _ _ _ | (rw [qset_ne _ _ (by omega)]; first | assumption | exact qset_self _ _ _ | (rw [qset_ne _ _ (by omega)]; first | assumption | exact qset_self _ _ _ | (rw [qset_ne _ _ (by omega)]; first | assumption | exact qset_self _ _ _))))))) rfl ?_
  refine v_iconst (v := 0) i_M_change_93 rfl ?_
  refine v_lald (j := 0) B y22 rfl (by omega) (by omega) i_M_change_94 ?_
  rw [kw, hcw]
  refine v_l2i i_M_change_95 ?_
  rw [lN_i]
  refine v_mist B h5 (a := 10) (N := 5000) (j := v) rfl rfl (by decide) (by decide) (rfl) (by omega) (by omega) i_M_change_96 (fun X6 h6 f6 => ?_)
  have hT6 := hT5.root (v := v) (x := c) (Nat.le_refl _) (by omega)
  refine v_iconst (v := 0) i_M_change_97 rfl ?_
  refine v_zret i_M_change_98 rfl (Or.inl rfl) (by decide) (by decide) ⟨rfl, s3, _, J3, h6, ?_, fun q => absurd (show false = true from q) (by decide), (hsn4'.trans hsn5).trans (mSn.keep ((mK.rf [10] _ J3).int (by decide)) (by decide)), (hk4'.int (by decide)).int (by decide), hs3', (hf4.trans f5).trans f6⟩
  refine MT.dts hT6 (fun q hq => ?_)
  show (if q = tps pn lev then true else gchg (pg q) kp) = gchg (va_up pg (tps pn lev) (gdie (pg (tps pn lev)) v) q) kp
  by_cases hqp : q = tps pn lev
  · rw [if_pos hqp, hqp, va_up_self, gchg_die _ (by omega)]
  · rw [if_neg hqp, va_up_ne _ _ hqp]
end MD
