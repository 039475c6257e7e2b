/-! the reference as a whole: its tree, what it kept, its log and what waits; put and remove -/
def mrc (a k : Int32) (w : Int64) (o : Int32 × Int64 × Bool) : Prop := a = bI o.2.2 ∧ k = o.1 ∧ w = o.2.1
def MD (s : Nat → Int32) (I : Nat → Nat → Int32) (J : Nat → Nat → Int64) (pgK : Nat → Pg) (madeK lat : Nat) (D : Dk) (op : Nat → Int32 × Int64 × Bool) : Prop :=
  (s 11 = nI madeK ∧ (1 ≤ madeK ∧ madeK ≤ 256) ∧ ∀ p, p < madeK → mPg I J (256 + p) (pgK p)) ∧
  (s 13 = nI D.2.2.1 ∧ s 20 = nI D.1.length ∧ s 21 = nI (if D.2.2.2.2 = true then 0 else lat - dlat D) ∧ s 25 = bI D.2.2.2.2 ∧ s 26 = (if D.2.2.2.2 = true then -1 else vO D.2.2.2.1) ∧ s 27 = nI D.2.1) ∧
  (D.1.length ≤ 40 ∧ oLt D.2.2.2.1 (2 ^ 31) ∧ dlat D ≤ lat) ∧
  (∀ b, b < D.1.length → I 11 b = nI (lg D.1 b).1 ∧ (lg D.1 b).1 ≤ 4 ∧ I 12 b = bI (lg D.1 b).2 ∧ ∀ i, i < (lg D.1 b).1 → mrc (I 13 (4 * b + i)) (I 14 (4 * b + i)) (J 15 (4 * b + i)) (op (D.2.2.1 + dsn D.1 b + i))) ∧
  (D.2.2.2.2 = false → ∀ i, i < lat - dlat D → mrc (I 16 i) (I 17 i) (J 18 i) (op (dlat D + i)))
def MR (X : qX) (m : Nat) (cd : Int32) (pg : Nat → Pg) (made lat : Nat) (ro : Nat → Nat) (pgK : Nat → Pg) (madeK : Nat) (D : Dk) (op : Nat → Int32 × Int64 × Bool) : Prop :=
  ∃ s I J, MAt X m s I J ∧ s 0 = cd ∧ MT s I J pg made lat (fun q => gchg (pg q) D.2.2.1) ro lat ∧ MD s I J pgK madeK lat D op
/-- numbers that the disk's part hangs on -/
theorem MD.keep {s s' : Nat → Int32} {I I' : Nat → Nat → Int32} {J J' : Nat → Nat → Int64} {pgK : Nat → Pg} {madeK lat : Nat} {D : Dk} {op : Nat → Int32 × Int64 × Bool} {A S : List Nat} (h : MD s I J pgK madeK lat D op) (hsn : mSn I J I' J') (hk : mK A I J I' J') (hs : sK S s s')
    (hA : (A.contains 11 || A.contains 12 || A.contains 13 || A.contains 14 || A.contains 15 || A.contains 16 || A.contains 17 || A.contains 18) = false) (hS : (S.contains 11 || S.contains 13 || S.contains 20 || S.contains 21 || S.contains 25 || S.contains 26 || S.contains 27) = false) : MD s' I' J' pgK madeK lat D op := by
  simp only [Bool.or_eq_false_iff] at hA hS
  have f : ∀ (A : List Nat) a, A.contains a = false → a ∉ A := fun A a ha q => by rw [List.contains_iff_mem.mpr q] at ha; cases ha
  obtain ⟨⟨⟨⟨⟨⟨⟨x11, x12⟩, x13⟩, x14⟩, x15⟩, x16⟩, x17⟩, x18⟩ := hA
  obtain ⟨⟨⟨⟨⟨⟨y11, y13⟩, y20⟩, y21⟩, y25⟩, y26⟩, y27⟩ := hS
  obtain ⟨⟨a1, a2, a3⟩, ⟨b1, b2, b3, b4, b5, b6⟩, c, d, e⟩ := h
  refine ⟨⟨by rw [hs 11 (f _ _ y11)]; exact a1, a2, fun p hp => hsn _ _ (by omega) (by omega) (a3 p hp)⟩, ⟨by rw [hs 13 (f _ _ y13)]; exact b1, by rw [hs 20 (f _ _ y20)]; exact b2, by rw [hs 21 (f _ _ y21)]; exact b3, by rw [hs 25 (f _ _ y25)]; exact b4, by rw [hs 26 (f _ _ y26)]; exact b5, by rw [hs 27 (f _ _ y27)]; exact b6⟩, c, fun b hb => ?_, fun hd i hi => ?_⟩
  · rw [(hk 11 (f _ _ x11)).1, (hk 12 (f _ _ x12)).1, (hk 13 (f _ _ x13)).1, (hk 14 (f _ _ x14)).1, (hk 15 (f _ _ x15)).2]
    exact d b hb
  · rw [(hk 16 (f _ _ x16)).1, (hk 17 (f _ _ x17)).1, (hk 18 (f _ _ x18)).2]
    exact e hd i hi
theorem dsn_mono {b : Lg} : ∀ {i n : Nat}, i < n → dsn b i + (lg b i).1 ≤ dsn b n
  | i, 0, h => by omega
  | i, n + 1, h => by
    by_cases q : i = n
    · subst q; exact Nat.le_refl _
    · have := dsn_mono (b := b) (i := i) (n := n) (by omega)
      rw [dsn]; omega
section MS2
variable {X X' : qX} {m : Nat} {s : Nat → Int32} {I : Nat → Nat → Int32} {J : Nat → Nat → Int64} {cd : Int32}
variable {pg : Nat → Pg} {made lat : Nat} {ro : Nat → Nat} {pgK : Nat → Pg} {madeK : Nat} {D : Dk} {op : Nat → Int32 × Int64 × Bool}
variable {l : Launch} {s0 : State} {C : qC}
/-- a reading leaves it as it was -/
theorem MR.rd (hT : MT s I J pg made lat (fun q => gchg (pg q) D.2.2.1) ro lat) (hD : MD s I J pgK madeK lat D op) (h : mRO X X' m s I J cd) : MR X' m cd pg made lat ro pgK madeK D op := by
  obtain ⟨s', I', J', h1, h2, h3, h4, h5⟩ := h
  exact ⟨s', I', J', h1, h2, hT.keep h3 h4 (by decide) (by decide), hD.keep (mSn.keep h3 (by decide)) h3 h4 (by decide) (by decide)⟩
/-- a record more -/
theorem MD.more (h : MD s I J pgK madeK lat D op) (hd : D.2.2.2.2 = false) (o : Int32 × Int64 × Bool) : MD (upd s 21 (nI (lat - dlat D + 1))) (mIu (mIu I 16 (lat - dlat D) (bI o.2.2)) 17 (lat - dlat D) o.1) (mJu J 18 (lat - dlat D) o.2.1) pgK madeK (lat + 1) D (va_up op lat o) := by
  obtain ⟨⟨a1, a2, a3⟩, ⟨b1, b2, b3, b4, b5, b6⟩, ⟨c1, c2, c3⟩, d, e⟩ := h
  have hk : mK [16, 17, 18] I J (mIu (mIu I 16 (lat - dlat D) (bI o.2.2)) 17 (lat - dlat D) o.1) (mJu J 18 (lat - dlat D) o.2.1) := (((mK.rf _ _ _).int (by decide)).int (by decide)).long (by decide)
  refine ⟨⟨by rw [pk_un (by decide)]; exact a1, a2, fun p hp => (a3 p hp).keep hk (by decide)⟩, ⟨by rw [pk_un (by decide)]; exact b1, by rw [pk_un (by decide)]; exact b2, ?_, by rw [pk_un (by decide)]; exact b4, by rw [pk_un (by decide)]; exact b5, by rw [pk_un (by decide)]; exact b6⟩, ⟨c1, c2, by omega⟩, fun b hb => ?_, fun _ i hi => ?_⟩
  · rw [pk_us, hd, if_neg (by decide), show lat + 1 - dlat D = lat - dlat D + 1 by omega]
  · rw [(hk 11 (by decide)).1, (hk 12 (by decide)).1, (hk 13 (by decide)).1, (hk 14 (by decide)).1, (hk 15 (by decide)).2]
    obtain ⟨d1, d2, d3, d4⟩ := d b hb
    refine ⟨d1, d2, d3, fun i hi => ?_⟩
    have := dsn_mono (b := D.1) hb
    have e1 : dlat D = D.2.2.1 + dsn D.1 D.1.length := rfl
    rw [va_up_ne _ _ (by omega)]
    exact d4 i hi
  · by_cases q : i = lat - dlat D
    · subst q
      rw [mIu_ne (by decide), mIu_self, pk_us, mIu_self, pk_us, mJu_self, show dlat D + (lat - dlat D) = lat by omega, va_up_self]
      exact ⟨rfl, rfl, if_pos rfl⟩
    · rw [mIu_ne (by decide), mIu_self, pk_un q, mIu_self, pk_un q, mIu_ne (by decide), mJu_self, va_up_ne _ _ (by omega)]
      have := e hd i (by omega)
      exact ⟨this.1, this.2.1, (if_neg q).trans this.2.2⟩
abbrev rfs (pg : Nat → Pg) (made lat : Nat) (ro : Nat → Nat) : Bool := decide (256 - made < 2 * ((pg (ro lat)).1 + 1) + 1)
theorem c_M_put (B : qB l s0 C) (h : MR X m cd pg made lat ro pgK madeK D op) (hkp : D.2.2.1 ≤ lat) (hlat : lat < 3999) (hr0 : ro lat < made) (hl16 : ∀ p, p < made → (pg p).1 < 17) (k : Int32) (w : Int64) (hd : mdOK pg made lat k 16 (ro lat))
    (hok : rfs pg made lat ro = false → mupOK (tdes pg made ro (fun _ => none) lat k).2.2 lat (lat + 1) k 16 0 (tup0 pg made lat ro (fun _ => none) k w true)) :
    qMet l s0 C m_M_put rm_M_put [.ref m, .int k, .long w] X (fun r X' => (D.2.2.2.2 = true ∧ MR X' m 1 pg made lat ro pgK madeK D op ∨ D.2.2.2.2 = false ∧ rfs pg made lat ro = true ∧ MR X' m 2 pg made lat ro pgK madeK D op ∨ D.2.2.2.2 = false ∧ rfs pg made lat ro = false ∧ r = some (.int (nI (lat + 1))) ∧ MR X' m 0 (yU pg made lat ro (k, w, true)).1 (yU pg made lat ro (k, w, true)).2.1 (lat + 1) (yU pg made lat ro (k, w, true)).2.2.1 pgK madeK D (va_up op lat (k, w, true))) ∧ (∃ z, r = some (.int z)) ∧ qSame X X' m (m + 30)) (fun _ _ => False) := by
  obtain ⟨s, I, J, h, hcd, hT, hD⟩ := h
  have hb := hD.2.1.2.2.2.1
  have hT' := hT
  obtain ⟨h0, -⟩ := id h
  refine q_of (by decide +kernel) (Nat.le_of_ble_eq_true rfl) ?_
  refine v_L (L' := [(0, .ref m), (1, .int k), (2, .long w)]) rfl ?_
  have main : ∀ f : Bool, f = (!D.2.2.2.2 && rfs pg made lat ro) → qV l s0 C m_M_put rm_M_put (fun r X' => (D.2.2.2.2 = true ∧ MR X' m 1 pg made lat ro pgK madeK D op ∨ D.2.2.2.2 = false ∧ rfs pg made lat ro = true ∧ MR X' m 2 pg made lat ro pgK madeK D op ∨ D.2.2.2.2 = false ∧ rfs pg made lat ro = false ∧ r = some (.int (nI (lat + 1))) ∧ MR X' m 0 (yU pg made lat ro (k, w, true)).1 (yU pg made lat ro (k, w, true)).2.1 (lat + 1) (yU pg made lat ro (k, w, true)).2.2.1 pgK madeK D (va_up op lat (k, w, true))) ∧ (∃ z, r = some (.int z)) ∧ qSame X X' m (m + 30)) (fun _ _ => False) 0 0 X 24 [(0, .ref m), (1, .int k), (2, .long w)] [.int (bI f), .int (bI D.2.2.2.2), .ref m] := by
    intro f hfe
    refine v_iconst (v := 0) i_M_put_24 rfl ?_
    refine v_iconst (v := 0) i_M_put_25 rfl ?_
    refine v_inv B i_M_put_26 kn_m_M_fails (c_M_fails B h D.2.2.2.2 f false false) h0 rfl rfl (Nat.le_of_ble_eq_true rfl) ⟨by decide, by decide, by first | decide | (simp; omega), by first | decide | (simp; omega)⟩ rfl (fun r X' hq => ?_) (fun _ _ h => False.elim h)
    obtain ⟨rfl, h1, f1⟩ := hq
    have ho := mRO.of h1 f1
    obtain ⟨k0, -⟩ := id h1
    cases hdn : D.2.2.2.2 with
    | true =>
      rw [hdn] at ho
      refine v_if_eq (tgt := 34) i_M_put_29 rfl (fun q => absurd q (by simp [bI])) (fun _ => ?_)
      refine v_iconst (v := 0) i_M_put_32 rfl ?_
      exact v_iret i_M_put_33 rfl (by decide) (by decide) ⟨Or.inl ⟨rfl, MR.rd hT hD ho⟩, ⟨_, rfl⟩, f1⟩
    | false =>
      rw [hdn, Bool.not_false, Bool.true_and] at hfe
      rw [hdn] at ho h1
      cases hrf : rfs pg made lat ro with
      | true =>
        rw [hrf] at hfe
        subst hfe
        refine v_if_eq (tgt := 34) i_M_put_29 rfl (fun q => absurd q (by decide)) (fun _ => ?_)
        refine v_iconst (v := 0) i_M_put_32 rfl ?_
        exact v_iret i_M_put_33 rfl (by decide) (by decide) ⟨Or.inr (Or.inl ⟨rfl, rfl, MR.rd hT hD ho⟩), ⟨_, rfl⟩, f1⟩
      | false =>
        rw [hrf] at hfe
        subst hfe
        refine v_if_eq (tgt := 34) i_M_put_29 rfl (fun _ => ?_) (fun q => absurd rfl q)
        have hs1 : sK [0] s (upd s 0 (mcode false false false false)) := (sK.rf _ _).set (by decide)
        have hT1 := hT.keep (A := []) (mK.rf _ _ _) hs1 (by decide) (by decide)
        have hD1 := hD.keep (mSn.rf _ _) (mK.rf [] _ _) hs1 (by decide) (by decide)
        have hc1 : upd s 0 (mcode false false false false) 0 = 0 := by rw [pk_us]; rfl
        generalize upd s 0 (mcode false false false false) = s1 at h1 hs1 hT1 hD1 hc1
        refine v_aload_n i_M_put_34 rfl ?_
        refine v_iload_n i_M_put_35 rfl ?_
        refine v_iconst (v := 1) i_M_put_36 rfl ?_
        refine v_lload_n i_M_put_37 rfl ?_
        refine v_inv B i_M_put_38 kn_m_M_update (c_M_update (b := true) B h1 hT1 hkp hlat hr0 hl16 hd (hok hrf)) k0 rfl rfl (Nat.le_of_ble_eq_true rfl) ⟨by decide, by decide, by first | decide | (simp; omega), by first | decide | (simp; omega)⟩ rfl (fun r X' hq => ?_) (fun _ _ h => False.elim h)
        obtain ⟨rfl, s2, I2, J2, h2, hT2, hsn2, hk2, hs2, hf2⟩ := hq
        have hD2 := hD1.keep hsn2 hk2 hs2 (by decide) (by decide)
        obtain ⟨b0, -⟩ := id h2
        have e21 : s2 21 = nI (lat - dlat D) := by rw [hD2.2.1.2.2.1, hdn, if_neg (by decide)]
        refine v_aload_n i_M_put_41 rfl ?_
        refine v_iconst (v := 1) i_M_put_42 rfl ?_
        refine v_iload_n i_M_put_43 rfl ?_
        refine v_lload_n i_M_put_44 rfl ?_
        refine v_inv B i_M_put_45 kn_m_M_record (c_M_record B h2 e21 (by omega) true k w) b0 rfl rfl (Nat.le_of_ble_eq_true rfl) ⟨by decide, by decide, by first | decide | (simp; omega), by first | decide | (simp; omega)⟩ rfl (fun r X' hq => ?_) (fun _ _ h => False.elim h)
        obtain ⟨rfl, h3, f3⟩ := hq
        obtain ⟨c0, -⟩ := id h3
        have hD3 := hD2.more hdn (k, w, true)
        have hk3 : mK [16, 17, 18] I2 J2 (mIu (mIu I2 16 (lat - dlat D) (bI true)) 17 (lat - dlat D) k) (mJu J2 18 (lat - dlat D) w) := (((mK.rf _ _ _).int (by decide)).int (by decide)).long (by decide)
        have hT3 := hT2.keep hk3 ((sK.rf [21] s2).set (j := 21) (x := nI (lat - dlat D + 1)) (by decide)) (by decide) (by decide)
        refine v_aload_n i_M_put_48 rfl ?_
        refine v_get B i_M_put_49 (by first | assumption | exact qset_self _ _ _ | (rw [qset_ne _ _ (by omega)]; first | assumption | exact qset_self _ _ _ | (rw [qset_ne _ _ (by omega)]; first | assumption | exact qset_self _ _ _ | (rw [qset_ne _ _ (by omega)]; first | assumption | exact qset_self _ _ _ | (rw [qset_ne _ _ (by omega)]; first | assumption | exact qset_self _ _ _ | (rw [qset_ne _ _ (by omega)]; first | assumption | exact qset_self _ _ _ | (rw [qset_ne _ _ (by omega)]; first | assumption | exact qset_self _ _ _))))))) rfl ?_
        rw [pk_un (by decide), hT2.2.2.1]
        refine v_iret i_M_put_52 rfl (by decide) (by decide) ⟨Or.inr (Or.inr ⟨rfl, rfl, rfl, _, _, _, h3, ?_, hT3, hD3⟩), ⟨_, rfl⟩, (f1.trans hf2).trans f3⟩
        rw [pk_un (by decide), hs2 0 (by decide)]; exact hc1
  refine v_aload_n i_M_put_0 rfl ?_
  refine v_aload_n i_M_put_1 rfl ?_
  refine v_get B i_M_put_2 (by first | assumption | exact qset_self _ _ _ | (rw [qset_ne _ _ (by omega)]; first | assumption | exact qset_self _ _ _ | (rw [qset_ne _ _ (by omega)]; first | assumption | exact qset_self _ _ _ | (rw [qset_ne _ _ (by omega)]; first | assumption | exact qset_self _ _ _ | (rw [qset_ne _ _ (by omega)]; first | assumption | exact qset_self _ _ _ | (rw [qset_ne _ _ (by omega)]; first | assumption | exact qset_self _ _ _ | (rw [qset_ne _ _ (by omega)]; first | assumption | exact qset_self _ _ _))))))) rfl ?_
  refine v_aload_n i_M_put_5 rfl ?_
  refine v_get B i_M_put_6 (by first | assumption | exact qset_self _ _ _ | (rw [qset_ne _ _ (by omega)]; first | assumption | exact qset_self _ _ _ | (rw [qset_ne _ _ (by omega)]; first | assumption | exact qset_self _ _ _ | (rw [qset_ne _ _ (by omega)]; first | assumption | exact qset_self _ _ _ | (rw [qset_ne _ _ (by omega)]; first | assumption | exact qset_self _ _ _ | (rw [qset_ne _ _ (by omega)]; first | assumption | exact qset_self _ _ _ | (rw [qset_ne _ _ (by omega)]; first | assumption | exact qset_self _ _ _))))))) rfl ?_
  rw [hb]
  refine v_if_ne (tgt := 23) i_M_put_9 rfl (fun q9 => ?_) (fun q9 => ?_)
  · have hdn := bI_ne q9
    refine v_iconst (v := 0) i_M_put_23 rfl ?_
    exact main false (by rw [hdn]; rfl)
  · have hdn := bI_0.mp q9
    refine v_aload_n i_M_put_12 rfl ?_
    refine v_inv B i_M_put_13 kn_m_M_isRefused (c_M_isRefused B h hT (Nat.le_refl _) hr0) h0 rfl rfl (Nat.le_of_ble_eq_true rfl) ⟨by decide, by decide, by first | decide | (simp; omega), by first | decide | (simp; omega)⟩ rfl (fun r X' hq => ?_) (fun _ _ h => False.elim h)
    obtain ⟨rfl, rfl⟩ := hq
    refine v_if_eq (tgt := 23) i_M_put_16 rfl (fun q16 => ?_) (fun q16 => ?_)
    · have hrf := bI_0.mp q16
      refine v_iconst (v := 0) i_M_put_23 rfl ?_
      exact main false (by rw [show rfs pg made lat ro = false from hrf, Bool.and_false])
    · have hrf := bI_ne q16
      refine v_iconst (v := 1) i_M_put_19 rfl ?_
      refine v_goto (tgt := 24) i_M_put_20 rfl ?_
      exact main true (by rw [show rfs pg made lat ro = true from hrf, hdn]; rfl)
abbrev thr (pg : Nat → Pg) (made lat : Nat) (ro : Nat → Nat) (k : Int32) : Bool := (gslot (pg (tlf pg made lat k 16 (ro lat))) k lat).isSome
theorem c_M_remove (B : qB l s0 C) (h : MR X m cd pg made lat ro pgK madeK D op) (hkp : D.2.2.1 ≤ lat) (hlat : lat < 3999) (hr0 : ro lat < made) (hl16 : ∀ p, p < made → (pg p).1 < 17) (k : Int32) (hd : mdOK pg made lat k 16 (ro lat))
    (hok : rfs pg made lat ro = false → thr pg made lat ro k = true → mupOK (tdes pg made ro (fun _ => none) lat k).2.2 lat (lat + 1) k 16 0 (tup0 pg made lat ro (fun _ => none) k 0 false)) :
    qMet l s0 C m_M_remove rm_M_remove [.ref m, .int k] X (fun r X' => (D.2.2.2.2 = true ∧ MR X' m 1 pg made lat ro pgK madeK D op ∨ D.2.2.2.2 = false ∧ thr pg made lat ro k = false ∧ MR X' m 2 pg made lat ro pgK madeK D op ∨ D.2.2.2.2 = false ∧ thr pg made lat ro k = true ∧ rfs pg made lat ro = true ∧ MR X' m 3 pg made lat ro pgK madeK D op ∨ D.2.2.2.2 = false ∧ thr pg made lat ro k = true ∧ rfs pg made lat ro = false ∧ r = some (.int (nI (lat + 1))) ∧ MR X' m 0 (yU pg made lat ro (k, 0, false)).1 (yU pg made lat ro (k, 0, false)).2.1 (lat + 1) (yU pg made lat ro (k, 0, false)).2.2.1 pgK madeK D (va_up op lat (k, 0, false))) ∧ (∃ z, r = some (.int z)) ∧ qSame X X' m (m + 30)) (fun _ _ => False) := by
  obtain ⟨s, I, J, h, hcd, hT, hD⟩ := h
  have hb := hD.2.1.2.2.2.1
  obtain ⟨t1, ⟨t2, t2b, t2c, t2d⟩, t3, t4, t5, t6⟩ := id hT
  have hlf := tlf_level t2b (fun p hp => (t4 p hp).1.2.2.2.1) hd
  have ho16 : oLt (gslot (pg (tlf pg made lat k 16 (ro lat))) k lat) 16 := fun t ht => by
    have := gslot_lt ht
    have := (t4 _ hlf.2).1.2.2.2.1
    omega
  have hneg := vA_lt0 (p := tlf pg made lat k 16 (ro lat)) (by omega) ho16
  obtain ⟨h0, -⟩ := id h
  refine q_of (by decide +kernel) (Nat.le_of_ble_eq_true rfl) ?_
  refine v_L (L' := [(0, .ref m), (1, .int k)]) rfl ?_
  have main : ∀ f g : Bool, f = (!D.2.2.2.2 && !(thr pg made lat ro k)) → g = (!D.2.2.2.2 && rfs pg made lat ro) → qV l s0 C m_M_remove rm_M_remove (fun r X' => (D.2.2.2.2 = true ∧ MR X' m 1 pg made lat ro pgK madeK D op ∨ D.2.2.2.2 = false ∧ thr pg made lat ro k = false ∧ MR X' m 2 pg made lat ro pgK madeK D op ∨ D.2.2.2.2 = false ∧ thr pg made lat ro k = true ∧ rfs pg made lat ro = true ∧ MR X' m 3 pg made lat ro pgK madeK D op ∨ D.2.2.2.2 = false ∧ thr pg made lat ro k = true ∧ rfs pg made lat ro = false ∧ r = some (.int (nI (lat + 1))) ∧ MR X' m 0 (yU pg made lat ro (k, 0, false)).1 (yU pg made lat ro (k, 0, false)).2.1 (lat + 1) (yU pg made lat ro (k, 0, false)).2.2.1 pgK madeK D (va_up op lat (k, 0, false))) ∧ (∃ z, r = some (.int z)) ∧ qSame X X' m (m + 30)) (fun _ _ => False) 0 0 X 48 [(0, .ref m), (1, .int k)] [.int (bI g), .int (bI f), .int (bI D.2.2.2.2), .ref m] := by
    intro f g hfe hge
    refine v_iconst (v := 0) i_M_remove_48 rfl ?_
    refine v_inv B i_M_remove_49 kn_m_M_fails (c_M_fails B h D.2.2.2.2 f g false) h0 rfl rfl (Nat.le_of_ble_eq_true rfl) ⟨by decide, by decide, by first | decide | (simp; omega), by first | decide | (simp; omega)⟩ rfl (fun r X' hq => ?_) (fun _ _ h => False.elim h)
    obtain ⟨rfl, h1, f1⟩ := hq
    have ho := mRO.of h1 f1
    obtain ⟨k0, -⟩ := id h1
    cases hdn : D.2.2.2.2 with
    | true =>
      rw [hdn] at ho
      refine v_if_eq (tgt := 57) i_M_remove_52 rfl (fun q => absurd q (by simp [bI])) (fun _ => ?_)
      refine v_iconst (v := 0) i_M_remove_55 rfl ?_
      exact v_iret i_M_remove_56 rfl (by decide) (by decide) ⟨Or.inl ⟨rfl, MR.rd hT hD ho⟩, ⟨_, rfl⟩, f1⟩
    | false =>
      rw [hdn, Bool.not_false, Bool.true_and] at hfe hge
      rw [hdn] at ho h1
      cases hth : thr pg made lat ro k with
      | false =>
        rw [hth] at hfe
        subst hfe
        refine v_if_eq (tgt := 57) i_M_remove_52 rfl (fun q => absurd q (by simp [bI])) (fun _ => ?_)
        refine v_iconst (v := 0) i_M_remove_55 rfl ?_
        exact v_iret i_M_remove_56 rfl (by decide) (by decide) ⟨Or.inr (Or.inl ⟨rfl, rfl, MR.rd hT hD ho⟩), ⟨_, rfl⟩, f1⟩
      | true =>
        rw [hth] at hfe
        subst hfe
        cases hrf : rfs pg made lat ro with
        | true =>
          rw [hrf] at hge
          subst hge
          refine v_if_eq (tgt := 57) i_M_remove_52 rfl (fun q => absurd q (by decide)) (fun _ => ?_)
          refine v_iconst (v := 0) i_M_remove_55 rfl ?_
          exact v_iret i_M_remove_56 rfl (by decide) (by decide) ⟨Or.inr (Or.inr (Or.inl ⟨rfl, rfl, rfl, MR.rd hT hD ho⟩)), ⟨_, rfl⟩, f1⟩
        | false =>
          rw [hrf] at hge
          subst hge
          refine v_if_eq (tgt := 57) i_M_remove_52 rfl (fun _ => ?_) (fun q => absurd rfl q)
          have hs1 : sK [0] s (upd s 0 (mcode false (!true) false false)) := (sK.rf _ _).set (by decide)
          have hT1 := hT.keep (A := []) (mK.rf _ _ _) hs1 (by decide) (by decide)
          have hD1 := hD.keep (mSn.rf _ _) (mK.rf [] _ _) hs1 (by decide) (by decide)
          have hc1 : upd s 0 (mcode false (!true) false false) 0 = 0 := by rw [pk_us]; rfl
          generalize upd s 0 (mcode false (!true) false false) = s1 at h1 hs1 hT1 hD1 hc1
          refine v_aload_n i_M_remove_57 rfl ?_
          refine v_iload_n i_M_remove_58 rfl ?_
          refine v_iconst (v := 0) i_M_remove_59 rfl ?_
          refine v_lconst (v := 0) i_M_remove_60 rfl ?_
          refine v_inv B i_M_remove_61 kn_m_M_update (c_M_update (b := false) B h1 hT1 hkp hlat hr0 hl16 hd (hok hrf hth)) k0 rfl rfl (Nat.le_of_ble_eq_true rfl) ⟨by decide, by decide, by first | decide | (simp; omega), by first | decide | (simp; omega)⟩ rfl (fun r X' hq => ?_) (fun _ _ h => False.elim h)
          obtain ⟨rfl, s2, I2, J2, h2, hT2, hsn2, hk2, hs2, hf2⟩ := hq
          have hD2 := hD1.keep hsn2 hk2 hs2 (by decide) (by decide)
          obtain ⟨b0, -⟩ := id h2
          have e21 : s2 21 = nI (lat - dlat D) := by rw [hD2.2.1.2.2.1, hdn, if_neg (by decide)]
          refine v_aload_n i_M_remove_64 rfl ?_
          refine v_iconst (v := 0) i_M_remove_65 rfl ?_
          refine v_iload_n i_M_remove_66 rfl ?_
          refine v_lconst (v := 0) i_M_remove_67 rfl ?_
          refine v_inv B i_M_remove_68 kn_m_M_record (c_M_record B h2 e21 (by omega) false k 0) b0 rfl rfl (Nat.le_of_ble_eq_true rfl) ⟨by decide, by decide, by first | decide | (simp; omega), by first | decide | (simp; omega)⟩ rfl (fun r X' hq => ?_) (fun _ _ h => False.elim h)
          obtain ⟨rfl, h3, f3⟩ := hq
          obtain ⟨c0, -⟩ := id h3
          have hD3 := hD2.more hdn (k, 0, false)
          have hk3 : mK [16, 17, 18] I2 J2 (mIu (mIu I2 16 (lat - dlat D) (bI false)) 17 (lat - dlat D) k) (mJu J2 18 (lat - dlat D) 0) := (((mK.rf _ _ _).int (by decide)).int (by decide)).long (by decide)
          have hT3 := hT2.keep hk3 ((sK.rf [21] s2).set (j := 21) (x := nI (lat - dlat D + 1)) (by decide)) (by decide) (by decide)
          refine v_aload_n i_M_remove_71 rfl ?_
          refine v_get B i_M_remove_72 (by first | assumption | exact qset_self _ _ _ | (rw [qset_ne _ _ (by omega)]; first | assumption | exact qset_self _ _ _ | (rw [qset_ne _ _ (by omega)]; first | assumption | exact qset_self _ _ _ | (rw [qset_ne _ _ (by omega)]; first | assumption | exact qset_self _ _ _ | (rw [qset_ne _ _ (by omega)]; first | assumption | exact qset_self _ _ _ | (rw [qset_ne _ _ (by omega)]; first | assumption | exact qset_self _ _ _ | (rw [qset_ne _ _ (by omega)]; first | assumption | exact qset_self _ _ _))))))) rfl ?_
          rw [pk_un (by decide), hT2.2.2.1]
          refine v_iret i_M_remove_75 rfl (by decide) (by decide) ⟨Or.inr (Or.inr (Or.inr ⟨rfl, rfl, rfl, rfl, _, _, _, h3, ?_, hT3, hD3⟩)), ⟨_, rfl⟩, (f1.trans hf2).trans f3⟩
          rw [pk_un (by decide), hs2 0 (by decide)]; exact hc1
  have mid : ∀ f : Bool, f = (!D.2.2.2.2 && !(thr pg made lat ro k)) → qV l s0 C m_M_remove rm_M_remove (fun r X' => (D.2.2.2.2 = true ∧ MR X' m 1 pg made lat ro pgK madeK D op ∨ D.2.2.2.2 = false ∧ thr pg made lat ro k = false ∧ MR X' m 2 pg made lat ro pgK madeK D op ∨ D.2.2.2.2 = false ∧ thr pg made lat ro k = true ∧ rfs pg made lat ro = true ∧ MR X' m 3 pg made lat ro pgK madeK D op ∨ D.2.2.2.2 = false ∧ thr pg made lat ro k = true ∧ rfs pg made lat ro = false ∧ r = some (.int (nI (lat + 1))) ∧ MR X' m 0 (yU pg made lat ro (k, 0, false)).1 (yU pg made lat ro (k, 0, false)).2.1 (lat + 1) (yU pg made lat ro (k, 0, false)).2.2.1 pgK madeK D (va_up op lat (k, 0, false))) ∧ (∃ z, r = some (.int z)) ∧ qSame X X' m (m + 30)) (fun _ _ => False) 0 0 X 29 [(0, .ref m), (1, .int k)] [.int (bI f), .int (bI D.2.2.2.2), .ref m] := by
    intro f hfe
    refine v_aload_n i_M_remove_29 rfl ?_
    refine v_get B i_M_remove_30 (by first | assumption | exact qset_self _ _ _ | (rw [qset_ne _ _ (by omega)]; first | assumption | exact qset_self _ _ _ | (rw [qset_ne _ _ (by omega)]; first | assumption | exact qset_self _ _ _ | (rw [qset_ne _ _ (by omega)]; first | assumption | exact qset_self _ _ _ | (rw [qset_ne _ _ (by omega)]; first | assumption | exact qset_self _ _ _ | (rw [qset_ne _ _ (by omega)]; first | assumption | exact qset_self _ _ _ | (rw [qset_ne _ _ (by omega)]; first | assumption | exact qset_self _ _ _))))))) rfl ?_
    rw [hb]
    refine v_if_ne (tgt := 47) i_M_remove_33 rfl (fun q33 => ?_) (fun q33 => ?_)
    · have hdn := bI_ne q33
      refine v_iconst (v := 0) i_M_remove_47 rfl ?_
      exact main f false hfe (by rw [hdn]; rfl)
    · have hdn := bI_0.mp q33
      refine v_aload_n i_M_remove_36 rfl ?_
      refine v_inv B i_M_remove_37 kn_m_M_isRefused (c_M_isRefused B h hT (Nat.le_refl _) hr0) h0 rfl rfl (Nat.le_of_ble_eq_true rfl) ⟨by decide, by decide, by first | decide | (simp; omega), by first | decide | (simp; omega)⟩ rfl (fun r X' hq => ?_) (fun _ _ h => False.elim h)
      obtain ⟨rfl, rfl⟩ := hq
      refine v_if_eq (tgt := 47) i_M_remove_40 rfl (fun q40 => ?_) (fun q40 => ?_)
      · have hrf := bI_0.mp q40
        refine v_iconst (v := 0) i_M_remove_47 rfl ?_
        exact main f false hfe (by rw [show rfs pg made lat ro = false from hrf, Bool.and_false])
      · have hrf := bI_ne q40
        refine v_iconst (v := 1) i_M_remove_43 rfl ?_
        refine v_goto (tgt := 48) i_M_remove_44 rfl ?_
        exact main f true hfe (by rw [show rfs pg made lat ro = true from hrf, hdn]; rfl)
  refine v_aload_n i_M_remove_0 rfl ?_
  refine v_aload_n i_M_remove_1 rfl ?_
  refine v_get B i_M_remove_2 (by first | assumption | exact qset_self _ _ _ | (rw [qset_ne _ _ (by omega)]; first | assumption | exact qset_self _ _ _ | (rw [qset_ne _ _ (by omega)]; first | assumption | exact qset_self _ _ _ | (rw [qset_ne _ _ (by omega)]; first | assumption | exact qset_self _ _ _ | (rw [qset_ne _ _ (by omega)]; first | assumption | exact qset_self _ _ _ | (rw [qset_ne _ _ (by omega)]; first | assumption | exact qset_self _ _ _ | (rw [qset_ne _ _ (by omega)]; first | assumption | exact qset_self _ _ _))))))) rfl ?_
  refine v_aload_n i_M_remove_5 rfl ?_
  refine v_get B i_M_remove_6 (by first | assumption | exact qset_self _ _ _ | (rw [qset_ne _ _ (by omega)]; first | assumption | exact qset_self _ _ _ | (rw [qset_ne _ _ (by omega)]; first | assumption | exact qset_self _ _ _ | (rw [qset_ne _ _ (by omega)]; first | assumption | exact qset_self _ _ _ | (rw [qset_ne _ _ (by omega)]; first | assumption | exact qset_self _ _ _ | (rw [qset_ne _ _ (by omega)]; first | assumption | exact qset_self _ _ _ | (rw [qset_ne _ _ (by omega)]; first | assumption | exact qset_self _ _ _))))))) rfl ?_
  rw [hb]
  refine v_if_ne (tgt := 28) i_M_remove_9 rfl (fun q9 => ?_) (fun q9 => ?_)
  · have hdn := bI_ne q9
    refine v_iconst (v := 0) i_M_remove_28 rfl ?_
    exact mid false (by rw [hdn]; rfl)
  · have hdn := bI_0.mp q9
    refine v_aload_n i_M_remove_12 rfl ?_
    refine v_aload_n i_M_remove_13 rfl ?_
    refine v_get B i_M_remove_14 (by first | assumption | exact qset_self _ _ _ | (rw [qset_ne _ _ (by omega)]; first | assumption | exact qset_self _ _ _ | (rw [qset_ne _ _ (by omega)]; first | assumption | exact qset_self _ _ _ | (rw [qset_ne _ _ (by omega)]; first | assumption | exact qset_self _ _ _ | (rw [qset_ne _ _ (by omega)]; first | assumption | exact qset_self _ _ _ | (rw [qset_ne _ _ (by omega)]; first | assumption | exact qset_self _ _ _ | (rw [qset_ne _ _ (by omega)]; first | assumption | exact qset_self _ _ _))))))) rfl ?_
    refine v_iload_n i_M_remove_17 rfl ?_
    rw [t3]
    refine v_inv B i_M_remove_18 kn_m_M_leafEntry (c_M_leafEntry B h k t4 t2b (by omega) (t5 lat (Nat.le_refl _)).1 (n := 16) hd) h0 rfl rfl (Nat.le_of_ble_eq_true rfl) ⟨by decide, by decide, by first | decide | (simp; omega), by first | decide | (simp; omega)⟩ rfl (fun r X' hq => ?_) (fun _ _ h => False.elim h)
    obtain ⟨rfl, rfl⟩ := hq
    refine v_if_ge (tgt := 28) i_M_remove_21 rfl (fun q21 => ?_) (fun q21 => ?_)
    · have hth : thr pg made lat ro k = true := by
        cases hq : thr pg made lat ro k
        · have := hneg.mpr hq
          exact absurd (Int32.lt_of_lt_of_le this q21) Int32.lt_irrefl
        · rfl
      refine v_iconst (v := 0) i_M_remove_28 rfl ?_
      exact mid false (by rw [hth, Bool.not_true, Bool.and_false])
    · have hth : thr pg made lat ro k = false := hneg.mp (Int32.not_le.mp q21)
      refine v_iconst (v := 1) i_M_remove_24 rfl ?_
      refine v_goto (tgt := 29) i_M_remove_25 rfl ?_
      exact mid true (by rw [hth, hdn]; rfl)
end MS2
