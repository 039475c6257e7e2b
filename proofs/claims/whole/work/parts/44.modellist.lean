/-! the reference: leaves, lists, new pages, entries that come -/
theorem gbel_some (es : List Ent) (K : Int) (v : Nat) : ∀ n b, gbel es K v n = some b → b < n ∧ alv (en es b) v = true ∧ (en es b).1.toInt ≤ K ∧ (∀ t, t < n → alv (en es t) v = true → (en es t).1.toInt ≤ K → (en es t).1.toInt ≤ (en es b).1.toInt) ∧ (∀ t, t < b → alv (en es t) v = true → (en es t).1.toInt ≤ K → (en es t).1.toInt < (en es b).1.toInt)
  | 0, b, h => by cases h
  | n + 1, b, h => by
    unfold gbel at h
    split at h
    · rename_i hc
      cases h
      obtain ⟨h1, h2, h3⟩ := hc
      have key : ∀ t, t < n → alv (en es t) v = true → (en es t).1.toInt ≤ K → (en es t).1.toInt < (en es n).1.toInt := by
        intro t ht ha hk
        cases hg : gbel es K v n with
        | none =>
          exfalso
          have : ∀ q, gbel es K v q = none → ∀ t, t < q → alv (en es t) v = true → (en es t).1.toInt ≤ K → False := by
            intro q
            induction q with
            | zero => intro _ t ht; omega
            | succ q ih =>
              intro hq t ht ha hk
              unfold gbel at hq
              split at hq
              · cases hq
              · rename_i hc
                by_cases htq : t = q
                · subst htq
                  exact hc ⟨ha, hk, fun b hb => by rw [hq] at hb; cases hb⟩
                · exact ih hq t (by omega) ha hk
          exact this n hg t ht ha hk
        | some c =>
          have ih := gbel_some es K v n c hg
          have h5 := ih.2.2.2.1 t ht ha hk
          have h6 := Int32.lt_iff_toInt_lt.mp (h3 c hg)
          omega
      refine ⟨by omega, h1, h2, fun t ht ha hk => ?_, key⟩
      by_cases htn : t = n
      · subst htn; omega
      · have := key t (by omega) ha hk; omega
    · rename_i hc
      have ih := gbel_some es K v n b h
      refine ⟨by omega, ih.2.1, ih.2.2.1, fun t ht ha hk => ?_, ih.2.2.2.2⟩
      by_cases htn : t = n
      · subst htn
        refine Int.not_lt.mp (fun q => hc ⟨ha, hk, fun c hcc => ?_⟩)
        rw [h] at hcc
        cases hcc
        exact Int32.lt_iff_toInt_lt.mpr q
      · exact ih.2.2.2.1 t (by omega) ha hk
theorem gbel_none (es : List Ent) (K : Int) (v : Nat) : ∀ n, gbel es K v n = none → ∀ t, t < n → alv (en es t) v = true → (en es t).1.toInt ≤ K → False := by
  intro q
  induction q with
  | zero => intro _ t ht; omega
  | succ q ih =>
    intro hq t ht ha hk
    unfold gbel at hq
    split at hq
    · cases hq
    · rename_i hc
      by_cases htq : t = q
      · subst htq
        exact hc ⟨ha, hk, fun b hb => by rw [hq] at hb; cases hb⟩
      · exact ih hq t (by omega) ha hk
theorem gslot_some {P : Pg} {k : Int32} {v i : Nat} (hi : i < P.2.2.2.length) (ha : alv (en P.2.2.2 i) v = true) (hk : (en P.2.2.2 i).1 = k) (hf : ∀ t, t < i → ¬ (alv (en P.2.2.2 t) v = true ∧ (en P.2.2.2 t).1 = k)) : gslot P k v = some i := by
  unfold gslot
  cases hg : gbel P.2.2.2 k.toInt v P.2.2.2.length with
  | none => exact absurd (gbel_none _ _ _ _ hg i hi ha (by rw [hk]; exact Int.le_refl _)) (fun q => q)
  | some b =>
    obtain ⟨h1, h2, h3, h4, h5⟩ := gbel_some _ _ _ _ _ hg
    have hle := h4 i hi ha (by rw [hk]; exact Int.le_refl _)
    rw [hk] at hle
    have hkb : (en P.2.2.2 b).1 = k := Int32.toInt_inj.mp (by omega)
    show (if (en P.2.2.2 b).1 = k then some b else none) = some i
    rw [if_pos hkb]
    have : ¬ b < i := fun q => hf b q ⟨h2, hkb⟩
    have : ¬ i < b := fun q => by
      have := h5 i q ha (by rw [hk]; exact Int.le_refl _)
      rw [hk, hkb] at this
      omega
    rw [show b = i by omega]
theorem gslot_none {P : Pg} {k : Int32} {v : Nat} (hf : ∀ t, t < P.2.2.2.length → ¬ (alv (en P.2.2.2 t) v = true ∧ (en P.2.2.2 t).1 = k)) : gslot P k v = none := by
  unfold gslot
  cases hg : gbel P.2.2.2 k.toInt v P.2.2.2.length with
  | none => rfl
  | some b =>
    obtain ⟨h1, h2, -, -, -⟩ := gbel_some _ _ _ _ _ hg
    show (if (en P.2.2.2 b).1 = k then some b else none) = none
    rw [if_neg (fun q => hf b h1 ⟨h2, q⟩)]
theorem gslot_lt {P : Pg} {k : Int32} {v i : Nat} (h : gslot P k v = some i) : i < P.2.2.2.length := by
  unfold gslot at h
  cases hg : gbel P.2.2.2 k.toInt v P.2.2.2.length with
  | none => rw [hg] at h; cases h
  | some b =>
    rw [hg] at h
    replace h : (if (en P.2.2.2 b).1 = k then some b else none) = some i := h
    split at h
    · cases h; exact gbel_lt _ _ _ _ _ hg
    · cases h
theorem gstand_lt {P : Pg} {k : Int32} {v i : Nat} (h : gstand P k v = some i) : i < P.2.2.2.length := by
  unfold gstand at h
  cases hg : gbel P.2.2.2 k.toInt v P.2.2.2.length with
  | none => rw [hg] at h; exact gabo_lt _ _ _ _ _ h
  | some b => rw [hg] at h; cases h; exact gbel_lt _ _ _ _ _ hg
/-- the leaf to which one comes from page p -/
def tlf (pg : Nat → Pg) (made v : Nat) (k : Int32) : Nat → Nat → Nat
  | 0, p => p
  | n + 1, p => if (pg p).1 = 0 then p else tlf pg made v k n (tpn made (gwhatAt (pg p) (vO (gstand (pg p) k v))))
/-- from page p one comes to a leaf -/
def mdOK (pg : Nat → Pg) (made v : Nat) (k : Int32) : Nat → Nat → Prop
  | 0, p => p < made ∧ (pg p).1 = 0
  | n + 1, p => p < made ∧ ((pg p).1 = 0 ∨ 0 < (pg p).1 ∧ ∃ i c, gstand (pg p) k v = some i ∧ c < made ∧ (en (pg p).2.2.2 i).2.2.2 = lN c ∧ mdOK pg made v k n c)
theorem mdOK.lt {pg : Nat → Pg} {made v : Nat} {k : Int32} : ∀ {n p : Nat}, mdOK pg made v k n p → p < made
  | 0, _, h => h.1
  | _ + 1, _, h => h.1
theorem tpn_of {made c : Nat} (h : c < made) (hm : made ≤ 256) : tpn made (lN c) = c := by
  have : (lN c).toInt = (c : Int) := pk_lT (by omega)
  rw [tpn, this, if_pos (by omega)]; simp
/-- what may have changed: arrays, numbers -/
def mK (A : List Nat) (I : Nat → Nat → Int32) (J : Nat → Nat → Int64) (I' : Nat → Nat → Int32) (J' : Nat → Nat → Int64) : Prop := ∀ a, a ∉ A → I' a = I a ∧ J' a = J a
def sK (A : List Nat) (s s' : Nat → Int32) : Prop := ∀ j, j ∉ A → s' j = s j
theorem mK.rf (A : List Nat) (I : Nat → Nat → Int32) (J : Nat → Nat → Int64) : mK A I J I J := fun _ _ => ⟨rfl, rfl⟩
theorem mK.trans {A : List Nat} {I I' I'' : Nat → Nat → Int32} {J J' J'' : Nat → Nat → Int64} (h1 : mK A I J I' J') (h2 : mK A I' J' I'' J'') : mK A I J I'' J'' := fun a ha => ⟨(h2 a ha).1.trans (h1 a ha).1, (h2 a ha).2.trans (h1 a ha).2⟩
theorem mK.mono {A A' : List Nat} {I I' : Nat → Nat → Int32} {J J' : Nat → Nat → Int64} (h : mK A I J I' J') (hs : A.all (fun a => A'.contains a) = true) : mK A' I J I' J' := fun a ha => h a (fun q => ha (by
  have := List.all_eq_true.mp hs a q
  exact List.contains_iff_mem.mp this))
theorem mK.int {A : List Nat} {I I' : Nat → Nat → Int32} {J J' : Nat → Nat → Int64} (h : mK A I J I' J') {a j : Nat} {x : Int32} (ha : a ∈ A) : mK A I J (mIu I' a j x) J' := fun b hb => ⟨by
  have : b ≠ a := fun q => hb (q ▸ ha)
  rw [mIu, va_up_ne _ _ this]; exact (h b hb).1, (h b hb).2⟩
theorem mK.long {A : List Nat} {I I' : Nat → Nat → Int32} {J J' : Nat → Nat → Int64} (h : mK A I J I' J') {a j : Nat} {x : Int64} (ha : a ∈ A) : mK A I J I' (mJu J' a j x) := fun b hb => ⟨(h b hb).1, by
  have : b ≠ a := fun q => hb (q ▸ ha)
  rw [mJu, va_up_ne _ _ this]; exact (h b hb).2⟩
theorem sK.rf (A : List Nat) (s : Nat → Int32) : sK A s s := fun _ _ => rfl
theorem sK.trans {A : List Nat} {s s' s'' : Nat → Int32} (h1 : sK A s s') (h2 : sK A s' s'') : sK A s s'' := fun j hj => (h2 j hj).trans (h1 j hj)
theorem sK.mono {A A' : List Nat} {s s' : Nat → Int32} (h : sK A s s') (hs : A.all (fun a => A'.contains a) = true) : sK A' s s' := fun a ha => h a (fun q => ha (by
  have := List.all_eq_true.mp hs a q
  exact List.contains_iff_mem.mp this))
theorem sK.set {A : List Nat} {s s' : Nat → Int32} (h : sK A s s') {j : Nat} {x : Int32} (ha : j ∈ A) : sK A s (upd s' j x) := fun b hb => by
  have : b ≠ j := fun q => hb (q ▸ ha)
  rw [pk_un this]; exact h b hb
theorem mIu_ne {I : Nat → Nat → Int32} {a b j : Nat} {x : Int32} (h : b ≠ a) : mIu I a j x b = I b := va_up_ne _ _ h
theorem mIu_self {I : Nat → Nat → Int32} {a j : Nat} {x : Int32} : mIu I a j x a = upd (I a) j x := va_up_self _ _ _
theorem mJu_ne {J : Nat → Nat → Int64} {a b j : Nat} {x : Int64} (h : b ≠ a) : mJu J a j x b = J b := va_up_ne _ _ h
theorem mJu_self {J : Nat → Nat → Int64} {a j : Nat} {x : Int64} : mJu J a j x a = vp_updL (J a) j x := va_up_self _ _ _
/-- the list -/
def mRw (s : Nat → Int32) (I : Nat → Nat → Int32) (J : Nat → Nat → Int64) (R : qRw) : Prop := s 33 = nI R.length ∧ R.length ≤ 40 ∧ ∀ i, i < R.length → I 21 i = rk R i ∧ J 22 i = rv R i
theorem mPg.keep {I I' : Nat → Nat → Int32} {J J' : Nat → Nat → Int64} {p : Nat} {P : Pg} {A : List Nat} (h : mPg I J p P) (hk : mK A I J I' J') (hA : (A.contains 1 || A.contains 2 || A.contains 3 || A.contains 4 || A.contains 6 || A.contains 7 || A.contains 8 || A.contains 9) = false) : mPg I' J' p P := by
  simp only [Bool.or_eq_false_iff] at hA
  have f : ∀ a, A.contains a = false → a ∉ A := fun a ha q => by rw [List.contains_iff_mem.mpr q] at ha; cases ha
  obtain ⟨⟨⟨⟨⟨⟨⟨x1, x2⟩, x3⟩, x4⟩, x6⟩, x7⟩, x8⟩, x9⟩ := hA
  obtain ⟨h0, h1, h2, h3, h4, h5⟩ := h
  refine ⟨h0, by rw [(hk 1 (f 1 x1)).1]; exact h1, by rw [(hk 2 (f 2 x2)).1]; exact h2, by rw [(hk 3 (f 3 x3)).1]; exact h3, by rw [(hk 4 (f 4 x4)).1]; exact h4, fun i hi => ?_⟩
  rw [(hk 6 (f 6 x6)).1, (hk 7 (f 7 x7)).1, (hk 8 (f 8 x8)).1, (hk 9 (f 9 x9)).2]
  exact h5 i hi
section ML
variable {X X' : qX} {m : Nat} {s : Nat → Int32} {I : Nat → Nat → Int32} {J : Nat → Nat → Int64}
variable {l : Launch} {s0 : State} {C : qC}
theorem c_M_leafEntry_2 (B : qB l s0 C) (h : MAt X m s I J) {p v : Nat} {P : Pg} (k : Int32) (hP : mPg I J p P) (hp : p < 512) (hv : v < 2 ^ 30) : ∀ (j i : Nat), i + j = P.2.2.2.length → (∀ t, t < i → ¬ (alv (en P.2.2.2 t) v = true ∧ (en P.2.2.2 t).1 = k)) →
    qV l s0 C m_M_leafEntry rm_M_leafEntry (fun r X' => X = X' ∧ r = some (.int (vA p (gslot P k v)))) (fun _ _ => False) 0 0 X 39 [(0, .ref m), (1, .int (nI v)), (2, .int k), (3, .int (nI p)), (4, .int (nI (16 * p + i)))] [] := by
  obtain ⟨h0, a1, a2, a3, a4, a5, a6, a7, a8, a9, a10, a11, a12, a13, a14, a15, a16, a17, a18, a19, a20, a21, a22, a23, a24, a25, a26, a27, a28, a29⟩ := h.all
  obtain ⟨⟨o1, o2, o3, o4, o5⟩, -, -, -, e4, e6⟩ := id hP
  intro j
  induction j with
  | zero =>
    intro i hij hf
    have hi : i = P.2.2.2.length := by omega
    subst hi
    refine v_iload i_M_leafEntry_39 rfl ?_
    refine v_bipush (v := 16) i_M_leafEntry_41 rfl ?_
    refine v_iload_n i_M_leafEntry_43 rfl ?_
    refine v_imul i_M_leafEntry_44 ?_
    refine v_aload_n i_M_leafEntry_45 rfl ?_
    refine v_get B i_M_leafEntry_46 (by first | assumption | exact qset_self _ _ _ | (rw [qset_ne _ _ (by omega)]; first | assumption | exact qset_self _ _ _ | (rw [qset_ne _ _ (by omega)]; first | assumption | exact qset_self _ _ _ | (rw [qset_ne _ _ (by omega)]; first | assumption | exact qset_self _ _ _ | (rw [qset_ne _ _ (by omega)]; first | assumption | exact qset_self _ _ _ | (rw [qset_ne _ _ (by omega)]; first | assumption | exact qset_self _ _ _ | (rw [qset_ne _ _ (by omega)]; first | assumption | exact qset_self _ _ _))))))) rfl ?_
    refine v_iload_n i_M_leafEntry_49 rfl ?_
    refine v_iald B (by first | assumption | exact qset_self _ _ _ | (rw [qset_ne _ _ (by omega)]; first | assumption | exact qset_self _ _ _ | (rw [qset_ne _ _ (by omega)]; first | assumption | exact qset_self _ _ _ | (rw [qset_ne _ _ (by omega)]; first | assumption | exact qset_self _ _ _ | (rw [qset_ne _ _ (by omega)]; first | assumption | exact qset_self _ _ _ | (rw [qset_ne _ _ (by omega)]; first | assumption | exact qset_self _ _ _ | (rw [qset_ne _ _ (by omega)]; first | assumption | exact qset_self _ _ _))))))) rfl (by omega) (by omega) i_M_leafEntry_50 ?_
    rw [n16, e4]
    refine v_iadd i_M_leafEntry_51 ?_
    rw [nI_add]
    refine v_icmp_ge (tgt := 85) i_M_leafEntry_52 rfl (fun h52 => ?_) (fun h52 => ?_)
    · refine v_iconst (v := (-1)) i_M_leafEntry_85 rfl ?_
      refine v_iret i_M_leafEntry_86 rfl (by decide) (by decide) ⟨rfl, ?_⟩
      rw [gslot_none hf]; rfl
    · exact absurd (nI_le (by omega) (by omega)) h52
  | succ j ih =>
    intro i hij hf
    obtain ⟨k1, -, -, -⟩ := e6 i (by omega)
    have tail : ¬ (alv (en P.2.2.2 i) v = true ∧ (en P.2.2.2 i).1 = k) → qV l s0 C m_M_leafEntry rm_M_leafEntry (fun r X' => X = X' ∧ r = some (.int (vA p (gslot P k v)))) (fun _ _ => False) 0 0 X 79 [(0, .ref m), (1, .int (nI v)), (2, .int k), (3, .int (nI p)), (4, .int (nI (16 * p + i)))] [] := by
      intro hn
      refine v_iinc (v := nI (16 * p + (i + 1))) i_M_leafEntry_79 rfl (nI_1 _) (by decide) rfl ?_
      refine v_goto (tgt := 39) i_M_leafEntry_82 rfl ?_
      refine v_loc [(0, .ref m), (1, .int (nI v)), (2, .int k), (3, .int (nI p)), (4, .int (nI (16 * p + (i + 1))))] rfl (ih (i + 1) (by omega) (fun t ht => ?_))
      by_cases hti : t = i
      · subst hti; exact hn
      · exact hf t (by omega)
    refine v_iload i_M_leafEntry_39 rfl ?_
    refine v_bipush (v := 16) i_M_leafEntry_41 rfl ?_
    refine v_iload_n i_M_leafEntry_43 rfl ?_
    refine v_imul i_M_leafEntry_44 ?_
    refine v_aload_n i_M_leafEntry_45 rfl ?_
    refine v_get B i_M_leafEntry_46 (by first | assumption | exact qset_self _ _ _ | (rw [qset_ne _ _ (by omega)]; first | assumption | exact qset_self _ _ _ | (rw [qset_ne _ _ (by omega)]; first | assumption | exact qset_self _ _ _ | (rw [qset_ne _ _ (by omega)]; first | assumption | exact qset_self _ _ _ | (rw [qset_ne _ _ (by omega)]; first | assumption | exact qset_self _ _ _ | (rw [qset_ne _ _ (by omega)]; first | assumption | exact qset_self _ _ _ | (rw [qset_ne _ _ (by omega)]; first | assumption | exact qset_self _ _ _))))))) rfl ?_
    refine v_iload_n i_M_leafEntry_49 rfl ?_
    refine v_iald B (by first | assumption | exact qset_self _ _ _ | (rw [qset_ne _ _ (by omega)]; first | assumption | exact qset_self _ _ _ | (rw [qset_ne _ _ (by omega)]; first | assumption | exact qset_self _ _ _ | (rw [qset_ne _ _ (by omega)]; first | assumption | exact qset_self _ _ _ | (rw [qset_ne _ _ (by omega)]; first | assumption | exact qset_self _ _ _ | (rw [qset_ne _ _ (by omega)]; first | assumption | exact qset_self _ _ _ | (rw [qset_ne _ _ (by omega)]; first | assumption | exact qset_self _ _ _))))))) rfl (by omega) (by omega) i_M_leafEntry_50 ?_
    rw [n16, e4]
    refine v_iadd i_M_leafEntry_51 ?_
    rw [nI_add]
    refine v_icmp_ge (tgt := 85) i_M_leafEntry_52 rfl (fun h52 => ?_) (fun h52 => ?_)
    · exact absurd h52 (nI_ge (by omega) (by omega))
    refine v_aload_n i_M_leafEntry_55 rfl ?_
    refine v_iload i_M_leafEntry_56 rfl ?_
    refine v_iload_n i_M_leafEntry_58 rfl ?_
    refine v_inv B i_M_leafEntry_59 kn_m_M_isAlive (c_M_isAlive B h hP hp (i := i) (by omega) hv) h0 rfl rfl (Nat.le_of_ble_eq_true rfl) ⟨by decide, by decide, by first | decide | (simp; omega), by first | decide | (simp; omega)⟩ rfl (fun r X' hq => ?_) (fun _ _ h => False.elim h)
    obtain ⟨rfl, rfl⟩ := hq
    refine v_if_eq (tgt := 79) i_M_leafEntry_62 rfl (fun h62 => ?_) (fun h62 => ?_)
    · exact tail (fun q => by rw [bI_0.mp h62] at q; exact absurd q.1 (by decide))
    refine v_aload_n i_M_leafEntry_65 rfl ?_
    refine v_get B i_M_leafEntry_66 (by first | assumption | exact qset_self _ _ _ | (rw [qset_ne _ _ (by omega)]; first | assumption | exact qset_self _ _ _ | (rw [qset_ne _ _ (by omega)]; first | assumption | exact qset_self _ _ _ | (rw [qset_ne _ _ (by omega)]; first | assumption | exact qset_self _ _ _ | (rw [qset_ne _ _ (by omega)]; first | assumption | exact qset_self _ _ _ | (rw [qset_ne _ _ (by omega)]; first | assumption | exact qset_self _ _ _ | (rw [qset_ne _ _ (by omega)]; first | assumption | exact qset_self _ _ _))))))) rfl ?_
    refine v_iload i_M_leafEntry_69 rfl ?_
    refine v_iald B (by first | assumption | exact qset_self _ _ _ | (rw [qset_ne _ _ (by omega)]; first | assumption | exact qset_self _ _ _ | (rw [qset_ne _ _ (by omega)]; first | assumption | exact qset_self _ _ _ | (rw [qset_ne _ _ (by omega)]; first | assumption | exact qset_self _ _ _ | (rw [qset_ne _ _ (by omega)]; first | assumption | exact qset_self _ _ _ | (rw [qset_ne _ _ (by omega)]; first | assumption | exact qset_self _ _ _ | (rw [qset_ne _ _ (by omega)]; first | assumption | exact qset_self _ _ _))))))) rfl (by omega) (by omega) i_M_leafEntry_71 ?_
    refine v_iload_n i_M_leafEntry_72 rfl ?_
    rw [k1]
    refine v_icmp_ne (tgt := 79) i_M_leafEntry_73 rfl (fun h73 => ?_) (fun h73 => ?_)
    · exact tail (fun q => h73 q.2)
    · refine v_iload i_M_leafEntry_76 rfl ?_
      refine v_iret i_M_leafEntry_78 rfl (by decide) (by decide) ⟨rfl, ?_⟩
      rw [gslot_some (i := i) (by omega) (bI_ne h62) h73 hf]; rfl
theorem c_M_leafEntry_1 (B : qB l s0 C) (h : MAt X m s I J) {v made : Nat} {pg : Nat → Pg} (k : Int32) (hpg : ∀ p, p < made → mPg I J p (pg p)) (hm : made ≤ 256) (hv : v < 2 ^ 30) : ∀ (n p : Nat), mdOK pg made v k n p →
    qV l s0 C m_M_leafEntry rm_M_leafEntry (fun r X' => X = X' ∧ r = some (.int (vA (tlf pg made v k n p) (gslot (pg (tlf pg made v k n p)) k v)))) (fun _ _ => False) 0 0 X 7 [(0, .ref m), (1, .int (nI v)), (2, .int k), (3, .int (nI p))] [] := by
  obtain ⟨h0, a1, a2, a3, a4, a5, a6, a7, a8, a9, a10, a11, a12, a13, a14, a15, a16, a17, a18, a19, a20, a21, a22, a23, a24, a25, a26, a27, a28, a29⟩ := h.all
  have leaf : ∀ p, p < made → (pg p).1 = 0 → qV l s0 C m_M_leafEntry rm_M_leafEntry (fun r X' => X = X' ∧ r = some (.int (vA p (gslot (pg p) k v)))) (fun _ _ => False) 0 0 X 7 [(0, .ref m), (1, .int (nI v)), (2, .int k), (3, .int (nI p))] [] := by
    intro p hp hl
    obtain ⟨-, e1, -⟩ := id (hpg p hp)
    refine v_aload_n i_M_leafEntry_7 rfl ?_
    refine v_get B i_M_leafEntry_8 (by first | assumption | exact qset_self _ _ _ | (rw [qset_ne _ _ (by omega)]; first | assumption | exact qset_self _ _ _ | (rw [qset_ne _ _ (by omega)]; first | assumption | exact qset_self _ _ _ | (rw [qset_ne _ _ (by omega)]; first | assumption | exact qset_self _ _ _ | (rw [qset_ne _ _ (by omega)]; first | assumption | exact qset_self _ _ _ | (rw [qset_ne _ _ (by omega)]; first | assumption | exact qset_self _ _ _ | (rw [qset_ne _ _ (by omega)]; first | assumption | exact qset_self _ _ _))))))) rfl ?_
    refine v_iload_n i_M_leafEntry_11 rfl ?_
    refine v_iald B (by first | assumption | exact qset_self _ _ _ | (rw [qset_ne _ _ (by omega)]; first | assumption | exact qset_self _ _ _ | (rw [qset_ne _ _ (by omega)]; first | assumption | exact qset_self _ _ _ | (rw [qset_ne _ _ (by omega)]; first | assumption | exact qset_self _ _ _ | (rw [qset_ne _ _ (by omega)]; first | assumption | exact qset_self _ _ _ | (rw [qset_ne _ _ (by omega)]; first | assumption | exact qset_self _ _ _ | (rw [qset_ne _ _ (by omega)]; first | assumption | exact qset_self _ _ _))))))) rfl (by omega) (by omega) i_M_leafEntry_12 ?_
    rw [e1, hl]
    refine v_if_le (tgt := 33) i_M_leafEntry_13 rfl (fun h13 => ?_) (fun h13 => ?_)
    · refine v_bipush (v := 16) i_M_leafEntry_33 rfl ?_
      refine v_iload_n i_M_leafEntry_35 rfl ?_
      refine v_imul i_M_leafEntry_36 ?_
      rw [n16]
      refine v_istore i_M_leafEntry_37 (by decide) rfl ?_
      exact v_loc [(0, .ref m), (1, .int (nI v)), (2, .int k), (3, .int (nI p)), (4, .int (nI (16 * p + 0)))] rfl (c_M_leafEntry_2 B h k (hpg p hp) (by omega) hv _ 0 (Nat.zero_add _) (fun t ht => by omega))
    · exact absurd (by decide) h13
  intro n
  induction n with
  | zero =>
    intro p hd
    exact leaf p hd.1 hd.2
  | succ n ih =>
    intro p hd
    obtain ⟨hp, hd⟩ := hd
    rcases hd with hl | ⟨hl, i, c, hs, hc, hw, hd⟩
    · rw [tlf, if_pos hl]
      exact leaf p hp hl
    have hP := hpg p hp
    obtain ⟨⟨o1, o2, o3, o4, o5⟩, e1, -, -, -, e6⟩ := id hP
    have hi := gstand_lt hs
    obtain ⟨-, -, -, k4⟩ := e6 i hi
    have htl : tlf pg made v k (n + 1) p = tlf pg made v k n c := by
      rw [tlf, if_neg (by omega), hs, show vO (some i) = nI i from rfl, gwhatAt_nI hi o4, hw, tpn_of hc hm]
    rw [htl]
    refine v_aload_n i_M_leafEntry_7 rfl ?_
    refine v_get B i_M_leafEntry_8 (by first | assumption | exact qset_self _ _ _ | (rw [qset_ne _ _ (by omega)]; first | assumption | exact qset_self _ _ _ | (rw [qset_ne _ _ (by omega)]; first | assumption | exact qset_self _ _ _ | (rw [qset_ne _ _ (by omega)]; first | assumption | exact qset_self _ _ _ | (rw [qset_ne _ _ (by omega)]; first | assumption | exact qset_self _ _ _ | (rw [qset_ne _ _ (by omega)]; first | assumption | exact qset_self _ _ _ | (rw [qset_ne _ _ (by omega)]; first | assumption | exact qset_self _ _ _))))))) rfl ?_
    refine v_iload_n i_M_leafEntry_11 rfl ?_
    refine v_iald B (by first | assumption | exact qset_self _ _ _ | (rw [qset_ne _ _ (by omega)]; first | assumption | exact qset_self _ _ _ | (rw [qset_ne _ _ (by omega)]; first | assumption | exact qset_self _ _ _ | (rw [qset_ne _ _ (by omega)]; first | assumption | exact qset_self _ _ _ | (rw [qset_ne _ _ (by omega)]; first | assumption | exact qset_self _ _ _ | (rw [qset_ne _ _ (by omega)]; first | assumption | exact qset_self _ _ _ | (rw [qset_ne _ _ (by omega)]; first | assumption | exact qset_self _ _ _))))))) rfl (by omega) (by omega) i_M_leafEntry_12 ?_
    rw [e1]
    refine v_if_le (tgt := 33) i_M_leafEntry_13 rfl (fun h13 => absurd h13 (nI_nle (by omega) (by omega))) (fun h13 => ?_)
    refine v_aload_n i_M_leafEntry_16 rfl ?_
    refine v_get B i_M_leafEntry_17 (by first | assumption | exact qset_self _ _ _ | (rw [qset_ne _ _ (by omega)]; first | assumption | exact qset_self _ _ _ | (rw [qset_ne _ _ (by omega)]; first | assumption | exact qset_self _ _ _ | (rw [qset_ne _ _ (by omega)]; first | assumption | exact qset_self _ _ _ | (rw [qset_ne _ _ (by omega)]; first | assumption | exact qset_self _ _ _ | (rw [qset_ne _ _ (by omega)]; first | assumption | exact qset_self _ _ _ | (rw [qset_ne _ _ (by omega)]; first | assumption | exact qset_self _ _ _))))))) rfl ?_
    refine v_aload_n i_M_leafEntry_20 rfl ?_
    refine v_iload_n i_M_leafEntry_21 rfl ?_
    refine v_iload_n i_M_leafEntry_22 rfl ?_
    refine v_iload_n i_M_leafEntry_23 rfl ?_
    refine v_inv B i_M_leafEntry_24 kn_m_M_standing (c_M_standing B h k hP (by omega) hv) h0 rfl rfl (Nat.le_of_ble_eq_true rfl) ⟨by decide, by decide, by first | decide | (simp; omega), by first | decide | (simp; omega)⟩ rfl (fun r X' hq => ?_) (fun _ _ h => False.elim h)
    obtain ⟨rfl, rfl⟩ := hq
    rw [hs, show vA p (some i) = nI (16 * p + i) from rfl]
    refine v_lald B (by first | assumption | exact qset_self _ _ _ | (rw [qset_ne _ _ (by omega)]; first | assumption | exact qset_self _ _ _ | (rw [qset_ne _ _ (by omega)]; first | assumption | exact qset_self _ _ _ | (rw [qset_ne _ _ (by omega)]; first | assumption | exact qset_self _ _ _ | (rw [qset_ne _ _ (by omega)]; first | assumption | exact qset_self _ _ _ | (rw [qset_ne _ _ (by omega)]; first | assumption | exact qset_self _ _ _ | (rw [qset_ne _ _ (by omega)]; first | assumption | exact qset_self _ _ _))))))) rfl (by omega) (by omega) i_M_leafEntry_27 ?_
    rw [k4, hw]
    refine v_l2i i_M_leafEntry_28 ?_
    rw [lN_i]
    refine v_istore_n i_M_leafEntry_29 (by decide) rfl ?_
    refine v_goto (tgt := 7) i_M_leafEntry_30 rfl ?_
    exact v_loc [(0, .ref m), (1, .int (nI v)), (2, .int k), (3, .int (nI c))] rfl (ih c hd)
theorem c_M_leafEntry (B : qB l s0 C) (h : MAt X m s I J) {v made r0 : Nat} {pg : Nat → Pg} (k : Int32) (hpg : ∀ p, p < made → mPg I J p (pg p)) (hm : made ≤ 256) (hv : v < 5000) (hr : I 10 v = nI r0) {n : Nat} (hd : mdOK pg made v k n r0) :
    qMet l s0 C m_M_leafEntry rm_M_leafEntry [.ref m, .int (nI v), .int k] X (fun r X' => X = X' ∧ r = some (.int (vA (tlf pg made v k n r0) (gslot (pg (tlf pg made v k n r0)) k v)))) (fun _ _ => False) := by
  obtain ⟨h0, a1, a2, a3, a4, a5, a6, a7, a8, a9, a10, a11, a12, a13, a14, a15, a16, a17, a18, a19, a20, a21, a22, a23, a24, a25, a26, a27, a28, a29⟩ := h.all
  refine q_of (by decide +kernel) (Nat.le_of_ble_eq_true rfl) ?_
  refine v_L (L' := [(0, .ref m), (1, .int (nI v)), (2, .int k)]) rfl ?_
  refine v_aload_n i_M_leafEntry_0 rfl ?_
  refine v_get B i_M_leafEntry_1 (by first | assumption | exact qset_self _ _ _ | (rw [qset_ne _ _ (by omega)]; first | assumption | exact qset_self _ _ _ | (rw [qset_ne _ _ (by omega)]; first | assumption | exact qset_self _ _ _ | (rw [qset_ne _ _ (by omega)]; first | assumption | exact qset_self _ _ _ | (rw [qset_ne _ _ (by omega)]; first | assumption | exact qset_self _ _ _ | (rw [qset_ne _ _ (by omega)]; first | assumption | exact qset_self _ _ _ | (rw [qset_ne _ _ (by omega)]; first | assumption | exact qset_self _ _ _))))))) rfl ?_
  refine v_iload_n i_M_leafEntry_4 rfl ?_
  refine v_iald B (by first | assumption | exact qset_self _ _ _ | (rw [qset_ne _ _ (by omega)]; first | assumption | exact qset_self _ _ _ | (rw [qset_ne _ _ (by omega)]; first | assumption | exact qset_self _ _ _ | (rw [qset_ne _ _ (by omega)]; first | assumption | exact qset_self _ _ _ | (rw [qset_ne _ _ (by omega)]; first | assumption | exact qset_self _ _ _ | (rw [qset_ne _ _ (by omega)]; first | assumption | exact qset_self _ _ _ | (rw [qset_ne _ _ (by omega)]; first | assumption | exact qset_self _ _ _))))))) rfl (by omega) (by omega) i_M_leafEntry_5 ?_
  rw [hr]
  refine v_istore_n i_M_leafEntry_6 (by decide) rfl ?_
  exact v_loc [(0, .ref m), (1, .int (nI v)), (2, .int k), (3, .int (nI r0))] rfl (c_M_leafEntry_1 B h k hpg hm (by omega) n r0 hd)
/-- a key and a what come into the list -/
theorem c_M_list_loop (B : qB l s0 C) {R : qRw} (k : Int32) (w : Int64) (hlt : R.length < 40) (hs33 : s 33 = nI R.length) :
    ∀ (i : Nat) (X' : qX) (I' : Nat → Nat → Int32) (J' : Nat → Nat → Int64), i ≤ R.length → MAt X' m s I' J' → (∀ j, j < i → I' 21 j = rk R j ∧ J' 22 j = rv R j) → (∀ j, i ≤ j → j < R.length → I' 21 (j + 1) = rk R j ∧ J' 22 (j + 1) = rv R j) → rpos R k R.length = rpos R k i → mK [21, 22] I J I' J' → qSame X X' m (m + 30) →
      qV l s0 C m_M_list rm_M_list (fun r X'' => r = none ∧ ∃ s'' I'' J'', MAt X'' m s'' I'' J'' ∧ mRw s'' I'' J'' (rins R k w) ∧ mK [21, 22] I J I'' J'' ∧ sK [33] s s'' ∧ qSame X X'' m (m + 30)) (fun _ _ => False) 0 0 X' 6 [(0, .ref m), (1, .int k), (2, .long w), (4, .int (nI i))] [] := by
  intro i
  have fin : ∀ (p : Nat) (X' : qX) (I' : Nat → Nat → Int32) (J' : Nat → Nat → Int64), p ≤ R.length → MAt X' m s I' J' → (∀ j, j < p → I' 21 j = rk R j ∧ J' 22 j = rv R j) → (∀ j, p ≤ j → j < R.length → I' 21 (j + 1) = rk R j ∧ J' 22 (j + 1) = rv R j) → rpos R k R.length = p → mK [21, 22] I J I' J' → qSame X X' m (m + 30) →
      qV l s0 C m_M_list rm_M_list (fun r X'' => r = none ∧ ∃ s'' I'' J'', MAt X'' m s'' I'' J'' ∧ mRw s'' I'' J'' (rins R k w) ∧ mK [21, 22] I J I'' J'' ∧ sK [33] s s'' ∧ qSame X X'' m (m + 30)) (fun _ _ => False) 0 0 X' 62 [(0, .ref m), (1, .int k), (2, .long w), (4, .int (nI p))] [] := by
    intro p X' I' J' hp h hf1 hf2 hpos hk hs
    obtain ⟨h0, a1, a2, a3, a4, a5, a6, a7, a8, a9, a10, a11, a12, a13, a14, a15, a16, a17, a18, a19, a20, a21, a22, a23, a24, a25, a26, a27, a28, a29⟩ := h.all
    refine v_aload_n i_M_list_62 rfl ?_
    refine v_get B i_M_list_63 (by first | assumption | exact qset_self _ _ _ | (rw [qset_ne _ _ (by omega)]; first | assumption | exact qset_self _ _ _ | (rw [qset_ne _ _ (by omega)]; first | assumption | exact qset_self _ _ _ | (rw [qset_ne _ _ (by omega)]; first | assumption | exact qset_self _ _ _ | (rw [qset_ne _ _ (by omega)]; first | assumption | exact qset_self _ _ _ | (rw [qset_ne _ _ (by omega)]; first | assumption | exact qset_self _ _ _ | (rw [qset_ne _ _ (by omega)]; first | assumption | exact qset_self _ _ _))))))) rfl ?_
    refine v_iload i_M_list_66 rfl ?_
    refine v_iload_n i_M_list_68 rfl ?_
    refine v_mist B h (a := 21) (N := 40) (j := p) rfl rfl (by decide) (by decide) (rfl) (by omega) (by omega) i_M_list_69 (fun X1 h1 f1 => ?_)
    obtain ⟨b0, -⟩ := id h1
    refine v_aload_n i_M_list_70 rfl ?_
    refine v_get B i_M_list_71 (by first | assumption | exact qset_self _ _ _ | (rw [qset_ne _ _ (by omega)]; first | assumption | exact qset_self _ _ _ | (rw [qset_ne _ _ (by omega)]; first | assumption | exact qset_self _ _ _ | (rw [qset_ne _ _ (by omega)]; first | assumption | exact qset_self _ _ _ | (rw [qset_ne _ _ (by omega)]; first | assumption | exact qset_self _ _ _ | (rw [qset_ne _ _ (by omega)]; first | assumption | exact qset_self _ _ _ | (rw [qset_ne _ _ (by omega)]; first | assumption | exact qset_self _ _ _))))))) rfl ?_
    refine v_iload i_M_list_74 rfl ?_
    refine v_lload_n i_M_list_76 rfl ?_
    refine v_mlst B h1 (a := 22) (N := 40) (j := p) rfl rfl (by decide) (by decide) (rfl) (by omega) (by omega) i_M_list_77 (fun X2 h2 f2 => ?_)
    obtain ⟨c0, -⟩ := id h2
    refine v_aload_n i_M_list_78 rfl ?_
    refine v_dup i_M_list_79 rfl ?_
    refine v_get B i_M_list_80 (by first | assumption | exact qset_self _ _ _ | (rw [qset_ne _ _ (by omega)]; first | assumption | exact qset_self _ _ _ | (rw [qset_ne _ _ (by omega)]; first | assumption | exact qset_self _ _ _ | (rw [qset_ne _ _ (by omega)]; first | assumption | exact qset_self _ _ _ | (rw [qset_ne _ _ (by omega)]; first | assumption | exact qset_self _ _ _ | (rw [qset_ne _ _ (by omega)]; first | assumption | exact qset_self _ _ _ | (rw [qset_ne _ _ (by omega)]; first | assumption | exact qset_self _ _ _))))))) rfl ?_
    refine v_iconst (v := 1) i_M_list_83 rfl ?_
    refine v_iadd i_M_list_84 ?_
    rw [hs33, nI_1]
    refine v_mput B h2 (j := 33) i_M_list_85 (Nat.le_of_ble_eq_true rfl) rfl rfl rfl (fun X3 h3 f3 => ?_)
    refine v_vret i_M_list_88 rfl (by decide) (by decide) ⟨rfl, _, _, _, h3, ⟨?_, ?_, ?_⟩, (hk.int (by decide)).long (by decide), (sK.rf _ _).set (by decide), ((hs.trans f1).trans f2).trans f3⟩
    · rw [pk_us, rins_len]
    · rw [rins_len]; omega
    · intro j hj
      rw [rins_len] at hj
      rw [mIu_self, mJu_self]
      simp only [rk, rv, rins, hpos, rins_getD R p j _ _ hp]
      by_cases h1 : j < p
      · rw [if_pos h1, pk_un (by omega), pk_uLn (by omega)]
        exact hf1 j h1
      · rw [if_neg h1]
        by_cases h2 : j = p
        · subst h2; rw [if_pos rfl, pk_us, pk_uLs]; exact ⟨rfl, rfl⟩
        · rw [if_neg h2, pk_un h2, pk_uLn h2]
          have := hf2 (j - 1) (by omega) (by omega)
          rw [show j - 1 + 1 = j by omega] at this
          exact this
  induction i with
  | zero =>
    intro X' I' J' hi h hf1 hf2 hpos hk hs
    refine v_iload i_M_list_6 rfl ?_
    refine v_if_le (tgt := 62) i_M_list_8 rfl (fun q8 => ?_) (fun q8 => ?_)
    · exact fin 0 X' I' J' hi h hf1 hf2 hpos hk hs
    · exact absurd (by decide) q8
  | succ i ih =>
    intro X' I' J' hi h hf1 hf2 hpos hk hs
    obtain ⟨h0, a1, a2, a3, a4, a5, a6, a7, a8, a9, a10, a11, a12, a13, a14, a15, a16, a17, a18, a19, a20, a21, a22, a23, a24, a25, a26, a27, a28, a29⟩ := h.all
    refine v_iload i_M_list_6 rfl ?_
    refine v_if_le (tgt := 62) i_M_list_8 rfl (fun q8 => ?_) (fun q8 => ?_)
    · exact absurd q8 (nI_nle (by omega) (by omega))
    refine v_aload_n i_M_list_11 rfl ?_
    refine v_get B i_M_list_12 (by first | assumption | exact qset_self _ _ _ | (rw [qset_ne _ _ (by omega)]; first | assumption | exact qset_self _ _ _ | (rw [qset_ne _ _ (by omega)]; first | assumption | exact qset_self _ _ _ | (rw [qset_ne _ _ (by omega)]; first | assumption | exact qset_self _ _ _ | (rw [qset_ne _ _ (by omega)]; first | assumption | exact qset_self _ _ _ | (rw [qset_ne _ _ (by omega)]; first | assumption | exact qset_self _ _ _ | (rw [qset_ne _ _ (by omega)]; first | assumption | exact qset_self _ _ _))))))) rfl ?_
    refine v_iload i_M_list_15 rfl ?_
    refine v_iconst (v := 1) i_M_list_17 rfl ?_
    refine v_isub i_M_list_18 ?_
    refine v_iald B (by first | assumption | exact qset_self _ _ _ | (rw [qset_ne _ _ (by omega)]; first | assumption | exact qset_self _ _ _ | (rw [qset_ne _ _ (by omega)]; first | assumption | exact qset_self _ _ _ | (rw [qset_ne _ _ (by omega)]; first | assumption | exact qset_self _ _ _ | (rw [qset_ne _ _ (by omega)]; first | assumption | exact qset_self _ _ _ | (rw [qset_ne _ _ (by omega)]; first | assumption | exact qset_self _ _ _ | (rw [qset_ne _ _ (by omega)]; first | assumption | exact qset_self _ _ _))))))) (nI_pred i) (by omega) (by omega) i_M_list_19 ?_
    refine v_iload_n i_M_list_20 rfl ?_
    refine v_icmp_le (tgt := 62) i_M_list_21 rfl (fun q21 => ?_) (fun q21 => ?_)
    · refine fin (i + 1) X' I' J' hi h hf1 hf2 ?_ hk hs
      rw [hpos, rpos, if_neg]
      rw [← (hf1 i (by omega)).1]
      exact Int32.not_lt.mpr q21
    refine v_aload_n i_M_list_24 rfl ?_
    refine v_get B i_M_list_25 (by first | assumption | exact qset_self _ _ _ | (rw [qset_ne _ _ (by omega)]; first | assumption | exact qset_self _ _ _ | (rw [qset_ne _ _ (by omega)]; first | assumption | exact qset_self _ _ _ | (rw [qset_ne _ _ (by omega)]; first | assumption | exact qset_self _ _ _ | (rw [qset_ne _ _ (by omega)]; first | assumption | exact qset_self _ _ _ | (rw [qset_ne _ _ (by omega)]; first | assumption | exact qset_self _ _ _ | (rw [qset_ne _ _ (by omega)]; first | assumption | exact qset_self _ _ _))))))) rfl ?_
    refine v_iload i_M_list_28 rfl ?_
    refine v_aload_n i_M_list_30 rfl ?_
    refine v_get B i_M_list_31 (by first | assumption | exact qset_self _ _ _ | (rw [qset_ne _ _ (by omega)]; first | assumption | exact qset_self _ _ _ | (rw [qset_ne _ _ (by omega)]; first | assumption | exact qset_self _ _ _ | (rw [qset_ne _ _ (by omega)]; first | assumption | exact qset_self _ _ _ | (rw [qset_ne _ _ (by omega)]; first | assumption | exact qset_self _ _ _ | (rw [qset_ne _ _ (by omega)]; first | assumption | exact qset_self _ _ _ | (rw [qset_ne _ _ (by omega)]; first | assumption | exact qset_self _ _ _))))))) rfl ?_
    refine v_iload i_M_list_34 rfl ?_
    refine v_iconst (v := 1) i_M_list_36 rfl ?_
    refine v_isub i_M_list_37 ?_
    refine v_iald B (by first | assumption | exact qset_self _ _ _ | (rw [qset_ne _ _ (by omega)]; first | assumption | exact qset_self _ _ _ | (rw [qset_ne _ _ (by omega)]; first | assumption | exact qset_self _ _ _ | (rw [qset_ne _ _ (by omega)]; first | assumption | exact qset_self _ _ _ | (rw [qset_ne _ _ (by omega)]; first | assumption | exact qset_self _ _ _ | (rw [qset_ne _ _ (by omega)]; first | assumption | exact qset_self _ _ _ | (rw [qset_ne _ _ (by omega)]; first | assumption | exact qset_self _ _ _))))))) (nI_pred i) (by omega) (by omega) i_M_list_38 ?_
    refine v_mist B h (a := 21) (N := 40) (j := i + 1) rfl rfl (by decide) (by decide) (rfl) (by omega) (by omega) i_M_list_39 (fun X1 h1 f1 => ?_)
    obtain ⟨b0, -⟩ := id h1
    have b22 : X1.1 (m + 22) = some (.inl (1, 40, .inr (.inl (J' 22)))) := h1.2 22 (by decide) (by decide)
    refine v_aload_n i_M_list_40 rfl ?_
    refine v_get B i_M_list_41 (by first | assumption | exact qset_self _ _ _ | (rw [qset_ne _ _ (by omega)]; first | assumption | exact qset_self _ _ _ | (rw [qset_ne _ _ (by omega)]; first | assumption | exact qset_self _ _ _ | (rw [qset_ne _ _ (by omega)]; first | assumption | exact qset_self _ _ _ | (rw [qset_ne _ _ (by omega)]; first | assumption | exact qset_self _ _ _ | (rw [qset_ne _ _ (by omega)]; first | assumption | exact qset_self _ _ _ | (rw [qset_ne _ _ (by omega)]; first | assumption | exact qset_self _ _ _))))))) rfl ?_
    refine v_iload i_M_list_44 rfl ?_
    refine v_aload_n i_M_list_46 rfl ?_
    refine v_get B i_M_list_47 (by first | assumption | exact qset_self _ _ _ | (rw [qset_ne _ _ (by omega)]; first | assumption | exact qset_self _ _ _ | (rw [qset_ne _ _ (by omega)]; first | assumption | exact qset_self _ _ _ | (rw [qset_ne _ _ (by omega)]; first | assumption | exact qset_self _ _ _ | (rw [qset_ne _ _ (by omega)]; first | assumption | exact qset_self _ _ _ | (rw [qset_ne _ _ (by omega)]; first | assumption | exact qset_self _ _ _ | (rw [qset_ne _ _ (by omega)]; first | assumption | exact qset_self _ _ _))))))) rfl ?_
    refine v_iload i_M_list_50 rfl ?_
    refine v_iconst (v := 1) i_M_list_52 rfl ?_
    refine v_isub i_M_list_53 ?_
    refine v_lald B (by first | assumption | exact qset_self _ _ _ | (rw [qset_ne _ _ (by omega)]; first | assumption | exact qset_self _ _ _ | (rw [qset_ne _ _ (by omega)]; first | assumption | exact qset_self _ _ _ | (rw [qset_ne _ _ (by omega)]; first | assumption | exact qset_self _ _ _ | (rw [qset_ne _ _ (by omega)]; first | assumption | exact qset_self _ _ _ | (rw [qset_ne _ _ (by omega)]; first | assumption | exact qset_self _ _ _ | (rw [qset_ne _ _ (by omega)]; first | assumption | exact qset_self _ _ _))))))) (nI_pred i) (by omega) (by omega) i_M_list_54 ?_
    refine v_mlst B h1 (a := 22) (N := 40) (j := i + 1) rfl rfl (by decide) (by decide) (rfl) (by omega) (by omega) i_M_list_55 (fun X2 h2 f2 => ?_)
    refine v_iinc (v := nI i) i_M_list_56 rfl (pk_m1 i) (by decide) rfl ?_
    refine v_goto (tgt := 6) i_M_list_59 rfl ?_
    refine v_loc [(0, .ref m), (1, .int k), (2, .long w), (4, .int (nI i))] rfl ?_
    refine ih X2 _ _ (by omega) h2 ?_ ?_ ?_ ((hk.int (by decide)).long (by decide)) ((hs.trans f1).trans f2)
    · intro j hj
      rw [mIu_self, mJu_self, pk_un (by omega), pk_uLn (by omega)]
      exact hf1 j (by omega)
    · intro j hj1 hj2
      rw [mIu_self, mJu_self]
      by_cases hj : j = i
      · subst hj
        rw [pk_us, pk_uLs]
        exact hf1 j (by omega)
      · rw [pk_un (by omega), pk_uLn (by omega)]
        exact hf2 j (by omega) hj2
    · rw [hpos, rpos, if_pos]
      rw [← (hf1 i (by omega)).1]
      exact Int32.not_le.mp q21
theorem c_M_list (B : qB l s0 C) (h : MAt X m s I J) {R : qRw} (hR : mRw s I J R) (k : Int32) (w : Int64) (hlt : R.length < 40) : qMet l s0 C m_M_list rm_M_list [.ref m, .int k, .long w] X (fun r X'' => r = none ∧ ∃ s'' I'' J'', MAt X'' m s'' I'' J'' ∧ mRw s'' I'' J'' (rins R k w) ∧ mK [21, 22] I J I'' J'' ∧ sK [33] s s'' ∧ qSame X X'' m (m + 30)) (fun _ _ => False) := by
  obtain ⟨h0, -⟩ := id h
  obtain ⟨r1, r2, r3⟩ := hR
  refine q_of (by decide +kernel) (Nat.le_of_ble_eq_true rfl) ?_
  refine v_L (L' := [(0, .ref m), (1, .int k), (2, .long w)]) rfl ?_
  refine v_aload_n i_M_list_0 rfl ?_
  refine v_get B i_M_list_1 (by first | assumption | exact qset_self _ _ _ | (rw [qset_ne _ _ (by omega)]; first | assumption | exact qset_self _ _ _ | (rw [qset_ne _ _ (by omega)]; first | assumption | exact qset_self _ _ _ | (rw [qset_ne _ _ (by omega)]; first | assumption | exact qset_self _ _ _ | (rw [qset_ne _ _ (by omega)]; first | assumption | exact qset_self _ _ _ | (rw [qset_ne _ _ (by omega)]; first | assumption | exact qset_self _ _ _ | (rw [qset_ne _ _ (by omega)]; first | assumption | exact qset_self _ _ _))))))) rfl ?_
  rw [r1]
  refine v_istore i_M_list_4 (by decide) rfl ?_
  exact v_loc [(0, .ref m), (1, .int k), (2, .long w), (4, .int (nI R.length))] rfl (c_M_list_loop B k w hlt r1 R.length X I J (Nat.le_refl _) h r3 (fun j h1 h2 => by omega) rfl (mK.rf _ _ _) (qSame.rf _ _ _))
/-- what is alive in a page comes into the list, but for what goes -/
def mls (es : List Ent) (v : Nat) (o1 o2 : Option Nat) (R : qRw) : Nat → qRw
  | 0 => R
  | n + 1 => if alv (en es n) v = true ∧ ¬ some n = o1 ∧ ¬ some n = o2 then rins (mls es v o1 o2 R n) (en es n).1 (en es n).2.2.2 else mls es v o1 o2 R n
theorem mls_len (es : List Ent) (v : Nat) (o1 o2 : Option Nat) (R : qRw) : ∀ n, (mls es v o1 o2 R n).length ≤ R.length + n
  | 0 => Nat.le_refl _
  | n + 1 => by
    have := mls_len es v o1 o2 R n
    unfold mls
    split
    · rw [rins_len]; omega
    · omega
theorem vA_eq {p i : Nat} {o : Option Nat} (hp : p < 512) (hi : i < 16) (ho : oLt o 16) : nI (16 * p + i) = vA p o ↔ some i = o := by
  cases o with
  | none =>
    refine ⟨fun q => ?_, fun q => by cases q⟩
    have h1 := nI_toInt (n := 16 * p + i) (by omega)
    rw [q] at h1
    have h2 : (vA p none).toInt = -1 := rfl
    omega
  | some t =>
    have := ho t rfl
    refine ⟨fun q => ?_, fun q => by cases q; rfl⟩
    have := (nI_eq (by omega) (by omega)).mp q
    rw [show i = t by omega]
theorem c_M_listAlive_loop (B : qB l s0 C) {p v : Nat} {P : Pg} (hP : mPg I J p P) (hp : p < 512) (hv : v < 2 ^ 30) {o1 o2 : Option Nat} (ho1 : oLt o1 16) (ho2 : oLt o2 16) {R : qRw} (hR : R.length + P.2.2.2.length ≤ 40) (hg1 : s 28 = vA p o1) (hg2 : s 29 = vA p o2) : ∀ (j i : Nat) (X' : qX) (s' : Nat → Int32) (I' : Nat → Nat → Int32) (J' : Nat → Nat → Int64), i + j = P.2.2.2.length → MAt X' m s' I' J' → mRw s' I' J' (mls P.2.2.2 v o1 o2 R i) → mK [21, 22] I J I' J' → sK [33] s s' → qSame X X' m (m + 30) →
      qV l s0 C m_M_listAlive rm_M_listAlive (fun r X'' => r = none ∧ ∃ s'' I'' J'', MAt X'' m s'' I'' J'' ∧ mRw s'' I'' J'' (mls P.2.2.2 v o1 o2 R P.2.2.2.length) ∧ mK [21, 22] I J I'' J'' ∧ sK [33] s s'' ∧ qSame X X'' m (m + 30)) (fun _ _ => False) 0 0 X' 5 [(0, .ref m), (1, .int (nI p)), (2, .int (nI v)), (3, .int (nI (16 * p + i)))] [] := by
  intro j
  induction j with
  | zero =>
    intro i X' s' I' J' hij h hRw hk hs hq0
    have hP' := hP.keep hk (by decide)
    obtain ⟨h0, a1, a2, a3, a4, a5, a6, a7, a8, a9, a10, a11, a12, a13, a14, a15, a16, a17, a18, a19, a20, a21, a22, a23, a24, a25, a26, a27, a28, a29⟩ := h.all
    obtain ⟨⟨o1', o2', o3', o4, o5⟩, -, -, -, e4, e6⟩ := id hP'
    have hi : i = P.2.2.2.length := by omega
    subst hi
    refine v_iload_n i_M_listAlive_5 rfl ?_
    refine v_bipush (v := 16) i_M_listAlive_6 rfl ?_
    refine v_iload_n i_M_listAlive_8 rfl ?_
    refine v_imul i_M_listAlive_9 ?_
    refine v_aload_n i_M_listAlive_10 rfl ?_
    refine v_get B i_M_listAlive_11 (by first | assumption | exact qset_self _ _ _ | (rw [qset_ne _ _ (by omega)]; first | assumption | exact qset_self _ _ _ | (rw [qset_ne _ _ (by omega)]; first | assumption | exact qset_self _ _ _ | (rw [qset_ne _ _ (by omega)]; first | assumption | exact qset_self _ _ _ | (rw [qset_ne _ _ (by omega)]; first | assumption | exact qset_self _ _ _ | (rw [qset_ne _ _ (by omega)]; first | assumption | exact qset_self _ _ _ | (rw [qset_ne _ _ (by omega)]; first | assumption | exact qset_self _ _ _))))))) rfl ?_
    refine v_iload_n i_M_listAlive_14 rfl ?_
    refine v_iald B (by first | assumption | exact qset_self _ _ _ | (rw [qset_ne _ _ (by omega)]; first | assumption | exact qset_self _ _ _ | (rw [qset_ne _ _ (by omega)]; first | assumption | exact qset_self _ _ _ | (rw [qset_ne _ _ (by omega)]; first | assumption | exact qset_self _ _ _ | (rw [qset_ne _ _ (by omega)]; first | assumption | exact qset_self _ _ _ | (rw [qset_ne _ _ (by omega)]; first | assumption | exact qset_self _ _ _ | (rw [qset_ne _ _ (by omega)]; first | assumption | exact qset_self _ _ _))))))) rfl (by omega) (by omega) i_M_listAlive_15 ?_
    rw [n16, e4]
    refine v_iadd i_M_listAlive_16 ?_
    rw [nI_add]
    refine v_icmp_ge (tgt := 67) i_M_listAlive_17 rfl (fun q17 => ?_) (fun q17 => ?_)
    · exact v_vret i_M_listAlive_67 rfl (by decide) (by decide) ⟨rfl, s', I', J', h, hRw, hk, hs, hq0⟩
    · exact absurd (nI_le (by omega) (by omega)) q17
  | succ j ih =>
    intro i X' s' I' J' hij h hRw hk hs hq0
    have hP' := hP.keep hk (by decide)
    obtain ⟨h0, a1, a2, a3, a4, a5, a6, a7, a8, a9, a10, a11, a12, a13, a14, a15, a16, a17, a18, a19, a20, a21, a22, a23, a24, a25, a26, a27, a28, a29⟩ := h.all
    obtain ⟨⟨o1', o2', o3', o4, o5⟩, -, -, -, e4, e6⟩ := id hP'
    obtain ⟨k1, -, -, k4⟩ := e6 i (by omega)
    have tail : ∀ (X2 : qX) (s2 : Nat → Int32) (I2 : Nat → Nat → Int32) (J2 : Nat → Nat → Int64), MAt X2 m s2 I2 J2 → mRw s2 I2 J2 (mls P.2.2.2 v o1 o2 R (i + 1)) → mK [21, 22] I J I2 J2 → sK [33] s s2 → qSame X X2 m (m + 30) →
        qV l s0 C m_M_listAlive rm_M_listAlive (fun r X'' => r = none ∧ ∃ s'' I'' J'', MAt X'' m s'' I'' J'' ∧ mRw s'' I'' J'' (mls P.2.2.2 v o1 o2 R P.2.2.2.length) ∧ mK [21, 22] I J I'' J'' ∧ sK [33] s s'' ∧ qSame X X'' m (m + 30)) (fun _ _ => False) 0 0 X2 61 [(0, .ref m), (1, .int (nI p)), (2, .int (nI v)), (3, .int (nI (16 * p + i)))] [] := by
      intro X2 s2 I2 J2 h2 hR2 hk2 hs2 hf2
      refine v_iinc (v := nI (16 * p + (i + 1))) i_M_listAlive_61 rfl (nI_1 _) (by decide) rfl ?_
      refine v_goto (tgt := 5) i_M_listAlive_64 rfl ?_
      exact v_loc [(0, .ref m), (1, .int (nI p)), (2, .int (nI v)), (3, .int (nI (16 * p + (i + 1))))] rfl (ih (i + 1) X2 s2 I2 J2 (by omega) h2 hR2 hk2 hs2 hf2)
    have g1 : s' 28 = vA p o1 := by rw [hs 28 (by decide)]; exact hg1
    have g2 : s' 29 = vA p o2 := by rw [hs 29 (by decide)]; exact hg2
    refine v_iload_n i_M_listAlive_5 rfl ?_
    refine v_bipush (v := 16) i_M_listAlive_6 rfl ?_
    refine v_iload_n i_M_listAlive_8 rfl ?_
    refine v_imul i_M_listAlive_9 ?_
    refine v_aload_n i_M_listAlive_10 rfl ?_
    refine v_get B i_M_listAlive_11 (by first | assumption | exact qset_self _ _ _ | (rw [qset_ne _ _ (by omega)]; first | assumption | exact qset_self _ _ _ | (rw [qset_ne _ _ (by omega)]; first | assumption | exact qset_self _ _ _ | (rw [qset_ne _ _ (by omega)]; first | assumption | exact qset_self _ _ _ | (rw [qset_ne _ _ (by omega)]; first | assumption | exact qset_self _ _ _ | (rw [qset_ne _ _ (by omega)]; first | assumption | exact qset_self _ _ _ | (rw [qset_ne _ _ (by omega)]; first | assumption | exact qset_self _ _ _))))))) rfl ?_
    refine v_iload_n i_M_listAlive_14 rfl ?_
    refine v_iald B (by first | assumption | exact qset_self _ _ _ | (rw [qset_ne _ _ (by omega)]; first | assumption | exact qset_self _ _ _ | (rw [qset_ne _ _ (by omega)]; first | assumption | exact qset_self _ _ _ | (rw [qset_ne _ _ (by omega)]; first | assumption | exact qset_self _ _ _ | (rw [qset_ne _ _ (by omega)]; first | assumption | exact qset_self _ _ _ | (rw [qset_ne _ _ (by omega)]; first | assumption | exact qset_self _ _ _ | (rw [qset_ne _ _ (by omega)]; first | assumption | exact qset_self _ _ _))))))) rfl (by omega) (by omega) i_M_listAlive_15 ?_
    rw [n16, e4]
    refine v_iadd i_M_listAlive_16 ?_
    rw [nI_add]
    refine v_icmp_ge (tgt := 67) i_M_listAlive_17 rfl (fun q17 => ?_) (fun q17 => ?_)
    · exact absurd q17 (nI_ge (by omega) (by omega))
    refine v_aload_n i_M_listAlive_20 rfl ?_
    refine v_iload_n i_M_listAlive_21 rfl ?_
    refine v_iload_n i_M_listAlive_22 rfl ?_
    refine v_inv B i_M_listAlive_23 kn_m_M_isAlive (c_M_isAlive B h hP' hp (i := i) (by omega) hv) h0 rfl rfl (Nat.le_of_ble_eq_true rfl) ⟨by decide, by decide, by first | decide | (simp; omega), by first | decide | (simp; omega)⟩ rfl (fun r X' hq => ?_) (fun _ _ h => False.elim h)
    obtain ⟨rfl, rfl⟩ := hq
    refine v_if_eq (tgt := 61) i_M_listAlive_26 rfl (fun q26 => ?_) (fun q26 => ?_)
    · refine tail _ _ _ _ h ?_ hk hs hq0
      rw [mls, if_neg (fun q => by rw [bI_0.mp q26] at q; exact absurd q.1 (by decide))]
      exact hRw
    refine v_iload_n i_M_listAlive_29 rfl ?_
    refine v_aload_n i_M_listAlive_30 rfl ?_
    refine v_get B i_M_listAlive_31 (by first | assumption | exact qset_self _ _ _ | (rw [qset_ne _ _ (by omega)]; first | assumption | exact qset_self _ _ _ | (rw [qset_ne _ _ (by omega)]; first | assumption | exact qset_self _ _ _ | (rw [qset_ne _ _ (by omega)]; first | assumption | exact qset_self _ _ _ | (rw [qset_ne _ _ (by omega)]; first | assumption | exact qset_self _ _ _ | (rw [qset_ne _ _ (by omega)]; first | assumption | exact qset_self _ _ _ | (rw [qset_ne _ _ (by omega)]; first | assumption | exact qset_self _ _ _))))))) rfl ?_
    rw [g1]
    refine v_icmp_eq (tgt := 61) i_M_listAlive_34 rfl (fun q34 => ?_) (fun q34 => ?_)
    · refine tail _ _ _ _ h ?_ hk hs hq0
      rw [mls, if_neg (fun q => q.2.1 ((vA_eq hp (by omega) ho1).mp q34))]
      exact hRw
    refine v_iload_n i_M_listAlive_37 rfl ?_
    refine v_aload_n i_M_listAlive_38 rfl ?_
    refine v_get B i_M_listAlive_39 (by first | assumption | exact qset_self _ _ _ | (rw [qset_ne _ _ (by omega)]; first | assumption | exact qset_self _ _ _ | (rw [qset_ne _ _ (by omega)]; first | assumption | exact qset_self _ _ _ | (rw [qset_ne _ _ (by omega)]; first | assumption | exact qset_self _ _ _ | (rw [qset_ne _ _ (by omega)]; first | assumption | exact qset_self _ _ _ | (rw [qset_ne _ _ (by omega)]; first | assumption | exact qset_self _ _ _ | (rw [qset_ne _ _ (by omega)]; first | assumption | exact qset_self _ _ _))))))) rfl ?_
    rw [g2]
    refine v_icmp_eq (tgt := 61) i_M_listAlive_42 rfl (fun q42 => ?_) (fun q42 => ?_)
    · refine tail _ _ _ _ h ?_ hk hs hq0
      rw [mls, if_neg (fun q => q.2.2 ((vA_eq hp (by omega) ho2).mp q42))]
      exact hRw
    refine v_aload_n i_M_listAlive_45 rfl ?_
    refine v_aload_n i_M_listAlive_46 rfl ?_
    refine v_get B i_M_listAlive_47 (by first | assumption | exact qset_self _ _ _ | (rw [qset_ne _ _ (by omega)]; first | assumption | exact qset_self _ _ _ | (rw [qset_ne _ _ (by omega)]; first | assumption | exact qset_self _ _ _ | (rw [qset_ne _ _ (by omega)]; first | assumption | exact qset_self _ _ _ | (rw [qset_ne _ _ (by omega)]; first | assumption | exact qset_self _ _ _ | (rw [qset_ne _ _ (by omega)]; first | assumption | exact qset_self _ _ _ | (rw [qset_ne _ _ (by omega)]; first | assumption | exact qset_self _ _ _))))))) rfl ?_
    refine v_iload_n i_M_listAlive_50 rfl ?_
    refine v_iald B (by first | assumption | exact qset_self _ _ _ | (rw [qset_ne _ _ (by omega)]; first | assumption | exact qset_self _ _ _ | (rw [qset_ne _ _ (by omega)]; first | assumption | exact qset_self _ _ _ | (rw [qset_ne _ _ (by omega)]; first | assumption | exact qset_self _ _ _ | (rw [qset_ne _ _ (by omega)]; first | assumption | exact qset_self _ _ _ | (rw [qset_ne _ _ (by omega)]; first | assumption | exact qset_self _ _ _ | (rw [qset_ne _ _ (by omega)]; first | assumption | exact qset_self _ _ _))))))) rfl (by omega) (by omega) i_M_listAlive_51 ?_
    refine v_aload_n i_M_listAlive_52 rfl ?_
    refine v_get B i_M_listAlive_53 (by first | assumption | exact qset_self _ _ _ | (rw [qset_ne _ _ (by omega)]; first | assumption | exact qset_self _ _ _ | (rw [qset_ne _ _ (by omega)]; first | assumption | exact qset_self _ _ _ | (rw [qset_ne _ _ (by omega)]; first | assumption | exact qset_self _ _ _ | (rw [qset_ne _ _ (by omega)]; first | assumption | exact qset_self _ _ _ | (rw [qset_ne _ _ (by omega)]; first | assumption | exact qset_self _ _ _ | (rw [qset_ne _ _ (by omega)]; first | assumption | exact qset_self _ _ _))))))) rfl ?_
    refine v_iload_n i_M_listAlive_56 rfl ?_
    refine v_lald B (by first | assumption | exact qset_self _ _ _ | (rw [qset_ne _ _ (by omega)]; first | assumption | exact qset_self _ _ _ | (rw [qset_ne _ _ (by omega)]; first | assumption | exact qset_self _ _ _ | (rw [qset_ne _ _ (by omega)]; first | assumption | exact qset_self _ _ _ | (rw [qset_ne _ _ (by omega)]; first | assumption | exact qset_self _ _ _ | (rw [qset_ne _ _ (by omega)]; first | assumption | exact qset_self _ _ _ | (rw [qset_ne _ _ (by omega)]; first | assumption | exact qset_self _ _ _))))))) rfl (by omega) (by omega) i_M_listAlive_57 ?_
    rw [k1, k4]
    have hlen := mls_len P.2.2.2 v o1 o2 R i
    refine v_inv B i_M_listAlive_58 kn_m_M_list (c_M_list B h hRw (en P.2.2.2 i).1 (en P.2.2.2 i).2.2.2 (by omega)) h0 rfl rfl (Nat.le_of_ble_eq_true rfl) ⟨by decide, by decide, by first | decide | (simp; omega), by first | decide | (simp; omega)⟩ rfl (fun r X' hq => ?_) (fun _ _ h => False.elim h)
    obtain ⟨rfl, s3, I3, J3, h3, hR3, hk3, hs3, hf3⟩ := hq
    refine tail _ _ _ _ h3 ?_ (hk.trans hk3) (hs.trans hs3) (hq0.trans hf3)
    rw [mls, if_pos ⟨bI_ne q26, fun q => q34 ((vA_eq hp (by omega) ho1).mpr q), fun q => q42 ((vA_eq hp (by omega) ho2).mpr q)⟩]
    exact hR3
theorem c_M_listAlive (B : qB l s0 C) (h : MAt X m s I J) {p v : Nat} {P : Pg} (hP : mPg I J p P) (hp : p < 512) (hv : v < 2 ^ 30) {o1 o2 : Option Nat} (ho1 : oLt o1 16) (ho2 : oLt o2 16) {R : qRw} (hR0 : mRw s I J R) (hR : R.length + P.2.2.2.length ≤ 40) (hg1 : s 28 = vA p o1) (hg2 : s 29 = vA p o2) :
    qMet l s0 C m_M_listAlive rm_M_listAlive [.ref m, .int (nI p), .int (nI v)] X (fun r X'' => r = none ∧ ∃ s'' I'' J'', MAt X'' m s'' I'' J'' ∧ mRw s'' I'' J'' (mls P.2.2.2 v o1 o2 R P.2.2.2.length) ∧ mK [21, 22] I J I'' J'' ∧ sK [33] s s'' ∧ qSame X X'' m (m + 30)) (fun _ _ => False) := by
  refine q_of (by decide +kernel) (Nat.le_of_ble_eq_true rfl) ?_
  refine v_L (L' := [(0, .ref m), (1, .int (nI p)), (2, .int (nI v))]) rfl ?_
  refine v_bipush (v := 16) i_M_listAlive_0 rfl ?_
  refine v_iload_n i_M_listAlive_2 rfl ?_
  refine v_imul i_M_listAlive_3 ?_
  rw [n16]
  refine v_istore_n i_M_listAlive_4 (by decide) rfl ?_
  exact v_loc [(0, .ref m), (1, .int (nI p)), (2, .int (nI v)), (3, .int (nI (16 * p + 0)))] rfl (c_M_listAlive_loop B hP hp hv ho1 ho2 hR hg1 hg2 _ 0 X s I J (Nat.zero_add _) h hR0 (mK.rf _ _ _) (sK.rf _ _) (qSame.rf _ _ _))
end ML
