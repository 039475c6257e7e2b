/-! the reference: an update -/
def mPth (I : Nat → Nat → Int32) (q : Nat → Option Nat) : Prop := ∀ j i, q j = some i → j < 16 → I 23 j = nI i
/-- along the levels: what the reference asks -/
def mupOK (pn : Nat → Option Nat) (lat v : Nat) (k : Int32) : Nat → Nat → TU → Prop
  | 0, _, _ => False
  | n + 1, lev, s => mchOK pn lat v k lev s ∧ (∃ i, pn lev = some i) ∧ (¬ tps pn lev = s.2.2.1 v → lev + 1 < 16 ∧ ∃ i, pn (lev + 1) = some i) ∧ ((tch pn lat v k lev s).1 = true → mupOK pn lat v k n (lev + 1) (tch pn lat v k lev s).2)
theorem mupOK.weak {pn : Nat → Option Nat} {lat v : Nat} {k : Int32} : ∀ {n lev : Nat} {s : TU}, mupOK pn lat v k n lev s → tupOK pn lat v k n lev s
  | 0, _, _, h => h
  | _ + 1, _, _, h => ⟨h.1.1, fun q => (h.2.2.2 q).weak⟩
theorem tch_ro {pn : Nat → Option Nat} {lat v : Nat} {k : Int32} {lev : Nat} {s : TU} (h : (tch pn lat v k lev s).1 = true) : (tch pn lat v k lev s).2 = tchD pn lat v k lev s ∧ ¬ tps pn lev = s.2.2.1 v := by
  unfold tch at h ⊢
  by_cases h1 : tchA pn lat v lev s
  · rw [if_pos h1] at h; exact absurd (show false = true from h) (by decide)
  · rw [if_neg h1] at h ⊢
    by_cases h2 : tchB pn lat v lev s
    · rw [if_pos h2] at h; exact absurd (show false = true from h) (by decide)
    · rw [if_neg h2] at h ⊢
      by_cases h3 : tps pn lev = s.2.2.1 v
      · rw [if_pos h3] at h; exact absurd (show false = true from h) (by decide)
      · rw [if_neg h3]; exact ⟨rfl, h3⟩
theorem tps_some {pn : Nat → Option Nat} {j i : Nat} (h : pn j = some i) (hj : j < 16) : tps pn j = i := by
  unfold tps
  rw [if_pos hj, h]; rfl
theorem tdesc_leaf (pg : Nat → Pg) (made v : Nat) (k : Int32) : ∀ (n p : Nat) (f : Int64) (q : Nat → Option Nat), (tdesc pg made v k n p f q).1 = tlf pg made v k n p
  | 0, p, f, q => rfl
  | n + 1, p, f, q => by
    rw [tdesc, tlf]
    by_cases h : (pg p).1 = 0
    · rw [if_pos h, if_pos h]
    · rw [if_neg h, if_neg h]; exact tdesc_leaf pg made v k n _ _ _
theorem tlf_level {pg : Nat → Pg} {made v : Nat} {k : Int32} (hm : made ≤ 256) (hl : ∀ p, p < made → (pg p).2.2.2.length ≤ 16) : ∀ {n p : Nat}, mdOK pg made v k n p → (pg (tlf pg made v k n p)).1 = 0 ∧ tlf pg made v k n p < made
  | 0, p, h => ⟨h.2, h.1⟩
  | n + 1, p, h => by
    obtain ⟨hp, h⟩ := h
    rw [tlf]
    rcases h with h | ⟨h, i, c, hs, hc, hw, hd⟩
    · rw [if_pos h]; exact ⟨h, hp⟩
    · rw [if_neg (by omega), hs, show vO (some i) = nI i from rfl, gwhatAt_nI (gstand_lt hs) (hl p hp), hw, tpn_of hc hm]
      exact tlf_level hm hl hd
theorem tdesc_path0 {pg : Nat → Pg} {made v : Nat} {k : Int32} (hm : made ≤ 256) (hl : ∀ p, p < made → (pg p).2.2.2.length ≤ 16) : ∀ {n p : Nat} (f : Int64) (q : Nat → Option Nat), mdOK pg made v k n p → (tdesc pg made v k n p f q).2.2 0 = some (tlf pg made v k n p)
  | 0, p, f, q, h => by
    rw [tdesc, tlf, h.2]; show va_up q 0 (some p) 0 = _; exact va_up_self _ _ _
  | n + 1, p, f, q, h => by
    obtain ⟨hp, h⟩ := h
    rw [tdesc, tlf]
    rcases h with h | ⟨h, i, c, hs, hc, hw, hd⟩
    · rw [if_pos h, if_pos h, h]; show va_up q 0 (some p) 0 = _; exact va_up_self _ _ _
    · rw [if_neg (show ¬ (pg p).1 = 0 by omega), if_neg (show ¬ (pg p).1 = 0 by omega), hs, show vO (some i) = nI i from rfl, gwhatAt_nI (gstand_lt hs) (hl p hp), hw, tpn_of hc hm]
      exact tdesc_path0 hm hl _ _ hd
section MU
variable {X X' : qX} {m : Nat} {s : Nat → Int32} {I : Nat → Nat → Int32} {J : Nat → Nat → Int64}
variable {pg : Nat → Pg} {made lat kp : Nat} {ro : Nat → Nat} {k : Int32} {w : Int64} {b : Bool}
variable {l : Launch} {s0 : State} {C : qC}
theorem mPth.put {q : Nat → Option Nat} {p lv : Nat} (h : mPth I q) : mPth (mIu I 23 lv (nI p)) (if lv < 16 then va_up q lv (some p) else q) := by
  intro j i hj hj16
  rw [mIu_self]
  split at hj
  · by_cases hjl : j = lv
    · subst hjl; rw [va_up_self] at hj; cases hj; rw [pk_us]
    · rw [va_up_ne _ _ hjl] at hj; rw [pk_un hjl]; exact h j i hj hj16
  · rw [pk_un (by omega)]; exact h j i hj hj16
theorem c_M_update_a (B : qB l s0 C) {v : Nat} (r0 : Nat) (hT : MT s I J pg made lat (fun q => gchg (pg q) kp) ro lat) (hl16 : ∀ p, p < made → (pg p).1 < 17) {Qp : Option Value → qX → Prop}
    (q0 : Nat → Option Nat) (L0 : List (Nat × Value)) (hL0 : L0 = [(0, .ref m), (1, .int k), (2, .int (bI b)), (3, .long w), (5, .int (nI v)), (7, .int (nI r0))])
    (K : ∀ (X2 : qX) (I2 : Nat → Nat → Int32), MAt X2 m s I2 J → mPth I2 q0 → mK [23] I J I2 J → qSame X X2 m (m + 30) → qV l s0 C m_M_update rm_M_update Qp (fun _ _ => False) 0 0 X2 83 L0 []) :
    ∀ (n p : Nat) (f : Int64) (q : Nat → Option Nat) (X' : qX) (I' : Nat → Nat → Int32), mdOK pg made lat k n p → (tdesc pg made lat k n p f q).2.2 = q0 → MAt X' m s I' J → mPth I' (if (pg p).1 < 16 then va_up q (pg p).1 (some p) else q) → mK [23] I J I' J → qSame X X' m (m + 30) →
      qV l s0 C m_M_update rm_M_update Qp (fun _ _ => False) 0 0 X' 37 [(0, .ref m), (1, .int k), (2, .int (bI b)), (3, .long w), (5, .int (nI v)), (6, .int (nI p)), (7, .int (nI r0))] [] := by
  obtain ⟨t1, ⟨t2, t2b, t2c, t2d⟩, t3, t4, t5, t6⟩ := id hT
  have leaf : ∀ (p : Nat) (f : Int64) (q : Nat → Option Nat) (X' : qX) (I' : Nat → Nat → Int32), p < made → (pg p).1 = 0 → (if (pg p).1 < 16 then va_up q (pg p).1 (some p) else q) = q0 → MAt X' m s I' J → mPth I' (if (pg p).1 < 16 then va_up q (pg p).1 (some p) else q) → mK [23] I J I' J → qSame X X' m (m + 30) →
      qV l s0 C m_M_update rm_M_update Qp (fun _ _ => False) 0 0 X' 37 [(0, .ref m), (1, .int k), (2, .int (bI b)), (3, .long w), (5, .int (nI v)), (6, .int (nI p)), (7, .int (nI r0))] [] := by
    intro p f q X' I' hp hz he h hpt hk hf
    obtain ⟨h0, a1, a2, a3, a4, a5, a6, a7, a8, a9, a10, a11, a12, a13, a14, a15, a16, a17, a18, a19, a20, a21, a22, a23, a24, a25, a26, a27, a28, a29⟩ := h.all
    have e1 : I' 1 p = nI (pg p).1 := by rw [(hk 1 (by decide)).1]; exact (t4 p hp).2.1
    refine v_aload_n i_M_update_37 rfl ?_
    refine v_get B i_M_update_38 (by first | assumption | exact qset_self _ _ _ | (rw [qset_ne _ _ (by omega)]; first | assumption | exact qset_self _ _ _ | (rw [qset_ne _ _ (by omega)]; first | assumption | exact qset_self _ _ _ | (rw [qset_ne _ _ (by omega)]; first | assumption | exact qset_self _ _ _ | (rw [qset_ne _ _ (by omega)]; first | assumption | exact qset_self _ _ _ | (rw [qset_ne _ _ (by omega)]; first | assumption | exact qset_self _ _ _ | (rw [qset_ne _ _ (by omega)]; first | assumption | exact qset_self _ _ _))))))) rfl ?_
    refine v_iload i_M_update_41 rfl ?_
    refine v_iald B (by first | assumption | exact qset_self _ _ _ | (rw [qset_ne _ _ (by omega)]; first | assumption | exact qset_self _ _ _ | (rw [qset_ne _ _ (by omega)]; first | assumption | exact qset_self _ _ _ | (rw [qset_ne _ _ (by omega)]; first | assumption | exact qset_self _ _ _ | (rw [qset_ne _ _ (by omega)]; first | assumption | exact qset_self _ _ _ | (rw [qset_ne _ _ (by omega)]; first | assumption | exact qset_self _ _ _ | (rw [qset_ne _ _ (by omega)]; first | assumption | exact qset_self _ _ _))))))) rfl (by omega) (by omega) i_M_update_43 ?_
    rw [e1, hz]
    refine v_if_le (tgt := 83) i_M_update_44 rfl (fun q44 => ?_) (fun q44 => absurd (by decide) q44)
    have KK := K X' I' h (by rw [← he]; exact hpt) hk hf
    rw [hL0] at KK
    exact v_loc [(0, .ref m), (1, .int k), (2, .int (bI b)), (3, .long w), (5, .int (nI v)), (7, .int (nI r0))] rfl KK
  intro n
  induction n with
  | zero =>
    intro p f q X' I' hd he h hpt hk hf
    exact leaf p f q X' I' hd.1 hd.2 he h hpt hk hf
  | succ n ih =>
    intro p f q X' I' hd he h hpt hk hf
    obtain ⟨hp, hd⟩ := hd
    rcases hd with hz | ⟨hz, i, c, hs, hc, hw, hd⟩
    · rw [tdesc, if_pos hz] at he
      exact leaf p f q X' I' hp hz he h hpt hk hf
    have hP : mPg I' J p (pg p) := (t4 p hp).keep hk (by decide)
    obtain ⟨⟨o1, o2, o3, o4, o5⟩, e1, -, -, -, e6⟩ := id hP
    have hi := gstand_lt hs
    obtain ⟨-, -, -, k4⟩ := e6 i hi
    rw [tdesc, if_neg (by omega), hs, show vO (some i) = nI i from rfl, gwhatAt_nI hi o4, hw, tpn_of hc t2b] at he
    obtain ⟨h0, a1, a2, a3, a4, a5, a6, a7, a8, a9, a10, a11, a12, a13, a14, a15, a16, a17, a18, a19, a20, a21, a22, a23, a24, a25, a26, a27, a28, a29⟩ := h.all
    have ec : I' 1 c = nI (pg c).1 := by rw [(hk 1 (by decide)).1]; exact (t4 c hc).2.1
    have hc16 := hl16 c hc
    refine v_aload_n i_M_update_37 rfl ?_
    refine v_get B i_M_update_38 (by first | assumption | exact qset_self _ _ _ | (rw [qset_ne _ _ (by omega)]; first | assumption | exact qset_self _ _ _ | (rw [qset_ne _ _ (by omega)]; first | assumption | exact qset_self _ _ _ | (rw [qset_ne _ _ (by omega)]; first | assumption | exact qset_self _ _ _ | (rw [qset_ne _ _ (by omega)]; first | assumption | exact qset_self _ _ _ | (rw [qset_ne _ _ (by omega)]; first | assumption | exact qset_self _ _ _ | (rw [qset_ne _ _ (by omega)]; first | assumption | exact qset_self _ _ _))))))) rfl ?_
    refine v_iload i_M_update_41 rfl ?_
    refine v_iald B (by first | assumption | exact qset_self _ _ _ | (rw [qset_ne _ _ (by omega)]; first | assumption | exact qset_self _ _ _ | (rw [qset_ne _ _ (by omega)]; first | assumption | exact qset_self _ _ _ | (rw [qset_ne _ _ (by omega)]; first | assumption | exact qset_self _ _ _ | (rw [qset_ne _ _ (by omega)]; first | assumption | exact qset_self _ _ _ | (rw [qset_ne _ _ (by omega)]; first | assumption | exact qset_self _ _ _ | (rw [qset_ne _ _ (by omega)]; first | assumption | exact qset_self _ _ _))))))) rfl (by omega) (by omega) i_M_update_43 ?_
    rw [e1]
    refine v_if_le (tgt := 83) i_M_update_44 rfl (fun q44 => absurd q44 (nI_nle (by omega) (by omega))) (fun q44 => ?_)
    refine v_aload_n i_M_update_47 rfl ?_
    refine v_get B i_M_update_48 (by first | assumption | exact qset_self _ _ _ | (rw [qset_ne _ _ (by omega)]; first | assumption | exact qset_self _ _ _ | (rw [qset_ne _ _ (by omega)]; first | assumption | exact qset_self _ _ _ | (rw [qset_ne _ _ (by omega)]; first | assumption | exact qset_self _ _ _ | (rw [qset_ne _ _ (by omega)]; first | assumption | exact qset_self _ _ _ | (rw [qset_ne _ _ (by omega)]; first | assumption | exact qset_self _ _ _ | (rw [qset_ne _ _ (by omega)]; first | assumption | exact qset_self _ _ _))))))) rfl ?_
    refine v_aload_n i_M_update_51 rfl ?_
    refine v_iload i_M_update_52 rfl ?_
    refine v_aload_n i_M_update_54 rfl ?_
    refine v_get B i_M_update_55 (by first | assumption | exact qset_self _ _ _ | (rw [qset_ne _ _ (by omega)]; first | assumption | exact qset_self _ _ _ | (rw [qset_ne _ _ (by omega)]; first | assumption | exact qset_self _ _ _ | (rw [qset_ne _ _ (by omega)]; first | assumption | exact qset_self _ _ _ | (rw [qset_ne _ _ (by omega)]; first | assumption | exact qset_self _ _ _ | (rw [qset_ne _ _ (by omega)]; first | assumption | exact qset_self _ _ _ | (rw [qset_ne _ _ (by omega)]; first | assumption | exact qset_self _ _ _))))))) rfl ?_
    refine v_iload_n i_M_update_58 rfl ?_
    rw [t3]
    refine v_inv B i_M_update_59 kn_m_M_standing (c_M_standing B h k hP (by omega) (v := lat) (by omega)) h0 rfl rfl (Nat.le_of_ble_eq_true rfl) ⟨by decide, by decide, by first | decide | (simp; omega), by first | decide | (simp; omega)⟩ rfl (fun r X' hq => ?_) (fun _ _ h => False.elim h)
    obtain ⟨rfl, rfl⟩ := hq
    rw [hs, show vA p (some i) = nI (16 * p + i) from rfl]
    refine v_lald B (by first | assumption | exact qset_self _ _ _ | (rw [qset_ne _ _ (by omega)]; first | assumption | exact qset_self _ _ _ | (rw [qset_ne _ _ (by omega)]; first | assumption | exact qset_self _ _ _ | (rw [qset_ne _ _ (by omega)]; first | assumption | exact qset_self _ _ _ | (rw [qset_ne _ _ (by omega)]; first | assumption | exact qset_self _ _ _ | (rw [qset_ne _ _ (by omega)]; first | assumption | exact qset_self _ _ _ | (rw [qset_ne _ _ (by omega)]; first | assumption | exact qset_self _ _ _))))))) rfl (by omega) (by omega) i_M_update_62 ?_
    rw [k4, hw]
    refine v_l2i i_M_update_63 ?_
    rw [lN_i]
    refine v_istore i_M_update_64 (by decide) rfl ?_
    refine v_aload_n i_M_update_66 rfl ?_
    refine v_get B i_M_update_67 (by first | assumption | exact qset_self _ _ _ | (rw [qset_ne _ _ (by omega)]; first | assumption | exact qset_self _ _ _ | (rw [qset_ne _ _ (by omega)]; first | assumption | exact qset_self _ _ _ | (rw [qset_ne _ _ (by omega)]; first | assumption | exact qset_self _ _ _ | (rw [qset_ne _ _ (by omega)]; first | assumption | exact qset_self _ _ _ | (rw [qset_ne _ _ (by omega)]; first | assumption | exact qset_self _ _ _ | (rw [qset_ne _ _ (by omega)]; first | assumption | exact qset_self _ _ _))))))) rfl ?_
    refine v_aload_n i_M_update_70 rfl ?_
    refine v_get B i_M_update_71 (by first | assumption | exact qset_self _ _ _ | (rw [qset_ne _ _ (by omega)]; first | assumption | exact qset_self _ _ _ | (rw [qset_ne _ _ (by omega)]; first | assumption | exact qset_self _ _ _ | (rw [qset_ne _ _ (by omega)]; first | assumption | exact qset_self _ _ _ | (rw [qset_ne _ _ (by omega)]; first | assumption | exact qset_self _ _ _ | (rw [qset_ne _ _ (by omega)]; first | assumption | exact qset_self _ _ _ | (rw [qset_ne _ _ (by omega)]; first | assumption | exact qset_self _ _ _))))))) rfl ?_
    refine v_iload i_M_update_74 rfl ?_
    refine v_iald B (by first | assumption | exact qset_self _ _ _ | (rw [qset_ne _ _ (by omega)]; first | assumption | exact qset_self _ _ _ | (rw [qset_ne _ _ (by omega)]; first | assumption | exact qset_self _ _ _ | (rw [qset_ne _ _ (by omega)]; first | assumption | exact qset_self _ _ _ | (rw [qset_ne _ _ (by omega)]; first | assumption | exact qset_self _ _ _ | (rw [qset_ne _ _ (by omega)]; first | assumption | exact qset_self _ _ _ | (rw [qset_ne _ _ (by omega)]; first | assumption | exact qset_self _ _ _))))))) rfl (by omega) (by omega) i_M_update_76 ?_
    refine v_iload i_M_update_77 rfl ?_
    rw [ec]
    refine v_mist B h (a := 23) (N := 40) (j := (pg c).1) rfl rfl (by decide) (by decide) (rfl) (by omega) (by omega) i_M_update_79 (fun X2 h2 f2 => ?_)
    refine v_goto (tgt := 37) i_M_update_80 rfl ?_
    exact v_loc [(0, .ref m), (1, .int k), (2, .int (bI b)), (3, .long w), (5, .int (nI v)), (6, .int (nI c)), (7, .int (nI r0))] rfl (ih c _ _ X2 _ hd he h2 (hpt.put) (hk.int (by decide)) (hf.trans f2))
/-- level by level -/
theorem c_M_update_b (B : qB l s0 C) (pn : Nat → Option Nat) {v : Nat} (hv : v = lat + 1) (hkp : kp ≤ lat) (r0 : Nat) (hpth : mPth I pn) {Qp : Option Value → qX → Prop} (U : TU)
    (K : ∀ (X2 : qX) (s2 : Nat → Int32) (I2 : Nat → Nat → Int32) (J2 : Nat → Nat → Int64) (z : Int32), MAt X2 m s2 I2 J2 → MT s2 I2 J2 U.1 U.2.1 lat (fun q => gchg (U.1 q) kp) U.2.2.1 v → mSn I J I2 J2 → mK [1, 2, 3, 4, 5, 6, 7, 8, 9, 10, 19, 20, 21, 22] I J I2 J2 → sK [10, 28, 29, 30, 33] s s2 → qSame X X2 m (m + 30) → qV l s0 C m_M_update rm_M_update Qp (fun _ _ => False) 0 0 X2 191 [(0, .ref m), (1, .int k), (2, .int (bI b)), (3, .long w), (5, .int (nI v)), (7, .int (nI r0)), (8, .int z)] []) :
    ∀ (n lev : Nat) (S : TU) (X' : qX) (s' : Nat → Int32) (I' : Nat → Nat → Int32) (J' : Nat → Nat → Int64), lev + n ≤ 16 → mupOK pn lat v k n lev S → tup pn lat v k n lev S = U → S.2.2.1 v = r0 → r0 < 256 → MAt X' m s' I' J' → MT s' I' J' S.1 S.2.1 lat (fun q => gchg (S.1 q) kp) S.2.2.1 v → s' 28 = vA (tps pn lev) S.2.2.2.1 → s' 29 = vA (tps pn lev) S.2.2.2.2.1 → mCo s' I' J' S.2.2.2.2.2 → mSn I J I' J' → mK [1, 2, 3, 4, 5, 6, 7, 8, 9, 10, 19, 20, 21, 22] I J I' J' → sK [10, 28, 29, 30, 33] s s' → qSame X X' m (m + 30) →
      qV l s0 C m_M_update rm_M_update Qp (fun _ _ => False) 0 0 X' 140 [(0, .ref m), (1, .int k), (2, .int (bI b)), (3, .long w), (5, .int (nI v)), (7, .int (nI r0)), (8, .int (nI lev))] [] := by
  intro n
  induction n with
  | zero => intro lev S X' s' I' J' hln hok; exact False.elim hok
  | succ n ih =>
    intro lev S X' s' I' J' hln hok hU hr hr6 h hT hg1 hg2 hCo hsn hk hs hf
    obtain ⟨hok1, ⟨p, hpn⟩, hpn2, hok2⟩ := hok
    obtain ⟨⟨hp, hlev, hlv, -⟩, -⟩ := id hok1
    have htp := tps_some hpn hlev
    have e23 : I' 23 lev = nI (tps pn lev) := by rw [(hk 23 (by decide)).1, htp]; exact hpth lev p hpn hlev
    obtain ⟨t1, ⟨t2, t2b, t2c, t2d⟩, t3, t4, t5, t6⟩ := id hT
    obtain ⟨h0, a1, a2, a3, a4, a5, a6, a7, a8, a9, a10, a11, a12, a13, a14, a15, a16, a17, a18, a19, a20, a21, a22, a23, a24, a25, a26, a27, a28, a29⟩ := h.all
    have hpath : ¬ tps pn lev = S.2.2.1 v → I' 23 (lev + 1) = nI (tps pn (lev + 1)) := by
      intro hne
      obtain ⟨hl2, p2, hp2⟩ := hpn2 hne
      rw [(hk 23 (by decide)).1, tps_some hp2 hl2]
      exact hpth (lev + 1) p2 hp2 hl2
    have hp6 : tps pn lev < 256 := by omega
    refine v_iload i_M_update_140 rfl ?_
    refine v_if_lt (tgt := 191) i_M_update_142 rfl (fun q142 => absurd q142 (nI_pos (by omega))) (fun _ => ?_)
    have call : qV l s0 C m_M_update rm_M_update Qp (fun _ _ => False) 0 0 X' 172 [(0, .ref m), (1, .int k), (2, .int (bI b)), (3, .long w), (5, .int (nI v)), (7, .int (nI r0)), (8, .int (nI lev))] [.int (bI (decide (tps pn lev = S.2.2.1 v))), .int (nI v), .int (nI (tps pn lev)), .ref m] := by
      obtain ⟨pg', made', ro', o1, o2, co⟩ := S
      refine v_inv B i_M_update_172 kn_m_M_change (c_M_change B h hT hv hkp hg1 hg2 hCo hpath hok1) h0 rfl rfl (Nat.le_of_ble_eq_true rfl) ⟨by decide, by decide, by first | decide | (simp; omega), by first | decide | (simp; omega)⟩ rfl (fun r X' hq => ?_) (fun _ _ h => False.elim h)
      obtain ⟨rfl, s2, I2, J2, h2, hT2, hgo, hsn2, hk2, hs2, hf2⟩ := hq
      have hk2' := hk.trans hk2
      have hs2' := hs.trans hs2
      have hsn2' := hsn.trans hsn2
      have hf2' := hf.trans hf2
      by_cases ht : (tch pn lat v k lev (pg', made', ro', o1, o2, co)).1 = true
      · rw [ht, show bI true = 1 from rfl]
        refine v_if_eq (tgt := 185) i_M_update_175 rfl (fun q175 => absurd q175 (by decide)) (fun _ => ?_)
        refine v_iload i_M_update_178 rfl ?_
        refine v_iconst (v := 1) i_M_update_180 rfl ?_
        refine v_iadd i_M_update_181 ?_
        refine v_goto (tgt := 186) i_M_update_182 rfl ?_
        refine v_istore i_M_update_186 (by decide) rfl ?_
        refine v_goto (tgt := 140) i_M_update_188 rfl ?_
        rw [nI_1]
        obtain ⟨e1, e2⟩ := tch_ro ht
        obtain ⟨g1, g2, g3⟩ := hgo ht
        refine v_loc [(0, .ref m), (1, .int k), (2, .int (bI b)), (3, .long w), (5, .int (nI v)), (7, .int (nI r0)), (8, .int (nI (lev + 1)))] rfl ?_
        refine ih (lev + 1) (tch pn lat v k lev (pg', made', ro', o1, o2, co)).2 X' s2 I2 J2 (by omega) (hok2 ht) (by rw [← hU, tup, if_pos ht]) (by rw [e1]; exact hr) hr6 h2 hT2 g1 g2 g3 hsn2' hk2' hs2' hf2'
      · rw [show (tch pn lat v k lev (pg', made', ro', o1, o2, co)).1 = false by cases hq : (tch pn lat v k lev (pg', made', ro', o1, o2, co)).1; rfl; exact absurd hq ht, show bI false = 0 from rfl]
        refine v_if_eq (tgt := 185) i_M_update_175 rfl (fun _ => ?_) (fun q175 => absurd rfl q175)
        refine v_iconst (v := (-1)) i_M_update_185 rfl ?_
        refine v_istore i_M_update_186 (by decide) rfl ?_
        refine v_goto (tgt := 140) i_M_update_188 rfl ?_
        refine v_iload i_M_update_140 rfl ?_
        refine v_if_lt (tgt := 191) i_M_update_142 rfl (fun _ => ?_) (fun q142 => absurd (by decide) q142)
        have hU' : (tch pn lat v k lev (pg', made', ro', o1, o2, co)).2 = U := by rw [← hU, tup, if_neg ht]
        rw [hU'] at hT2
        exact v_loc [(0, .ref m), (1, .int k), (2, .int (bI b)), (3, .long w), (5, .int (nI v)), (7, .int (nI r0)), (8, .int (-1))] rfl (K X' s2 I2 J2 (-1) h2 hT2 hsn2' hk2' hs2' hf2')
    refine v_aload_n i_M_update_145 rfl ?_
    refine v_aload_n i_M_update_146 rfl ?_
    refine v_get B i_M_update_147 (by first | assumption | exact qset_self _ _ _ | (rw [qset_ne _ _ (by omega)]; first | assumption | exact qset_self _ _ _ | (rw [qset_ne _ _ (by omega)]; first | assumption | exact qset_self _ _ _ | (rw [qset_ne _ _ (by omega)]; first | assumption | exact qset_self _ _ _ | (rw [qset_ne _ _ (by omega)]; first | assumption | exact qset_self _ _ _ | (rw [qset_ne _ _ (by omega)]; first | assumption | exact qset_self _ _ _ | (rw [qset_ne _ _ (by omega)]; first | assumption | exact qset_self _ _ _))))))) rfl ?_
    refine v_iload i_M_update_150 rfl ?_
    refine v_iald B (by first | assumption | exact qset_self _ _ _ | (rw [qset_ne _ _ (by omega)]; first | assumption | exact qset_self _ _ _ | (rw [qset_ne _ _ (by omega)]; first | assumption | exact qset_self _ _ _ | (rw [qset_ne _ _ (by omega)]; first | assumption | exact qset_self _ _ _ | (rw [qset_ne _ _ (by omega)]; first | assumption | exact qset_self _ _ _ | (rw [qset_ne _ _ (by omega)]; first | assumption | exact qset_self _ _ _ | (rw [qset_ne _ _ (by omega)]; first | assumption | exact qset_self _ _ _))))))) rfl (by omega) (by omega) i_M_update_152 ?_
    refine v_iload i_M_update_153 rfl ?_
    refine v_aload_n i_M_update_155 rfl ?_
    refine v_get B i_M_update_156 (by first | assumption | exact qset_self _ _ _ | (rw [qset_ne _ _ (by omega)]; first | assumption | exact qset_self _ _ _ | (rw [qset_ne _ _ (by omega)]; first | assumption | exact qset_self _ _ _ | (rw [qset_ne _ _ (by omega)]; first | assumption | exact qset_self _ _ _ | (rw [qset_ne _ _ (by omega)]; first | assumption | exact qset_self _ _ _ | (rw [qset_ne _ _ (by omega)]; first | assumption | exact qset_self _ _ _ | (rw [qset_ne _ _ (by omega)]; first | assumption | exact qset_self _ _ _))))))) rfl ?_
    refine v_iload i_M_update_159 rfl ?_
    refine v_iald B (by first | assumption | exact qset_self _ _ _ | (rw [qset_ne _ _ (by omega)]; first | assumption | exact qset_self _ _ _ | (rw [qset_ne _ _ (by omega)]; first | assumption | exact qset_self _ _ _ | (rw [qset_ne _ _ (by omega)]; first | assumption | exact qset_self _ _ _ | (rw [qset_ne _ _ (by omega)]; first | assumption | exact qset_self _ _ _ | (rw [qset_ne _ _ (by omega)]; first | assumption | exact qset_self _ _ _ | (rw [qset_ne _ _ (by omega)]; first | assumption | exact qset_self _ _ _))))))) rfl (by omega) (by omega) i_M_update_161 ?_
    refine v_iload i_M_update_162 rfl ?_
    rw [e23]
    refine v_icmp_ne (tgt := 171) i_M_update_164 rfl (fun q164 => ?_) (fun q164 => ?_)
    · rw [show bI (decide (tps pn lev = S.2.2.1 v)) = 0 by rw [decide_eq_false (fun z => q164 (by rw [z, hr]))]; rfl] at call
      refine v_iconst (v := 0) i_M_update_171 rfl ?_
      exact call
    · have z : tps pn lev = S.2.2.1 v := by rw [hr]; exact (nI_eq (by omega) (by omega)).mp q164
      rw [show bI (decide (tps pn lev = S.2.2.1 v)) = 1 by rw [decide_eq_true z]; rfl] at call
      refine v_iconst (v := 1) i_M_update_167 rfl ?_
      refine v_goto (tgt := 172) i_M_update_168 rfl ?_
      exact call
theorem MT.grow {dt : Nat → Bool} (h : MT s I J pg made lat dt ro lat) {x : Nat} (hx : x < 256) (hl : lat < 3999) : MT s (mIu I 10 (lat + 1) (nI x)) J pg made lat dt (va_up ro (lat + 1) x) (lat + 1) := by
  have hk : mK [10] I J (mIu I 10 (lat + 1) (nI x)) J := (mK.rf _ _ _).int (by decide)
  obtain ⟨h1, ⟨h2, h2b, h2c, h2d⟩, h3, h4, h5, h6⟩ := h
  refine ⟨h1, ⟨h2, h2b, h2c, by omega⟩, h3, fun p hp => (h4 p hp).keep hk (by decide), fun w hw => ?_, fun p hp => by rw [(hk 5 (by decide)).1]; exact h6 p hp⟩
  rw [mIu_self]
  by_cases hwv : w = lat + 1
  · subst hwv; rw [pk_us, va_up_self]; exact ⟨rfl, hx⟩
  · rw [pk_un hwv, va_up_ne _ _ hwv]; exact h5 w (by omega)
theorem MT.late {dt : Nat → Bool} {rb : Nat} (h : MT s I J pg made lat dt ro rb) {v : Nat} (hl : v < 4000) : MT (upd s 12 (nI v)) I J pg made v dt ro rb := by
  obtain ⟨h1, ⟨h2, h2b, h2c, h2d⟩, h3, h4, h5, h6⟩ := h
  exact ⟨by rw [pk_un (by decide)]; exact h1, ⟨h2, h2b, hl, h2d⟩, pk_us, h4, h5, h6⟩
/-- an update -/
theorem c_M_update (B : qB l s0 C) (h : MAt X m s I J) (hT : MT s I J pg made lat (fun q => gchg (pg q) kp) ro lat) (hkp : kp ≤ lat) (hlat : lat < 3999) (hr0 : ro lat < made) (hl16 : ∀ p, p < made → (pg p).1 < 17) (hd : mdOK pg made lat k 16 (ro lat))
    (hok : mupOK (tdes pg made ro (fun _ => none) lat k).2.2 lat (lat + 1) k 16 0 (tup0 pg made lat ro (fun _ => none) k w b)) :
    qMet l s0 C m_M_update rm_M_update [.ref m, .int k, .int (bI b), .long w] X (fun r X' => r = none ∧ ∃ s' I' J', MAt X' m s' I' J' ∧ MT s' I' J' (tupd pg made lat ro (fun _ => none) k w b).1 (tupd pg made lat ro (fun _ => none) k w b).2.1 (lat + 1) (fun q => gchg ((tupd pg made lat ro (fun _ => none) k w b).1 q) kp) (tupd pg made lat ro (fun _ => none) k w b).2.2.1 (lat + 1) ∧ mSn I J I' J' ∧ mK [1, 2, 3, 4, 5, 6, 7, 8, 9, 10, 19, 20, 21, 22, 23] I J I' J' ∧ sK [10, 12, 28, 29, 30, 33] s s' ∧ qSame X X' m (m + 30)) (fun _ _ => False) := by
  obtain ⟨t1, ⟨t2, t2b, t2c, t2d⟩, t3, t4, t5, t6⟩ := id hT
  obtain ⟨h0, a1, a2, a3, a4, a5, a6, a7, a8, a9, a10, a11, a12, a13, a14, a15, a16, a17, a18, a19, a20, a21, a22, a23, a24, a25, a26, a27, a28, a29⟩ := h.all
  obtain ⟨⟨ok1, ok2, ok3, ok4, ok5⟩, e1, -⟩ := id (t4 _ hr0)
  have hlv := hl16 _ hr0
  refine q_of (by decide +kernel) (Nat.le_of_ble_eq_true rfl) ?_
  refine v_L (L' := [(0, .ref m), (1, .int k), (2, .int (bI b)), (3, .long w)]) rfl ?_
  refine v_aload_n i_M_update_0 rfl ?_
  refine v_get B i_M_update_1 (by first | assumption | exact qset_self _ _ _ | (rw [qset_ne _ _ (by omega)]; first | assumption | exact qset_self _ _ _ | (rw [qset_ne _ _ (by omega)]; first | assumption | exact qset_self _ _ _ | (rw [qset_ne _ _ (by omega)]; first | assumption | exact qset_self _ _ _ | (rw [qset_ne _ _ (by omega)]; first | assumption | exact qset_self _ _ _ | (rw [qset_ne _ _ (by omega)]; first | assumption | exact qset_self _ _ _ | (rw [qset_ne _ _ (by omega)]; first | assumption | exact qset_self _ _ _))))))) rfl ?_
  rw [t3]
  refine v_iconst (v := 1) i_M_update_4 rfl ?_
  refine v_iadd i_M_update_5 ?_
  refine v_istore i_M_update_6 (by decide) rfl ?_
  refine v_aload_n i_M_update_8 rfl ?_
  refine v_get B i_M_update_9 (by first | assumption | exact qset_self _ _ _ | (rw [qset_ne _ _ (by omega)]; first | assumption | exact qset_self _ _ _ | (rw [qset_ne _ _ (by omega)]; first | assumption | exact qset_self _ _ _ | (rw [qset_ne _ _ (by omega)]; first | assumption | exact qset_self _ _ _ | (rw [qset_ne _ _ (by omega)]; first | assumption | exact qset_self _ _ _ | (rw [qset_ne _ _ (by omega)]; first | assumption | exact qset_self _ _ _ | (rw [qset_ne _ _ (by omega)]; first | assumption | exact qset_self _ _ _))))))) rfl ?_
  refine v_aload_n i_M_update_12 rfl ?_
  refine v_get B i_M_update_13 (by first | assumption | exact qset_self _ _ _ | (rw [qset_ne _ _ (by omega)]; first | assumption | exact qset_self _ _ _ | (rw [qset_ne _ _ (by omega)]; first | assumption | exact qset_self _ _ _ | (rw [qset_ne _ _ (by omega)]; first | assumption | exact qset_self _ _ _ | (rw [qset_ne _ _ (by omega)]; first | assumption | exact qset_self _ _ _ | (rw [qset_ne _ _ (by omega)]; first | assumption | exact qset_self _ _ _ | (rw [qset_ne _ _ (by omega)]; first | assumption | exact qset_self _ _ _))))))) rfl ?_
  rw [t3, nI_1]
  refine v_iald (j := lat) B a10 rfl (by omega) (by omega) i_M_update_16 ?_
  rw [(t5 lat (Nat.le_refl _)).1]
  refine v_istore i_M_update_17 (by decide) rfl ?_
  refine v_iload i_M_update_19 rfl ?_
  refine v_istore i_M_update_21 (by decide) rfl ?_
  refine v_aload_n i_M_update_23 rfl ?_
  refine v_get B i_M_update_24 (by first | assumption | exact qset_self _ _ _ | (rw [qset_ne _ _ (by omega)]; first | assumption | exact qset_self _ _ _ | (rw [qset_ne _ _ (by omega)]; first | assumption | exact qset_self _ _ _ | (rw [qset_ne _ _ (by omega)]; first | assumption | exact qset_self _ _ _ | (rw [qset_ne _ _ (by omega)]; first | assumption | exact qset_self _ _ _ | (rw [qset_ne _ _ (by omega)]; first | assumption | exact qset_self _ _ _ | (rw [qset_ne _ _ (by omega)]; first | assumption | exact qset_self _ _ _))))))) rfl ?_
  refine v_aload_n i_M_update_27 rfl ?_
  refine v_get B i_M_update_28 (by first | assumption | exact qset_self _ _ _ | (rw [qset_ne _ _ (by omega)]; first | assumption | exact qset_self _ _ _ | (rw [qset_ne _ _ (by omega)]; first | assumption | exact qset_self _ _ _ | (rw [qset_ne _ _ (by omega)]; first | assumption | exact qset_self _ _ _ | (rw [qset_ne _ _ (by omega)]; first | assumption | exact qset_self _ _ _ | (rw [qset_ne _ _ (by omega)]; first | assumption | exact qset_self _ _ _ | (rw [qset_ne _ _ (by omega)]; first | assumption | exact qset_self _ _ _))))))) rfl ?_
  refine v_iload i_M_update_31 rfl ?_
  refine v_iald B (by first | assumption | exact qset_self _ _ _ | (rw [qset_ne _ _ (by omega)]; first | assumption | exact qset_self _ _ _ | (rw [qset_ne _ _ (by omega)]; first | assumption | exact qset_self _ _ _ | (rw [qset_ne _ _ (by omega)]; first | assumption | exact qset_self _ _ _ | (rw [qset_ne _ _ (by omega)]; first | assumption | exact qset_self _ _ _ | (rw [qset_ne _ _ (by omega)]; first | assumption | exact qset_self _ _ _ | (rw [qset_ne _ _ (by omega)]; first | assumption | exact qset_self _ _ _))))))) rfl (by omega) (by omega) i_M_update_33 ?_
  refine v_iload i_M_update_34 rfl ?_
  rw [e1]
  refine v_mist B h (a := 23) (N := 40) (j := (pg (ro lat)).1) rfl rfl (by decide) (by decide) (rfl) (by omega) (by omega) i_M_update_36 (fun X1 h1 f1 => ?_)
  have ed : tdes pg made ro (fun _ => none) lat k = tdesc pg made lat k 16 (ro lat) 9223372036854775807 (fun _ => none) := by unfold tdes; rw [tpn_nI hr0 t2b]
  have hleaf : (tdes pg made ro (fun _ => none) lat k).1 = tlf pg made lat k 16 (ro lat) := by rw [ed]; exact tdesc_leaf _ _ _ _ _ _ _ _
  have hp0 : (tdes pg made ro (fun _ => none) lat k).2.2 0 = some (tlf pg made lat k 16 (ro lat)) := by rw [ed]; exact tdesc_path0 t2b (fun p hp => (t4 p hp).1.2.2.2.1) _ _ hd
  have htp0 : tps (tdes pg made ro (fun _ => none) lat k).2.2 0 = tlf pg made lat k 16 (ro lat) := tps_some hp0 (by omega)
  have hk1 : mK [23] I J (mIu I 23 (pg (ro lat)).1 (nI (ro lat))) J := (mK.rf _ _ _).int (by decide)
  have hpt0 : mPth I (fun _ => none) := fun j i q => (nomatch q)
  refine v_loc [(0, .ref m), (1, .int k), (2, .int (bI b)), (3, .long w), (5, .int (nI (lat + 1))), (6, .int (nI (ro lat))), (7, .int (nI (ro lat)))] rfl ?_
  refine c_M_update_a (X := X) B (v := lat + 1) (ro lat) hT hl16 (tdes pg made ro (fun _ => none) lat k).2.2 _ rfl (fun X2 I2 h2 hpt2 hk2 hf2 => ?_) 16 (ro lat) 9223372036854775807 (fun _ => none) X1 _ hd (by rw [ed]) h1 hpt0.put hk1 f1
  have hT2 := hT.keep hk2 (sK.rf [] s) (by decide) (by decide)
  obtain ⟨b0, -⟩ := id h2
  refine v_aload_n i_M_update_83 rfl ?_
  refine v_aload_n i_M_update_84 rfl ?_
  refine v_aload_n i_M_update_85 rfl ?_
  refine v_get B i_M_update_86 (by first | assumption | exact qset_self _ _ _ | (rw [qset_ne _ _ (by omega)]; first | assumption | exact qset_self _ _ _ | (rw [qset_ne _ _ (by omega)]; first | assumption | exact qset_self _ _ _ | (rw [qset_ne _ _ (by omega)]; first | assumption | exact qset_self _ _ _ | (rw [qset_ne _ _ (by omega)]; first | assumption | exact qset_self _ _ _ | (rw [qset_ne _ _ (by omega)]; first | assumption | exact qset_self _ _ _ | (rw [qset_ne _ _ (by omega)]; first | assumption | exact qset_self _ _ _))))))) rfl ?_
  refine v_iload_n i_M_update_89 rfl ?_
  rw [t3]
  refine v_inv B i_M_update_90 kn_m_M_leafEntry (c_M_leafEntry B h2 k hT2.2.2.2.1 t2b (by omega) (by rw [(hk2 10 (by decide)).1]; exact (t5 lat (Nat.le_refl _)).1) (n := 16) hd) b0 rfl rfl (Nat.le_of_ble_eq_true rfl) ⟨by decide, by decide, by first | decide | (simp; omega), by first | decide | (simp; omega)⟩ rfl (fun r X' hq => ?_) (fun _ _ h => False.elim h)
  obtain ⟨rfl, rfl⟩ := hq
  refine v_mput B h2 (j := 28) i_M_update_93 (Nat.le_of_ble_eq_true rfl) rfl rfl rfl (fun X3 h3 f3 => ?_)
  refine v_aload_n i_M_update_96 rfl ?_
  refine v_iconst (v := (-1)) i_M_update_97 rfl ?_
  refine v_mput B h3 (j := 29) i_M_update_98 (Nat.le_of_ble_eq_true rfl) rfl rfl rfl (fun X4 h4 f4 => ?_)
  have cont : ∀ (cz : Int32) (X4 : qX) (s4 : Nat → Int32), cz = nI (if b = true then [(k, w)] else ([] : qRw)).length → MAt X4 m s4 I2 J → sK [28, 29] s s4 → s4 28 = vA (tlf pg made lat k 16 (ro lat)) (gslot (pg (tlf pg made lat k 16 (ro lat))) k lat) → s4 29 = -1 → qSame X X4 m (m + 30) →
      qV l s0 C m_M_update rm_M_update (fun r X' => r = none ∧ ∃ s' I' J', MAt X' m s' I' J' ∧ MT s' I' J' (tupd pg made lat ro (fun _ => none) k w b).1 (tupd pg made lat ro (fun _ => none) k w b).2.1 (lat + 1) (fun q => gchg ((tupd pg made lat ro (fun _ => none) k w b).1 q) kp) (tupd pg made lat ro (fun _ => none) k w b).2.2.1 (lat + 1) ∧ mSn I J I' J' ∧ mK [1, 2, 3, 4, 5, 6, 7, 8, 9, 10, 19, 20, 21, 22, 23] I J I' J' ∧ sK [10, 12, 28, 29, 30, 33] s s' ∧ qSame X X' m (m + 30)) (fun _ _ => False) 0 0 X4 111 [(0, .ref m), (1, .int k), (2, .int (bI b)), (3, .long w), (5, .int (nI (lat + 1))), (7, .int (nI (ro lat)))] [.int cz, .ref m] := by
    intro cz X4 s4 hcz h4 hs4 g28 g29 hf4
    subst hcz
    refine v_mput B h4 (j := 30) i_M_update_111 (Nat.le_of_ble_eq_true rfl) rfl rfl rfl (fun X5 h5 f5 => ?_)
    obtain ⟨h0, a1, a2, a3, a4, a5, a6, a7, a8, a9, a10, a11, a12, a13, a14, a15, a16, a17, a18, a19, a20, a21, a22, a23, a24, a25, a26, a27, a28, a29⟩ := h5.all
    refine v_aload_n i_M_update_114 rfl ?_
    refine v_get B i_M_update_115 (by first | assumption | exact qset_self _ _ _ | (rw [qset_ne _ _ (by omega)]; first | assumption | exact qset_self _ _ _ | (rw [qset_ne _ _ (by omega)]; first | assumption | exact qset_self _ _ _ | (rw [qset_ne _ _ (by omega)]; first | assumption | exact qset_self _ _ _ | (rw [qset_ne _ _ (by omega)]; first | assumption | exact qset_self _ _ _ | (rw [qset_ne _ _ (by omega)]; first | assumption | exact qset_self _ _ _ | (rw [qset_ne _ _ (by omega)]; first | assumption | exact qset_self _ _ _))))))) rfl ?_
    refine v_iconst (v := 0) i_M_update_118 rfl ?_
    refine v_iload_n i_M_update_119 rfl ?_
    refine v_mist B h5 (a := 19) (N := 2) (j := 0) rfl rfl (by decide) (by decide) (rfl) (by omega) (by omega) i_M_update_120 (fun X6 h6 f6 => ?_)
    obtain ⟨c0, -⟩ := id h6
    refine v_aload_n i_M_update_121 rfl ?_
    refine v_get B i_M_update_122 (by first | assumption | exact qset_self _ _ _ | (rw [qset_ne _ _ (by omega)]; first | assumption | exact qset_self _ _ _ | (rw [qset_ne _ _ (by omega)]; first | assumption | exact qset_self _ _ _ | (rw [qset_ne _ _ (by omega)]; first | assumption | exact qset_self _ _ _ | (rw [qset_ne _ _ (by omega)]; first | assumption | exact qset_self _ _ _ | (rw [qset_ne _ _ (by omega)]; first | assumption | exact qset_self _ _ _ | (rw [qset_ne _ _ (by omega)]; first | assumption | exact qset_self _ _ _))))))) rfl ?_
    refine v_iconst (v := 0) i_M_update_125 rfl ?_
    refine v_lload_n i_M_update_126 rfl ?_
    refine v_mlst B h6 (a := 20) (N := 2) (j := 0) rfl rfl (by decide) (by decide) (rfl) (by omega) (by omega) i_M_update_127 (fun X7 h7 f7 => ?_)
    obtain ⟨d0, -⟩ := id h7
    refine v_aload_n i_M_update_128 rfl ?_
    refine v_get B i_M_update_129 (by first | assumption | exact qset_self _ _ _ | (rw [qset_ne _ _ (by omega)]; first | assumption | exact qset_self _ _ _ | (rw [qset_ne _ _ (by omega)]; first | assumption | exact qset_self _ _ _ | (rw [qset_ne _ _ (by omega)]; first | assumption | exact qset_self _ _ _ | (rw [qset_ne _ _ (by omega)]; first | assumption | exact qset_self _ _ _ | (rw [qset_ne _ _ (by omega)]; first | assumption | exact qset_self _ _ _ | (rw [qset_ne _ _ (by omega)]; first | assumption | exact qset_self _ _ _))))))) rfl ?_
    refine v_iload i_M_update_132 rfl ?_
    refine v_iload i_M_update_134 rfl ?_
    refine v_mist B h7 (a := 10) (N := 5000) (j := lat + 1) rfl rfl (by decide) (by decide) (rfl) (by omega) (by omega) i_M_update_136 (fun X8 h8 f8 => ?_)
    have hs5 : sK [10, 28, 29, 30, 33] s (upd s4 30 (nI (if b = true then [(k, w)] else ([] : qRw)).length)) := (hs4.mono (by decide)).set (by decide)
    have hk7 : mK [19, 20] I2 J (mIu I2 19 0 k) (mJu J 20 0 w) := ((mK.rf _ _ _).int (by decide)).long (by decide)
    have hT7 := (hT2.keep (S := [28, 29, 30]) hk7 ((hs4.mono (A' := [28, 29, 30]) (by decide)).set (j := 30) (x := nI (if b = true then [(k, w)] else ([] : qRw)).length) (by decide)) (by decide) (by decide)).grow (x := ro lat) (by omega) hlat
    have hk8 : mK [10, 19, 20, 23] I J (mIu (mIu I2 19 0 k) 10 (lat + 1) (nI (ro lat))) (mJu J 20 0 w) := ((hk2.mono (by decide)).trans (hk7.mono (by decide))).int (by decide)
    have hsn8 : mSn I J (mIu (mIu I2 19 0 k) 10 (lat + 1) (nI (ro lat))) (mJu J 20 0 w) := mSn.keep hk8 (by decide)
    have hpt8 : mPth (mIu (mIu I2 19 0 k) 10 (lat + 1) (nI (ro lat))) (tdes pg made ro (fun _ => none) lat k).2.2 := by
      intro j i hj hj16
      rw [mIu_ne (by decide), mIu_ne (by decide)]
      exact hpt2 j i hj hj16
    have hCo : mCo (upd s4 30 (nI (if b = true then [(k, w)] else ([] : qRw)).length)) (mIu (mIu I2 19 0 k) 10 (lat + 1) (nI (ro lat))) (mJu J 20 0 w) (if b = true then [(k, w)] else []) := by
      refine ⟨pk_us, by split <;> simp, fun i hi => ?_⟩
      split at hi
      · rename_i hb
        rw [if_pos hb]
        obtain rfl : i = 0 := by simp at hi; omega
        rw [mIu_ne (by decide), mIu_self, pk_us, mJu_self]
        exact ⟨rfl, rfl⟩
      · simp at hi
    have g28' : upd s4 30 (nI (if b = true then [(k, w)] else ([] : qRw)).length) 28 = vA (tps (tdes pg made ro (fun _ => none) lat k).2.2 0) (tup0 pg made lat ro (fun _ => none) k w b).2.2.2.1 := by
      rw [pk_un (by decide), g28, htp0]
      show vA _ _ = vA _ (gslot (pg (tdes pg made ro (fun _ => none) lat k).1) k lat)
      rw [hleaf]
    have g29' : upd s4 30 (nI (if b = true then [(k, w)] else ([] : qRw)).length) 29 = vA (tps (tdes pg made ro (fun _ => none) lat k).2.2 0) (tup0 pg made lat ro (fun _ => none) k w b).2.2.2.2.1 := by
      rw [pk_un (by decide), g29]; rfl
    have hf8 : qSame X X8 m (m + 30) := (((hf4.trans f5).trans f6).trans f7).trans f8
    generalize upd s4 30 (nI (if b = true then [(k, w)] else ([] : qRw)).length) = s8 at h8 hT7 hs5 hCo g28' g29'
    generalize mIu (mIu I2 19 0 k) 10 (lat + 1) (nI (ro lat)) = I8 at h8 hT7 hk8 hsn8 hpt8 hCo
    generalize mJu J 20 0 w = J8 at h8 hT7 hk8 hsn8 hCo
    refine v_iconst (v := 0) i_M_update_137 rfl ?_
    refine v_istore i_M_update_138 (by decide) rfl ?_
    refine v_loc [(0, .ref m), (1, .int k), (2, .int (bI b)), (3, .long w), (5, .int (nI (lat + 1))), (7, .int (nI (ro lat))), (8, .int (nI 0))] rfl ?_
    refine c_M_update_b (X := X8) (s := s8) (I := I8) (J := J8) B (kp := kp) (tdes pg made ro (fun _ => none) lat k).2.2 rfl hkp (ro lat) hpt8 (tupd pg made lat ro (fun _ => none) k w b) (fun X9 s9 I9 J9 z h9 hT9 hsn9 hk9 hs9 hf9 => ?_) 16 0 (tup0 pg made lat ro (fun _ => none) k w b) X8 s8 I8 J8 (by omega) hok rfl ?_ (by omega) h8 hT7 g28' g29' hCo (mSn.rf _ _) (mK.rf _ _ _) (sK.rf _ _) (qSame.rf _ _ _)
    · obtain ⟨x0, -⟩ := id h9
      refine v_aload_n i_M_update_191 rfl ?_
      refine v_iload i_M_update_192 rfl ?_
      refine v_mput B h9 (j := 12) i_M_update_194 (Nat.le_of_ble_eq_true rfl) rfl rfl rfl (fun X10 h10 f10 => ?_)
      refine v_vret i_M_update_197 rfl (by decide) (by decide) ?_
      refine ⟨rfl, _, I9, J9, h10, hT9.late (by omega), hsn8.trans hsn9, (hk8.mono (by decide)).trans (hk9.mono (by decide)), ((hs5.mono (by decide)).trans (hs9.mono (by decide))).set (by decide), (hf8.trans hf9).trans f10⟩
    · show va_up ro (lat + 1) (ro lat) (lat + 1) = ro lat
      rw [va_up_self]
  obtain ⟨b4, -⟩ := id h4
  have hs4 : sK [28, 29] s (upd (upd s 28 (vA (tlf pg made lat k 16 (ro lat)) (gslot (pg (tlf pg made lat k 16 (ro lat))) k lat))) 29 (-1)) := ((sK.rf _ _).set (by decide)).set (by decide)
  have hf4' : qSame X X4 m (m + 30) := (hf2.trans f3).trans f4
  refine v_aload_n i_M_update_101 rfl ?_
  refine v_iload_n i_M_update_102 rfl ?_
  cases b with
  | true =>
    refine v_if_eq (tgt := 110) i_M_update_103 rfl (fun q103 => absurd q103 (by decide)) (fun _ => ?_)
    refine v_iconst (v := 1) i_M_update_106 rfl ?_
    refine v_goto (tgt := 111) i_M_update_107 rfl ?_
    exact cont 1 X4 _ rfl h4 hs4 (by rw [pk_un (by decide), pk_us]) pk_us hf4'
  | false =>
    refine v_if_eq (tgt := 110) i_M_update_103 rfl (fun _ => ?_) (fun q103 => absurd rfl q103)
    refine v_iconst (v := 0) i_M_update_110 rfl ?_
    exact cont 0 X4 _ rfl h4 hs4 (by rw [pk_un (by decide), pk_us]) pk_us hf4'
end MU
