/-! pages are made -/
theorem PgAt.cells {X X' : qX} {a num : Nat} {P : Pg} (h : PgAt X a num P) (hs : ∀ q, a ≤ q → q < a + 5 → X'.1 q = X.1 q) : PgAt X' a num P := by
  obtain ⟨h1, h2, fk, ff, ft, fw, h4, h5, h6, h7, h8⟩ := h
  exact ⟨by rw [hs a (by omega) (by omega)]; exact h1, h2, fk, ff, ft, fw, by rw [hs (a + 1) (by omega) (by omega)]; exact h4, by rw [hs (a + 2) (by omega) (by omega)]; exact h5, by rw [hs (a + 3) (by omega) (by omega)]; exact h6, by rw [hs (a + 4) (by omega) (by omega)]; exact h7, h8⟩
theorem RowAt.cells {X X' : qX} {a cap : Nat} {R : qRw} (h : RowAt X a cap R) (hs : ∀ q, a ≤ q → q < a + 3 → X'.1 q = X.1 q) : RowAt X' a cap R := by
  obtain ⟨h1, h2, h3, fk, fw, h4, h5, h6⟩ := h
  exact ⟨by rw [hs a (by omega) (by omega)]; exact h1, h2, h3, fk, fw, by rw [hs (a + 1) (by omega) (by omega)]; exact h4, by rw [hs (a + 2) (by omega) (by omega)]; exact h5, h6⟩
section QN
variable {l : Launch} {s0 : State} {C : qC} {μ : qM} {rm : Room} {Qp : Option Value → qX → Prop} {Ep : String → qX → Prop} {k n : Nat} {X : qX} {pc : Nat} {L : List (Nat × Value)} {st : List Value}
theorem v_astoreN {j : Nat} (hd : decode μ.2.1 pc = .ok (.astore j, 2)) (hn : j < μ.2.2.1) {L' : List (Nat × Value)} (hL' : qput L j .null = L') (K : qV l s0 C μ rm Qp Ep k n X (pc + 2) L' st) : qV l s0 C μ rm Qp Ep k n X pc L (.null :: st) :=
  fun p e s m args below meth c G H locs ls hR hL hl => lv_astoreN (lv' := L') G.1 G.2.1 hd hl hn hL' (fun ls' hl' => K p e s m args below meth c G H locs ls' hR hL hl')
theorem v_aloadN {j : Nat} (hd : decode μ.2.1 pc = .ok (.aload j, 2)) (h : qget L j = some .null) (K : qV l s0 C μ rm Qp Ep k n X (pc + 2) L (.null :: st)) : qV l s0 C μ rm Qp Ep k n X pc L st :=
  fun p e s m args below meth c G H locs ls hR hL hl => lv_aloadN G.1 G.2.1 hd (qget_at hl h) (K p e s m args below meth c G H locs ls hR hL hl)
/-- more cells counted than were made -/
theorem v_wide {k' n' : Nat} (hk : k ≤ k') (hn : n ≤ n') (K : qV l s0 C μ rm Qp Ep k' n' X pc L st) : qV l s0 C μ rm Qp Ep k n X pc L st :=
  fun p e s m args below meth c G H locs ls hR hL hl => W.widen hk hn (K p e s m args below meth c G H locs ls hR hL hl)
/-- a weaker end -/
theorem v_mono {Qp' : Option Value → qX → Prop} {Ep' : String → qX → Prop} (hq : ∀ r Y, Qp r Y → Qp' r Y) (he : ∀ E Y, Ep E Y → Ep' E Y) (K : qV l s0 C μ rm Qp Ep k n X pc L st) : qV l s0 C μ rm Qp' Ep' k n X pc L st := by
  intro p e s m args below meth c G H locs ls hR hL hl T hT XX
  obtain ⟨t, a, o, b1, b2, b3⟩ := K p e s m args below meth c G H locs ls hR hL hl T hT XX
  refine ⟨t, a, o, b1, b2, ?_⟩
  rcases b3 with ⟨⟨v, Y, e1, e2, e3⟩, e4⟩ | ⟨q, e1, E, ce, L2, ⟨Y, e2, e3⟩, e4⟩
  · exact Or.inl ⟨⟨v, Y, e1, e2, hq v Y e3⟩, e4⟩
  · exact Or.inr ⟨q, e1, E, ce, L2, ⟨Y, e2, he E Y e3⟩, e4⟩
end QN
section TN
variable {X X' : qX} {t cnt : Nat} {pa : Nat → Nat} {pg : Nat → Pg} {made lat : Nat} {ro : Nat → Nat} {pn : Nat → Option Nat} {fe : Int64} {g1 g2 : Int32} {co li : qRw} {db : Nat}
variable {l : Launch} {s0 : State} {C : qC}
theorem TrAt.grow (h : TrAt X t cnt pa pg made lat ro pn fe g1 g2 co li db) (hX : t + 24 ≤ X.2) (hc : cnt < 256) {P : Pg} {X2 : qX} {bk : Nat → Option Nat} (hbk : X.1 (t + 6) = some (.inl (3, 256, .inr (.inr (.inr (.inr bk)))))) (hP : PgAt X2 X.2 cnt P) (hz : X2.2 = X.2 + 5) (hq : ∀ q, q < X.2 → X2.1 q = X.1 q) :
    TrAt (qset X2 (t + 6) (.inl (3, 256, .inr (.inr (.inr (.inr (va_up bk cnt (some X.2)))))))) t (cnt + 1) (va_up pa cnt X.2) (va_up pg cnt P) made lat ro pn fe g1 g2 co li db := by
  obtain ⟨h1, ⟨bk', h2, h3, h4⟩, ⟨fr, h5, h6⟩, ⟨pf, h7, h8⟩, h9, h10, h11, h12, h13, h14, h15, h16, h17, h18⟩ := id h
  rw [hbk] at h2
  cases h2
  have hs : ∀ q, q < X.2 → q ≠ t + 6 → (qset X2 (t + 6) (.inl (3, 256, .inr (.inr (.inr (.inr (va_up bk cnt (some X.2)))))))).1 q = X.1 q := fun q h1 h2 => by rw [qset_ne _ _ h2]; exact hq q h1
  have hup : ∀ i, i < cnt → va_up pa cnt X.2 i = pa i := fun i hi => va_up_ne _ _ (by omega)
  refine ⟨by rw [hs _ (by omega) (by omega)]; exact h1, ⟨_, qset_self _ _ _, ?_, ?_⟩, ⟨fr, by rw [hs _ (by omega) (by omega)]; exact h5, h6⟩, ⟨pf, by rw [hs _ (by omega) (by omega)]; exact h7, ?_⟩, h9.cells (fun q a b => hs q (by omega) (by omega)), h10.cells (fun q a b => hs q (by omega) (by omega)), ?_, ⟨h12.1, by omega, by omega, h12.2.2.2⟩, h13, fun j i hji => by have := h14 j i hji; omega, ?_, ?_, ?_, by rw [qset_2]; omega⟩
  · intro i hi
    by_cases hic : i = cnt
    · subst hic; rw [va_up_self, va_up_self]
    · rw [va_up_ne _ _ hic, va_up_ne _ _ hic]; exact h3 i (by omega)
  · intro i hi
    rw [va_up_ne _ _ (by omega)]
    exact h4 i (by omega)
  · intro j hj
    rw [h8 j hj]
    cases hpn : pn j with
    | none => rfl
    | some i => simp only [Option.map_some]; rw [hup i (h14 j i hpn)]
  · intro i hi
    by_cases hic : i = cnt
    · subst hic
      rw [va_up_self, va_up_self]
      exact hP.cells (fun q a b => by rw [qset_ne _ _ (by omega)])
    · rw [va_up_ne _ _ hic, va_up_ne _ _ hic]
      have hw := h.where_ (i := i) (by omega)
      have h20 : pa i + 5 ≤ X.2 := by
        rcases hw with q | ⟨-, q⟩
        · omega
        · exact (h17 i q (by omega)).2
      exact (h11 i (by omega)).cells (fun q a b => hs q (by omega) (by omega))
  · rw [hup 0 (by omega)]; exact h15
  · intro i j hij hj
    by_cases hjc : j = cnt
    · subst hjc
      rw [va_up_self, hup i hij]
      have hw := h.where_ (i := i) hij
      rcases hw with q | ⟨-, q⟩
      · omega
      · exact (h17 i q hij).2
    · rw [hup j (by omega), hup i (by omega)]
      exact h16 i j hij (by omega)
  · intro i hi1 hi2
    rw [qset_2]
    by_cases hic : i = cnt
    · subst hic; rw [va_up_self]; omega
    · rw [va_up_ne _ _ hic]
      have := h17 i hi1 (by omega)
      omega
theorem c_T_makePage (B : qB l s0 C) (h : TrAt X t cnt pa pg made lat ro pn fe g1 g2 co li db) (hX : t + 24 ≤ X.2) (hm : made < 256) (lev v : Nat) (hlv : lev < 1000) (hv : v < 2 ^ 30) {b : Nat} {R : qRw} (hrow : (b = t + 9 ∧ R = co) ∨ (b = t + 12 ∧ R = li)) (lo hi : Nat) (hlo : lo ≤ hi) (hhi : hi ≤ R.length) (hroom : hi - lo ≤ 16) :
    qMet l s0 C m_T_makePage rm_T_makePage [.ref t, .int (nI lev), .int (nI v), .ref b, .int (nI lo), .int (nI hi)] X (fun r X' => ∃ (cnt' : Nat) (pa' : Nat → Nat), r = some (.ref (pa' made)) ∧ made < cnt' ∧ TrAt X' t cnt' pa' (va_up pg made (lev, v, none, gtk R v lo (hi - lo))) (made + 1) lat ro pn fe g1 g2 co li db ∧ qFr X X' t cnt pa ∧ qGr X cnt cnt' pa pa') (fun _ _ => False) := by
  obtain ⟨h0, ⟨bk, hbk, hb1, hb2⟩, -, -, -, -, hPG, ⟨m1, m2, m3, m4, m5⟩, -⟩ := id h
  refine q_of (by decide +kernel) (Nat.le_of_ble_eq_true rfl) ?_
  refine v_L (L' := [(0, .ref t), (1, .int (nI lev)), (2, .int (nI v)), (3, .ref b), (4, .int (nI lo)), (5, .int (nI hi))]) rfl ?_
  have go : ∀ (X1 : qX) (cnt1 : Nat) (pa1 : Nat → Nat) (pg1 : Nat → Pg), made < cnt1 → (∀ Z, va_up pg1 made Z = va_up pg made Z) → TrAt X1 t cnt1 pa1 pg1 made lat ro pn fe g1 g2 co li db → qFr X X1 t cnt pa → qGr X cnt cnt1 pa pa1 →
      qV l s0 C m_T_makePage rm_T_makePage (fun r X' => ∃ (cnt' : Nat) (pa' : Nat → Nat), r = some (.ref (pa' made)) ∧ made < cnt' ∧ TrAt X' t cnt' pa' (va_up pg made (lev, v, none, gtk R v lo (hi - lo))) (made + 1) lat ro pn fe g1 g2 co li db ∧ qFr X X' t cnt pa ∧ qGr X cnt cnt' pa pa') (fun _ _ => False) 5 73 X1 46 [(0, .ref t), (1, .int (nI lev)), (2, .int (nI v)), (3, .ref b), (4, .int (nI lo)), (5, .int (nI hi)), (6, .int (nI made)), (7, .ref (pa1 made))] [] := by
    intro X1 cnt1 pa1 pg1 hmc hpg h1 hf1 hg1
    obtain ⟨k0, -, -, -, kco, kli, kPG, -⟩ := id h1
    have hw := h1.where_ hmc
    have hP := kPG made hmc
    refine v_aload i_T_makePage_46 rfl ?_
    refine v_iload_n i_T_makePage_48 rfl ?_
    refine v_iload_n i_T_makePage_49 rfl ?_
    refine v_inv B i_T_makePage_50 kn_m_G_renew (c_G_renew B hP lev v hlv hv) hP.1 rfl rfl (Nat.le_of_ble_eq_true rfl) ⟨by decide, by decide, by first | decide | (simp; omega), by first | decide | (simp; omega)⟩ rfl (fun r X' hq => ?_) (fun _ _ h => False.elim h)
    obtain ⟨rfl, hP2, hs2⟩ := hq
    have h2 := h1.page hmc hs2 hP2
    obtain ⟨n0, -, -, -, nco, nli, -, ⟨n1, n2, n3, -⟩, -⟩ := id h2
    obtain ⟨cap, hr, hd9⟩ : ∃ cap, RowAt X' b cap R ∧ (pa1 made + 5 ≤ b ∨ b + 3 ≤ pa1 made) := by
      rcases hrow with ⟨rfl, rfl⟩ | ⟨rfl, rfl⟩
      · exact ⟨2, nco, by omega⟩
      · exact ⟨34, nli, by omega⟩
    refine v_aload i_T_makePage_53 rfl ?_
    refine v_aload_n i_T_makePage_55 rfl ?_
    refine v_iload i_T_makePage_56 rfl ?_
    refine v_iload i_T_makePage_58 rfl ?_
    refine v_iload_n i_T_makePage_60 rfl ?_
    refine v_inv B i_T_makePage_61 kn_m_G_take (c_G_take B hP2 hr v hv lo hi hlo hhi (by show 0 + (hi - lo) ≤ 16; omega) hd9) hP2.1 rfl rfl (Nat.le_of_ble_eq_true rfl) ⟨by decide, by decide, by first | decide | (simp; omega), by first | decide | (simp; omega)⟩ rfl (fun r X' hq => ?_) (fun _ _ h => False.elim h)
    obtain ⟨rfl, hP3, hs3⟩ := hq
    have h3 := h2.page hmc hs3 hP3
    obtain ⟨r0, -⟩ := id h3
    refine v_aload_n i_T_makePage_64 rfl ?_
    refine v_iload i_T_makePage_65 rfl ?_
    refine v_iconst (v := 1) i_T_makePage_67 rfl ?_
    refine v_iadd i_T_makePage_68 ?_
    refine v_put B i_T_makePage_69 (by first | assumption | exact qset_self _ _ _ | (rw [qset_ne _ _ (by omega)]; first | assumption | exact qset_self _ _ _ | (rw [qset_ne _ _ (by omega)]; first | assumption | exact qset_self _ _ _ | (rw [qset_ne _ _ (by omega)]; first | assumption | exact qset_self _ _ _ | (rw [qset_ne _ _ (by omega)]; first | assumption | exact qset_self _ _ _ | (rw [qset_ne _ _ (by omega)]; first | assumption | exact qset_self _ _ _ | (rw [qset_ne _ _ (by omega)]; first | assumption | exact qset_self _ _ _))))))) (Nat.le_of_ble_eq_true rfl) rfl rfl ?_
    refine v_aload i_T_makePage_72 rfl ?_
    refine v_aret i_T_makePage_74 rfl (by decide) (by decide) ⟨cnt1, pa1, rfl, hmc, ?_, ?_, hg1⟩
    · have h4 := h3.obj (fs := [Value.ref (t + 1), .ref (t + 6), .ref (t + 7), .int (nI made), .int (nI lat), .ref (t + 8), .long fe, .int g1, .int g2, .ref (t + 9), .ref (t + 12), .int (nI db)].set 3 (.int (nI made + 1))) (made' := made + 1) (lat' := lat) (db' := db) (fe' := fe) (g1' := g1) (g2' := g2) (by rw [nI_succ]; rfl) ⟨by omega, by omega⟩ m4 m5
      have e1 : va_up (va_up pg1 made (lev, v, none, [])) made (lev, v, none, [] ++ gtk R v lo (hi - lo)) = va_up pg made (lev, v, none, gtk R v lo (hi - lo)) := by
        rw [← hpg, List.nil_append]
        funext i
        unfold va_up
        by_cases h : i = made <;> simp [h]
      have e2 : va_up (va_up pg1 made (lev, v, none, [])) made ((lev, v, (none : Option Nat), ([] : List Ent)).1, (lev, v, (none : Option Nat), ([] : List Ent)).2.1, (lev, v, (none : Option Nat), ([] : List Ent)).2.2.1, (lev, v, (none : Option Nat), ([] : List Ent)).2.2.2 ++ gtk R v lo (hi - lo)) = va_up pg made (lev, v, none, gtk R v lo (hi - lo)) := e1
      rw [e2] at h4
      exact h4
    · refine hf1.trans ?_ hg1
      refine (qFr.page (hs2.trans hs3) hmc).trans (qFr.own ((qSame.rf _ t (t + 1)).set _ (by omega) (by omega)) (by omega) (by omega)) (qGr.rf _ _ _)
  refine v_aload_n i_T_makePage_0 rfl ?_
  refine v_get B i_T_makePage_1 (by first | assumption | exact qset_self _ _ _ | (rw [qset_ne _ _ (by omega)]; first | assumption | exact qset_self _ _ _ | (rw [qset_ne _ _ (by omega)]; first | assumption | exact qset_self _ _ _ | (rw [qset_ne _ _ (by omega)]; first | assumption | exact qset_self _ _ _ | (rw [qset_ne _ _ (by omega)]; first | assumption | exact qset_self _ _ _ | (rw [qset_ne _ _ (by omega)]; first | assumption | exact qset_self _ _ _ | (rw [qset_ne _ _ (by omega)]; first | assumption | exact qset_self _ _ _))))))) rfl ?_
  refine v_sipush (v := 255) i_T_makePage_4 rfl ?_
  refine v_invS B i_T_makePage_7 kn_m_J_minI (c_J_minI (nI made) 255) rfl rfl (Nat.le_of_ble_eq_true rfl) ⟨by decide, by decide, by first | decide | (simp; omega), by first | decide | (simp; omega)⟩ rfl (fun r X' hq => ?_) (fun _ _ h => False.elim h)
  obtain ⟨rfl, rfl⟩ := hq
  have hmin : imin (nI made) 255 = nI made := by
    rw [imin, if_neg]
    exact nI_nlt (a := 255) (b := made) (by omega) (by omega)
  rw [hmin]
  refine v_istore i_T_makePage_10 (by decide) rfl ?_
  refine v_aload_n i_T_makePage_12 rfl ?_
  refine v_get B i_T_makePage_13 (by first | assumption | exact qset_self _ _ _ | (rw [qset_ne _ _ (by omega)]; first | assumption | exact qset_self _ _ _ | (rw [qset_ne _ _ (by omega)]; first | assumption | exact qset_self _ _ _ | (rw [qset_ne _ _ (by omega)]; first | assumption | exact qset_self _ _ _ | (rw [qset_ne _ _ (by omega)]; first | assumption | exact qset_self _ _ _ | (rw [qset_ne _ _ (by omega)]; first | assumption | exact qset_self _ _ _ | (rw [qset_ne _ _ (by omega)]; first | assumption | exact qset_self _ _ _))))))) rfl ?_
  refine v_iload i_T_makePage_16 rfl ?_
  refine v_aald B (by first | assumption | exact qset_self _ _ _ | (rw [qset_ne _ _ (by omega)]; first | assumption | exact qset_self _ _ _ | (rw [qset_ne _ _ (by omega)]; first | assumption | exact qset_self _ _ _ | (rw [qset_ne _ _ (by omega)]; first | assumption | exact qset_self _ _ _ | (rw [qset_ne _ _ (by omega)]; first | assumption | exact qset_self _ _ _ | (rw [qset_ne _ _ (by omega)]; first | assumption | exact qset_self _ _ _ | (rw [qset_ne _ _ (by omega)]; first | assumption | exact qset_self _ _ _))))))) rfl (by omega) (by omega) i_T_makePage_18 ?_
  rcases Nat.lt_or_ge made cnt with hc | hc
  · rw [hb1 made hc, show va_rf (some (pa made)) = .ref (pa made) from rfl]
    refine v_astore i_T_makePage_19 (by decide) rfl ?_
    refine v_aload i_T_makePage_21 rfl ?_
    refine v_ifnonnull (tgt := 46) i_T_makePage_23 rfl ?_
    refine v_loc [(0, .ref t), (1, .int (nI lev)), (2, .int (nI v)), (3, .ref b), (4, .int (nI lo)), (5, .int (nI hi)), (6, .int (nI made)), (7, .ref (pa made))] rfl ?_
    exact v_wide (by decide) (by decide) (go X cnt pa pg hc (fun _ => rfl) h (qFr.rf X t cnt pa) (qGr.rf X cnt pa))
  · have hce : cnt = made := by omega
    rw [hb2 made hc, show va_rf none = .null from rfl]
    refine v_astoreN i_T_makePage_19 (by decide) rfl ?_
    refine v_aloadN i_T_makePage_21 rfl ?_
    refine v_ifnonnullN i_T_makePage_23 ?_
    refine v_new B (N := 9) i_T_makePage_26 rfl (by decide) (by decide) ?_
    refine v_dup i_T_makePage_29 rfl ?_
    refine v_iload i_T_makePage_30 rfl ?_
    refine v_invI B i_T_makePage_32 kn_m_G_init (c_G_init B made (qnew_self _ _) (qnew_2 _ _)) rfl rfl (Nat.le_of_ble_eq_true rfl) ⟨by decide, by decide, by decide, by decide⟩ rfl (fun r X' hq => ?_) (fun _ _ h => False.elim h)
    obtain ⟨rfl, hP2, hz2, ho2⟩ := hq
    have ho : ∀ q, q < X.2 → X'.1 q = X.1 q := fun q hq => (ho2 q hq).trans (qnew_ne _ _ (by omega))
    have k0 : X'.1 t = X.1 t := ho t (by omega)
    have k6 : X'.1 (t + 6) = X.1 (t + 6) := ho (t + 6) (by omega)
    refine v_astore i_T_makePage_35 (by decide) rfl ?_
    refine v_aload_n i_T_makePage_37 rfl ?_
    refine v_get B i_T_makePage_38 (k0.trans h0) rfl ?_
    refine v_iload i_T_makePage_41 rfl ?_
    refine v_aload i_T_makePage_43 rfl ?_
    refine v_aast (j := made) B (k6.trans hbk) hP2.1 rfl (by omega) (by omega) i_T_makePage_45 ?_
    have hg := h.grow hX (by omega) hbk (P := (0, 0, none, [])) (by rw [hce]; exact hP2) hz2 ho
    rw [hce] at hg
    refine v_loc [(0, .ref t), (1, .int (nI lev)), (2, .int (nI v)), (3, .ref b), (4, .int (nI lo)), (5, .int (nI hi)), (6, .int (nI made)), (7, .ref (va_up pa made X.2 made))] (by rw [va_up_self]; rfl) ?_
    refine v_wide (by decide) (by decide) (go _ (made + 1) (va_up pa made X.2) (va_up pg made (0, 0, none, [])) (by omega) (fun Z => ?_) hg ?_ ?_)
    · funext i
      unfold va_up
      by_cases h : i = made <;> simp [h]
    · refine ⟨by rw [qset_2]; omega, fun z hz1 hz2 hz3 => ?_⟩
      rw [qset_ne _ _ (by omega)]
      exact ho z hz1
    · refine ⟨by omega, fun i hi => va_up_ne _ _ (by omega), fun i h1 h2 => ?_⟩
      rw [show i = made by omega, va_up_self]
      exact Nat.le_refl _
end TN
