/-! the other public methods of PastTree -/
theorem gfromAt_nI {P : Pg} {j : Nat} (h : j < P.2.2.2.length) (hl : P.2.2.2.length ≤ 16) : gfromAt P (nI j) = nI (en P.2.2.2 j).2.1 := by
  rw [gfromAt, if_pos ⟨nI_pos' (by omega), nI_lt h (by omega)⟩, nI_clamp (by omega)]
theorem gtoAt_nI {P : Pg} {j : Nat} (h : j < P.2.2.2.length) (hl : P.2.2.2.length ≤ 16) : gtoAt P (nI j) = vO (en P.2.2.2 j).2.2.1 := by
  rw [gtoAt, if_pos ⟨nI_pos' (by omega), nI_lt h (by omega)⟩, nI_clamp (by omega)]
theorem sw5 {w : Int32} (h0 : ¬ w = 0) (h1 : ¬ w = 1) (h2 : ¬ w = 2) (h3 : ¬ w = 3) (h4 : ¬ w = 4) : w.toInt < 0 ∨ 4 < w.toInt := by
  by_cases hn : w < 0
  · exact Or.inl (Int32.lt_iff_toInt_lt.mp hn)
  · obtain ⟨j, hj, rfl⟩ := nI_of hn
    rw [nI_toInt hj]
    by_cases h : 4 < j
    · exact Or.inr (by omega)
    · have : j = 0 ∨ j = 1 ∨ j = 2 ∨ j = 3 ∨ j = 4 := by omega
      rcases this with rfl | rfl | rfl | rfl | rfl
      · exact absurd rfl h0
      · exact absurd rfl h1
      · exact absurd rfl h2
      · exact absurd rfl h3
      · exact absurd rfl h4
theorem sw4 {w : Int32} (h0 : ¬ w = 0) (h1 : ¬ w = 1) (h2 : ¬ w = 2) (h3 : ¬ w = 3) : w.toInt < 0 ∨ 3 < w.toInt := by
  by_cases h4 : w = 4
  · subst h4; exact Or.inr (by decide)
  · rcases sw5 h0 h1 h2 h3 h4 with h | h
    · exact Or.inl h
    · exact Or.inr (by omega)
theorem tchg_le (pg : Nat → Pg) (v : Nat) : ∀ n, tchg pg v n ≤ n
  | 0 => Nat.le_refl 0
  | n + 1 => by
    have := tchg_le pg v n
    unfold tchg
    split <;> omega
/-- what is asked of a page, an entry, the disk -/
def cpage (P : Pg) (kp : Nat) (w : Int32) : Option Int32 := if w = 0 then some (nI P.1) else if w = 1 then some (nI P.2.1) else if w = 2 then some (vO P.2.2.1) else if w = 3 then some (nI P.2.2.2.length) else if w = 4 then some (bI (gchg P kp)) else none
def centry (P : Pg) (i : Nat) (w : Int32) : Option Int64 := if w = 0 then some (en P.2.2.2 i).1.toInt64 else if w = 1 then some (nI (en P.2.2.2 i).2.1).toInt64 else if w = 2 then some (vO (en P.2.2.2 i).2.2.1).toInt64 else if w = 3 then some (en P.2.2.2 i).2.2.2 else none
def cdisk (pg : Nat → Pg) (made lat : Nat) (D : Dk) (w : Int32) : Option Int32 := if w = 0 then some (nI D.1.length) else if w = 1 then some (if D.2.2.2.2 = true then 0 else nI (lat - dlat D)) else if w = 2 then some (nI D.2.2.1) else if w = 3 then some (nI D.2.1) else if w = 4 then some (if D.2.2.2.2 = true then 0 else nI (tchg pg D.2.2.1 made)) else none
def ccut (n : Int32) : Option Nat := if n = -1 then none else some n.toNatClampNeg
section PD
variable {X X' : qX} {x E cnt cnt' : Nat} {pa pa' : Nat → Nat} {pg pg' : Nat → Pg} {made made' lat lat' : Nat} {ro ro' : Nat → Nat} {db db' : Nat} {D D' : Dk}
variable {l : Launch} {s0 : State} {C : qC}
theorem c_P_page (B : qB l s0 C) (h : PtS X x E pg made lat ro db D) (p : Int32) (w : Int32) : qMet l s0 C m_P_page rmP [.ref x, .int p, .int w] X (fun r X' => D.2.2.2.2 = false ∧ (∃ i, i < made ∧ p = nI i ∧ ∃ z, cpage (pg i) D.2.2.1 w = some z ∧ r = some (.int z)) ∧ qSt X X' x E pg made lat ro db D) (fun e X' => (D.2.2.2.2 = true ∧ e = xS ∨ D.2.2.2.2 = false ∧ ¬ (0 ≤ p ∧ p < nI made) ∧ e = xI ∨ D.2.2.2.2 = false ∧ (∃ i, i < made ∧ p = nI i ∧ cpage (pg i) D.2.2.1 w = none) ∧ e = xA) ∧ qSt X X' x E pg made lat ro db D) := by
  have hS := h
  obtain ⟨cnt, pa, pn, fe, g1, g2, co, li, F, O, h⟩ := h
  obtain ⟨h0, h1, hd, hF, hO, he1, he2, he3⟩ := id h
  obtain ⟨t0, -, -, -, -, -, hPG, ⟨m1, m2, m3, m4, m5⟩, hro, -⟩ := id h1
  refine q_of (by decide +kernel) (Nat.le_of_ble_eq_true rfl) ?_
  refine v_L (L' := [(0, .ref x), (1, .int p), (2, .int w)]) rfl ?_
  refine v_aload_n i_P_page_0 rfl ?_
  refine v_inv B i_P_page_1 kn_m_P_demandUp (c_P_demandUp B h) h0 rfl rfl (Nat.le_of_ble_eq_true rfl) ⟨by decide, by decide, by first | decide | (simp; omega), by first | decide | (simp; omega)⟩ rfl (fun r X' hq => ?_) (fun e X' hx => by obtain ⟨a, b, N, c, rfl⟩ := hx; exact ⟨Or.inl ⟨a, b⟩, hS.thr c⟩)
  obtain ⟨hdn, rfl, rfl⟩ := hq
  refine v_aload_n i_P_page_4 rfl ?_
  refine v_iload_n i_P_page_5 rfl ?_
  refine v_inv B i_P_page_6 kn_m_P_demandPage (c_P_demandPage B h p) h0 rfl rfl (Nat.le_of_ble_eq_true rfl) ⟨by decide, by decide, by first | decide | (simp; omega), by first | decide | (simp; omega)⟩ rfl (fun r X' hq => ?_) (fun e X' hx => by obtain ⟨a, b, N, c, rfl⟩ := hx; exact ⟨Or.inr (Or.inl ⟨hdn, a, b⟩), hS.thr c⟩)
  obtain ⟨⟨i, hi, rfl⟩, rfl, rfl⟩ := hq
  refine v_aload_n i_P_page_9 rfl ?_
  refine v_get B i_P_page_10 (by first | assumption | exact qset_self _ _ _ | (rw [qset_ne _ _ (by omega)]; first | assumption | exact qset_self _ _ _ | (rw [qset_ne _ _ (by omega)]; first | assumption | exact qset_self _ _ _ | (rw [qset_ne _ _ (by omega)]; first | assumption | exact qset_self _ _ _ | (rw [qset_ne _ _ (by omega)]; first | assumption | exact qset_self _ _ _ | (rw [qset_ne _ _ (by omega)]; first | assumption | exact qset_self _ _ _ | (rw [qset_ne _ _ (by omega)]; first | assumption | exact qset_self _ _ _))))))) rfl ?_
  refine v_iload_n i_P_page_13 rfl ?_
  refine v_i2l i_P_page_14 ?_
  refine v_inv B i_P_page_15 kn_m_T_pageAt (c_T_pageAt B h1 (nI i).toInt64) t0 rfl rfl (Nat.le_of_ble_eq_true rfl) ⟨by decide, by decide, by first | decide | (simp; omega), by first | decide | (simp; omega)⟩ rfl (fun r X' hq => ?_) (fun _ _ h => False.elim h)
  obtain ⟨rfl, rfl⟩ := hq
  rw [tpn_nI hi (by omega)]
  have hP := hPG i (by omega)
  obtain ⟨d0, d1, d2, -⟩ := id hd
  refine v_astore_n i_P_page_18 (by decide) rfl ?_
  refine v_iload_n i_P_page_19 rfl ?_
  by_cases w0 : w = 0
  · subst w0
    refine v_tableIn (tgt := 56) i_P_page_20 (by decide) (by decide) rfl rfl ?_
    refine v_aload_n i_P_page_56 rfl ?_
    refine v_get B i_P_page_57 hP.1 rfl ?_
    exact v_iret i_P_page_60 rfl (by decide) (by decide) ⟨hdn, ⟨i, hi, rfl, _, rfl, rfl⟩, hS, qCl.rf _ _ _⟩
  by_cases w1 : w = 1
  · subst w1
    refine v_tableIn (tgt := 61) i_P_page_20 (by decide) (by decide) rfl rfl ?_
    refine v_aload_n i_P_page_61 rfl ?_
    refine v_get B i_P_page_62 hP.1 rfl ?_
    exact v_iret i_P_page_65 rfl (by decide) (by decide) ⟨hdn, ⟨i, hi, rfl, _, rfl, rfl⟩, hS, qCl.rf _ _ _⟩
  by_cases w2 : w = 2
  · subst w2
    refine v_tableIn (tgt := 66) i_P_page_20 (by decide) (by decide) rfl rfl ?_
    refine v_aload_n i_P_page_66 rfl ?_
    refine v_get B i_P_page_67 hP.1 rfl ?_
    exact v_iret i_P_page_70 rfl (by decide) (by decide) ⟨hdn, ⟨i, hi, rfl, _, rfl, rfl⟩, hS, qCl.rf _ _ _⟩
  by_cases w3 : w = 3
  · subst w3
    refine v_tableIn (tgt := 71) i_P_page_20 (by decide) (by decide) rfl rfl ?_
    refine v_aload_n i_P_page_71 rfl ?_
    refine v_get B i_P_page_72 hP.1 rfl ?_
    exact v_iret i_P_page_75 rfl (by decide) (by decide) ⟨hdn, ⟨i, hi, rfl, _, rfl, rfl⟩, hS, qCl.rf _ _ _⟩
  by_cases w4 : w = 4
  · subst w4
    refine v_tableIn (tgt := 76) i_P_page_20 (by decide) (by decide) rfl rfl ?_
    refine v_aload_n i_P_page_76 rfl ?_
    refine v_aload_n i_P_page_77 rfl ?_
    refine v_get B i_P_page_78 (by first | assumption | exact qset_self _ _ _ | (rw [qset_ne _ _ (by omega)]; first | assumption | exact qset_self _ _ _ | (rw [qset_ne _ _ (by omega)]; first | assumption | exact qset_self _ _ _ | (rw [qset_ne _ _ (by omega)]; first | assumption | exact qset_self _ _ _ | (rw [qset_ne _ _ (by omega)]; first | assumption | exact qset_self _ _ _ | (rw [qset_ne _ _ (by omega)]; first | assumption | exact qset_self _ _ _ | (rw [qset_ne _ _ (by omega)]; first | assumption | exact qset_self _ _ _))))))) rfl ?_
    refine v_get B i_P_page_81 (by first | assumption | exact qset_self _ _ _ | (rw [qset_ne _ _ (by omega)]; first | assumption | exact qset_self _ _ _ | (rw [qset_ne _ _ (by omega)]; first | assumption | exact qset_self _ _ _ | (rw [qset_ne _ _ (by omega)]; first | assumption | exact qset_self _ _ _ | (rw [qset_ne _ _ (by omega)]; first | assumption | exact qset_self _ _ _ | (rw [qset_ne _ _ (by omega)]; first | assumption | exact qset_self _ _ _ | (rw [qset_ne _ _ (by omega)]; first | assumption | exact qset_self _ _ _))))))) rfl ?_
    refine v_inv B i_P_page_84 kn_m_G_isChangedSince (c_G_isChangedSince B hP D.2.2.1 d2) hP.1 rfl rfl (Nat.le_of_ble_eq_true rfl) ⟨by decide, by decide, by first | decide | (simp; omega), by first | decide | (simp; omega)⟩ rfl (fun r X' hq => ?_) (fun _ _ h => False.elim h)
    obtain ⟨rfl, rfl⟩ := hq
    refine v_if_eq (tgt := 94) i_P_page_87 rfl (fun h87 => ?_) (fun h87 => ?_)
    · refine v_iconst (v := 0) i_P_page_94 rfl ?_
      refine v_iret i_P_page_95 rfl (by decide) (by decide) ⟨hdn, ⟨i, hi, rfl, _, rfl, ?_⟩, hS, qCl.rf _ _ _⟩
      rw [h87]
    · refine v_iconst (v := 1) i_P_page_90 rfl ?_
      refine v_goto (tgt := 95) i_P_page_91 rfl ?_
      refine v_iret i_P_page_95 rfl (by decide) (by decide) ⟨hdn, ⟨i, hi, rfl, _, rfl, ?_⟩, hS, qCl.rf _ _ _⟩
      rw [bI_ne h87]; rfl
  refine v_tableOut (tgt := 96) i_P_page_20 (sw5 w0 w1 w2 w3 w4) rfl ?_
  refine v_throw (text := "a page has no such property") B th_A rfl (List.mem_of_getElem? (i := 646) (by decide +kernel)) rfl i_P_page_96 i_P_page_99 i_P_page_100 i_P_page_102 i_P_page_105 (by decide) (by decide) (by first | decide | (simp; omega)) (by first | decide | (simp; omega)) (fun N hN => ⟨Or.inr (Or.inr ⟨hdn, ⟨i, hi, rfl, by unfold cpage; rw [if_neg w0, if_neg w1, if_neg w2, if_neg w3, if_neg w4]⟩, rfl⟩), hS.thr hN⟩)
theorem c_P_entry (B : qB l s0 C) (h : PtS X x E pg made lat ro db D) (p : Int32) (q : Int32) (w : Int32) : qMet l s0 C m_P_entry rmP [.ref x, .int p, .int q, .int w] X (fun r X' => D.2.2.2.2 = false ∧ (∃ i j, i < made ∧ p = nI i ∧ j < (pg i).2.2.2.length ∧ q = nI j ∧ ∃ z, centry (pg i) j w = some z ∧ r = some (.long z)) ∧ qSt X X' x E pg made lat ro db D) (fun e X' => (D.2.2.2.2 = true ∧ e = xS ∨ D.2.2.2.2 = false ∧ (¬ (0 ≤ p ∧ p < nI made) ∨ ∃ i, i < made ∧ p = nI i ∧ ¬ (0 ≤ q ∧ q < nI (pg i).2.2.2.length)) ∧ e = xI ∨ D.2.2.2.2 = false ∧ (∃ i j, i < made ∧ p = nI i ∧ j < (pg i).2.2.2.length ∧ q = nI j ∧ centry (pg i) j w = none) ∧ e = xA) ∧ qSt X X' x E pg made lat ro db D) := by
  have hS := h
  obtain ⟨cnt, pa, pn, fe, g1, g2, co, li, F, O, h⟩ := h
  obtain ⟨h0, h1, hd, hF, hO, he1, he2, he3⟩ := id h
  obtain ⟨t0, -, -, -, -, -, hPG, ⟨m1, m2, m3, m4, m5⟩, hro, -⟩ := id h1
  refine q_of (by decide +kernel) (Nat.le_of_ble_eq_true rfl) ?_
  refine v_L (L' := [(0, .ref x), (1, .int p), (2, .int q), (3, .int w)]) rfl ?_
  refine v_aload_n i_P_entry_0 rfl ?_
  refine v_inv B i_P_entry_1 kn_m_P_demandUp (c_P_demandUp B h) h0 rfl rfl (Nat.le_of_ble_eq_true rfl) ⟨by decide, by decide, by first | decide | (simp; omega), by first | decide | (simp; omega)⟩ rfl (fun r X' hq => ?_) (fun e X' hx => by obtain ⟨a, b, N, c, rfl⟩ := hx; exact ⟨Or.inl ⟨a, b⟩, hS.thr c⟩)
  obtain ⟨hdn, rfl, rfl⟩ := hq
  refine v_aload_n i_P_entry_4 rfl ?_
  refine v_iload_n i_P_entry_5 rfl ?_
  refine v_inv B i_P_entry_6 kn_m_P_demandPage (c_P_demandPage B h p) h0 rfl rfl (Nat.le_of_ble_eq_true rfl) ⟨by decide, by decide, by first | decide | (simp; omega), by first | decide | (simp; omega)⟩ rfl (fun r X' hq => ?_) (fun e X' hx => by obtain ⟨a, b, N, c, rfl⟩ := hx; exact ⟨Or.inr (Or.inl ⟨hdn, Or.inl a, b⟩), hS.thr c⟩)
  obtain ⟨⟨i, hi, rfl⟩, rfl, rfl⟩ := hq
  refine v_aload_n i_P_entry_9 rfl ?_
  refine v_get B i_P_entry_10 (by first | assumption | exact qset_self _ _ _ | (rw [qset_ne _ _ (by omega)]; first | assumption | exact qset_self _ _ _ | (rw [qset_ne _ _ (by omega)]; first | assumption | exact qset_self _ _ _ | (rw [qset_ne _ _ (by omega)]; first | assumption | exact qset_self _ _ _ | (rw [qset_ne _ _ (by omega)]; first | assumption | exact qset_self _ _ _ | (rw [qset_ne _ _ (by omega)]; first | assumption | exact qset_self _ _ _ | (rw [qset_ne _ _ (by omega)]; first | assumption | exact qset_self _ _ _))))))) rfl ?_
  refine v_iload_n i_P_entry_13 rfl ?_
  refine v_i2l i_P_entry_14 ?_
  refine v_inv B i_P_entry_15 kn_m_T_pageAt (c_T_pageAt B h1 (nI i).toInt64) t0 rfl rfl (Nat.le_of_ble_eq_true rfl) ⟨by decide, by decide, by first | decide | (simp; omega), by first | decide | (simp; omega)⟩ rfl (fun r X' hq => ?_) (fun _ _ h => False.elim h)
  obtain ⟨rfl, rfl⟩ := hq
  rw [tpn_nI hi (by omega)]
  have hP := hPG i (by omega)
  obtain ⟨-, ⟨-, -, -, ok4, -⟩, -⟩ := id hP
  refine v_astore i_P_entry_18 (by decide) rfl ?_
  refine v_loc [(0, .ref x), (1, .int (nI i)), (2, .int q), (3, .int w), (4, .ref (pa i))] rfl ?_
  have out : ¬ (0 ≤ q ∧ q < nI (pg i).2.2.2.length) → qV l s0 C m_P_entry rmP (fun r X' => D.2.2.2.2 = false ∧ (∃ i9 j, i9 < made ∧ nI i = nI i9 ∧ j < (pg i9).2.2.2.length ∧ q = nI j ∧ ∃ z, centry (pg i9) j w = some z ∧ r = some (.long z)) ∧ qSt X X' x E pg made lat ro db D)
      (fun e X' => (D.2.2.2.2 = true ∧ e = xS ∨ D.2.2.2.2 = false ∧ (¬ (0 ≤ nI i ∧ nI i < nI made) ∨ ∃ i9, i9 < made ∧ nI i = nI i9 ∧ ¬ (0 ≤ q ∧ q < nI (pg i9).2.2.2.length)) ∧ e = xI ∨ D.2.2.2.2 = false ∧ (∃ i9 j, i9 < made ∧ nI i = nI i9 ∧ j < (pg i9).2.2.2.length ∧ q = nI j ∧ centry (pg i9) j w = none) ∧ e = xA) ∧ qSt X X' x E pg made lat ro db D)
      (0 + rm_P_demandUp.cells + rm_P_demandPage.cells + rm_T_pageAt.cells) (0 + rm_P_demandUp.slots + rm_P_demandPage.slots + rm_T_pageAt.slots) X 33 [(0, .ref x), (1, .int (nI i)), (2, .int q), (3, .int w), (4, .ref (pa i))] [] := by
    intro hn
    refine v_throw (text := "there is no such entry") B th_I rfl (List.mem_of_getElem? (i := 669) (by decide +kernel)) rfl i_P_entry_33 i_P_entry_36 i_P_entry_37 i_P_entry_39 i_P_entry_42 (by decide) (by decide) (by first | decide | (simp; omega)) (by first | decide | (simp; omega)) (fun N hN => ⟨Or.inr (Or.inl ⟨hdn, Or.inr ⟨i, hi, rfl, hn⟩, rfl⟩), hS.thr hN⟩)
  refine v_iload_n i_P_entry_20 rfl ?_
  refine v_if_lt (tgt := 33) i_P_entry_21 rfl (fun h21 => ?_) (fun h21 => ?_)
  · refine out (fun q9 => ?_)
    have := Int32.le_iff_toInt_le.mp q9.1
    have := Int32.lt_iff_toInt_lt.mp h21
    omega
  refine v_iload_n i_P_entry_24 rfl ?_
  refine v_aload i_P_entry_25 rfl ?_
  refine v_get B i_P_entry_27 hP.1 rfl ?_
  refine v_icmp_lt (tgt := 43) i_P_entry_30 rfl (fun h30 => ?_) (fun h30 => ?_)
  rotate_left
  · exact out (fun q9 => h30 q9.2)
  obtain ⟨j, hj0, rfl⟩ := nI_of h21
  have hj : j < (pg i).2.2.2.length := (nI_ltI hj0 (by omega)).mp h30
  refine v_iload_n i_P_entry_43 rfl ?_
  by_cases w0 : w = 0
  · subst w0
    refine v_tableIn (tgt := 76) i_P_entry_44 (by decide) (by decide) rfl rfl ?_
    refine v_aload i_P_entry_76 rfl ?_
    refine v_iload_n i_P_entry_78 rfl ?_
    refine v_inv B i_P_entry_79 kn_m_G_keyAt (c_G_keyAt B hP (nI j)) hP.1 rfl rfl (Nat.le_of_ble_eq_true rfl) ⟨by decide, by decide, by first | decide | (simp; omega), by first | decide | (simp; omega)⟩ rfl (fun r X' hq => ?_) (fun _ _ h => False.elim h)
    obtain ⟨rfl, rfl⟩ := hq
    rw [gkeyAt_nI (by omega) ok4]
    refine v_i2l i_P_entry_82 ?_
    exact v_lret i_P_entry_83 rfl (by decide) (by decide) ⟨hdn, ⟨i, j, hi, rfl, hj, rfl, _, rfl, rfl⟩, hS, qCl.rf _ _ _⟩
  by_cases w1 : w = 1
  · subst w1
    refine v_tableIn (tgt := 84) i_P_entry_44 (by decide) (by decide) rfl rfl ?_
    refine v_aload i_P_entry_84 rfl ?_
    refine v_iload_n i_P_entry_86 rfl ?_
    refine v_inv B i_P_entry_87 kn_m_G_fromAt (c_G_fromAt B hP (nI j)) hP.1 rfl rfl (Nat.le_of_ble_eq_true rfl) ⟨by decide, by decide, by first | decide | (simp; omega), by first | decide | (simp; omega)⟩ rfl (fun r X' hq => ?_) (fun _ _ h => False.elim h)
    obtain ⟨rfl, rfl⟩ := hq
    rw [gfromAt_nI (by omega) ok4]
    refine v_i2l i_P_entry_90 ?_
    exact v_lret i_P_entry_91 rfl (by decide) (by decide) ⟨hdn, ⟨i, j, hi, rfl, hj, rfl, _, rfl, rfl⟩, hS, qCl.rf _ _ _⟩
  by_cases w2 : w = 2
  · subst w2
    refine v_tableIn (tgt := 92) i_P_entry_44 (by decide) (by decide) rfl rfl ?_
    refine v_aload i_P_entry_92 rfl ?_
    refine v_iload_n i_P_entry_94 rfl ?_
    refine v_inv B i_P_entry_95 kn_m_G_toAt (c_G_toAt B hP (nI j)) hP.1 rfl rfl (Nat.le_of_ble_eq_true rfl) ⟨by decide, by decide, by first | decide | (simp; omega), by first | decide | (simp; omega)⟩ rfl (fun r X' hq => ?_) (fun _ _ h => False.elim h)
    obtain ⟨rfl, rfl⟩ := hq
    rw [gtoAt_nI (by omega) ok4]
    refine v_i2l i_P_entry_98 ?_
    exact v_lret i_P_entry_99 rfl (by decide) (by decide) ⟨hdn, ⟨i, j, hi, rfl, hj, rfl, _, rfl, rfl⟩, hS, qCl.rf _ _ _⟩
  by_cases w3 : w = 3
  · subst w3
    refine v_tableIn (tgt := 100) i_P_entry_44 (by decide) (by decide) rfl rfl ?_
    refine v_aload i_P_entry_100 rfl ?_
    refine v_iload_n i_P_entry_102 rfl ?_
    refine v_inv B i_P_entry_103 kn_m_G_whatAt (c_G_whatAt B hP (nI j)) hP.1 rfl rfl (Nat.le_of_ble_eq_true rfl) ⟨by decide, by decide, by first | decide | (simp; omega), by first | decide | (simp; omega)⟩ rfl (fun r X' hq => ?_) (fun _ _ h => False.elim h)
    obtain ⟨rfl, rfl⟩ := hq
    rw [gwhatAt_nI (by omega) ok4]
    exact v_lret i_P_entry_106 rfl (by decide) (by decide) ⟨hdn, ⟨i, j, hi, rfl, hj, rfl, _, rfl, rfl⟩, hS, qCl.rf _ _ _⟩
  refine v_tableOut (tgt := 107) i_P_entry_44 (sw4 w0 w1 w2 w3) rfl ?_
  refine v_throw (text := "an entry has no such property") B th_A rfl (List.mem_of_getElem? (i := 680) (by decide +kernel)) rfl i_P_entry_107 i_P_entry_110 i_P_entry_111 i_P_entry_113 i_P_entry_116 (by decide) (by decide) (by first | decide | (simp; omega)) (by first | decide | (simp; omega)) (fun N hN => ⟨Or.inr (Or.inr ⟨hdn, ⟨i, j, hi, rfl, hj, rfl, by unfold centry; rw [if_neg w0, if_neg w1, if_neg w2, if_neg w3]⟩, rfl⟩), hS.thr hN⟩)
theorem c_P_disk (B : qB l s0 C) (h : PtS X x E pg made lat ro db D) (w : Int32) (hw : dlat D ≤ lat) : qMet l s0 C m_P_disk rmP [.ref x, .int w] X (fun r X' => (∃ z, cdisk pg made lat D w = some z ∧ r = some (.int z)) ∧ qSt X X' x E pg made lat ro db D) (fun e X' => (cdisk pg made lat D w = none ∧ e = xA) ∧ qSt X X' x E pg made lat ro db D) := by
  have hS := h
  obtain ⟨cnt, pa, pn, fe, g1, g2, co, li, F, O, h⟩ := h
  obtain ⟨h0, h1, hd, hF, hO, he1, he2, he3⟩ := id h
  obtain ⟨t0, -, -, -, -, -, hPG, ⟨m1, m2, m3, m4, m5⟩, hro, -⟩ := id h1
  refine q_of (by decide +kernel) (Nat.le_of_ble_eq_true rfl) ?_
  refine v_L (L' := [(0, .ref x), (1, .int w)]) rfl ?_
  obtain ⟨d0, d1, d2, -⟩ := id hd
  have hdirty := tchg_le pg D.2.2.1 made
  refine v_iload_n i_P_disk_0 rfl ?_
  by_cases w0 : w = 0
  · subst w0
    refine v_tableIn (tgt := 36) i_P_disk_1 (by decide) (by decide) rfl rfl ?_
    refine v_aload_n i_P_disk_36 rfl ?_
    refine v_get B i_P_disk_37 (by first | assumption | exact qset_self _ _ _ | (rw [qset_ne _ _ (by omega)]; first | assumption | exact qset_self _ _ _ | (rw [qset_ne _ _ (by omega)]; first | assumption | exact qset_self _ _ _ | (rw [qset_ne _ _ (by omega)]; first | assumption | exact qset_self _ _ _ | (rw [qset_ne _ _ (by omega)]; first | assumption | exact qset_self _ _ _ | (rw [qset_ne _ _ (by omega)]; first | assumption | exact qset_self _ _ _ | (rw [qset_ne _ _ (by omega)]; first | assumption | exact qset_self _ _ _))))))) rfl ?_
    refine v_get B i_P_disk_40 (by first | assumption | exact qset_self _ _ _ | (rw [qset_ne _ _ (by omega)]; first | assumption | exact qset_self _ _ _ | (rw [qset_ne _ _ (by omega)]; first | assumption | exact qset_self _ _ _ | (rw [qset_ne _ _ (by omega)]; first | assumption | exact qset_self _ _ _ | (rw [qset_ne _ _ (by omega)]; first | assumption | exact qset_self _ _ _ | (rw [qset_ne _ _ (by omega)]; first | assumption | exact qset_self _ _ _ | (rw [qset_ne _ _ (by omega)]; first | assumption | exact qset_self _ _ _))))))) rfl ?_
    exact v_iret i_P_disk_43 rfl (by decide) (by decide) ⟨⟨_, rfl, rfl⟩, hS, qCl.rf _ _ _⟩
  by_cases w1 : w = 1
  · subst w1
    refine v_tableIn (tgt := 44) i_P_disk_1 (by decide) (by decide) rfl rfl ?_
    refine v_aload_n i_P_disk_44 rfl ?_
    refine v_get B i_P_disk_45 (by first | assumption | exact qset_self _ _ _ | (rw [qset_ne _ _ (by omega)]; first | assumption | exact qset_self _ _ _ | (rw [qset_ne _ _ (by omega)]; first | assumption | exact qset_self _ _ _ | (rw [qset_ne _ _ (by omega)]; first | assumption | exact qset_self _ _ _ | (rw [qset_ne _ _ (by omega)]; first | assumption | exact qset_self _ _ _ | (rw [qset_ne _ _ (by omega)]; first | assumption | exact qset_self _ _ _ | (rw [qset_ne _ _ (by omega)]; first | assumption | exact qset_self _ _ _))))))) rfl ?_
    refine v_get B i_P_disk_48 (by first | assumption | exact qset_self _ _ _ | (rw [qset_ne _ _ (by omega)]; first | assumption | exact qset_self _ _ _ | (rw [qset_ne _ _ (by omega)]; first | assumption | exact qset_self _ _ _ | (rw [qset_ne _ _ (by omega)]; first | assumption | exact qset_self _ _ _ | (rw [qset_ne _ _ (by omega)]; first | assumption | exact qset_self _ _ _ | (rw [qset_ne _ _ (by omega)]; first | assumption | exact qset_self _ _ _ | (rw [qset_ne _ _ (by omega)]; first | assumption | exact qset_self _ _ _))))))) rfl ?_
    refine v_if_eq (tgt := 58) i_P_disk_51 rfl (fun h51 => ?_) (fun h51 => ?_)
    · refine v_aload_n i_P_disk_58 rfl ?_
      refine v_inv B i_P_disk_59 kn_m_P_waitingRecords (c_P_waitingRecords B h hw) h0 rfl rfl (Nat.le_of_ble_eq_true rfl) ⟨by decide, by decide, by first | decide | (simp; omega), by first | decide | (simp; omega)⟩ rfl (fun r X' hq => ?_) (fun _ _ h => False.elim h)
      obtain ⟨rfl, rfl⟩ := hq
      refine v_iret i_P_disk_62 rfl (by decide) (by decide) ⟨⟨_, rfl, ?_⟩, hS, qCl.rf _ _ _⟩
      rw [if_neg (by rw [bI_0.mp h51]; decide)]
    · refine v_iconst (v := 0) i_P_disk_54 rfl ?_
      refine v_goto (tgt := 62) i_P_disk_55 rfl ?_
      refine v_iret i_P_disk_62 rfl (by decide) (by decide) ⟨⟨_, rfl, ?_⟩, hS, qCl.rf _ _ _⟩
      rw [if_pos (bI_ne h51)]
  by_cases w2 : w = 2
  · subst w2
    refine v_tableIn (tgt := 63) i_P_disk_1 (by decide) (by decide) rfl rfl ?_
    refine v_aload_n i_P_disk_63 rfl ?_
    refine v_get B i_P_disk_64 (by first | assumption | exact qset_self _ _ _ | (rw [qset_ne _ _ (by omega)]; first | assumption | exact qset_self _ _ _ | (rw [qset_ne _ _ (by omega)]; first | assumption | exact qset_self _ _ _ | (rw [qset_ne _ _ (by omega)]; first | assumption | exact qset_self _ _ _ | (rw [qset_ne _ _ (by omega)]; first | assumption | exact qset_self _ _ _ | (rw [qset_ne _ _ (by omega)]; first | assumption | exact qset_self _ _ _ | (rw [qset_ne _ _ (by omega)]; first | assumption | exact qset_self _ _ _))))))) rfl ?_
    refine v_get B i_P_disk_67 (by first | assumption | exact qset_self _ _ _ | (rw [qset_ne _ _ (by omega)]; first | assumption | exact qset_self _ _ _ | (rw [qset_ne _ _ (by omega)]; first | assumption | exact qset_self _ _ _ | (rw [qset_ne _ _ (by omega)]; first | assumption | exact qset_self _ _ _ | (rw [qset_ne _ _ (by omega)]; first | assumption | exact qset_self _ _ _ | (rw [qset_ne _ _ (by omega)]; first | assumption | exact qset_self _ _ _ | (rw [qset_ne _ _ (by omega)]; first | assumption | exact qset_self _ _ _))))))) rfl ?_
    exact v_iret i_P_disk_70 rfl (by decide) (by decide) ⟨⟨_, rfl, rfl⟩, hS, qCl.rf _ _ _⟩
  by_cases w3 : w = 3
  · subst w3
    refine v_tableIn (tgt := 71) i_P_disk_1 (by decide) (by decide) rfl rfl ?_
    refine v_aload_n i_P_disk_71 rfl ?_
    refine v_get B i_P_disk_72 (by first | assumption | exact qset_self _ _ _ | (rw [qset_ne _ _ (by omega)]; first | assumption | exact qset_self _ _ _ | (rw [qset_ne _ _ (by omega)]; first | assumption | exact qset_self _ _ _ | (rw [qset_ne _ _ (by omega)]; first | assumption | exact qset_self _ _ _ | (rw [qset_ne _ _ (by omega)]; first | assumption | exact qset_self _ _ _ | (rw [qset_ne _ _ (by omega)]; first | assumption | exact qset_self _ _ _ | (rw [qset_ne _ _ (by omega)]; first | assumption | exact qset_self _ _ _))))))) rfl ?_
    refine v_get B i_P_disk_75 (by first | assumption | exact qset_self _ _ _ | (rw [qset_ne _ _ (by omega)]; first | assumption | exact qset_self _ _ _ | (rw [qset_ne _ _ (by omega)]; first | assumption | exact qset_self _ _ _ | (rw [qset_ne _ _ (by omega)]; first | assumption | exact qset_self _ _ _ | (rw [qset_ne _ _ (by omega)]; first | assumption | exact qset_self _ _ _ | (rw [qset_ne _ _ (by omega)]; first | assumption | exact qset_self _ _ _ | (rw [qset_ne _ _ (by omega)]; first | assumption | exact qset_self _ _ _))))))) rfl ?_
    exact v_iret i_P_disk_78 rfl (by decide) (by decide) ⟨⟨_, rfl, rfl⟩, hS, qCl.rf _ _ _⟩
  by_cases w4 : w = 4
  · subst w4
    refine v_tableIn (tgt := 79) i_P_disk_1 (by decide) (by decide) rfl rfl ?_
    refine v_aload_n i_P_disk_79 rfl ?_
    refine v_get B i_P_disk_80 (by first | assumption | exact qset_self _ _ _ | (rw [qset_ne _ _ (by omega)]; first | assumption | exact qset_self _ _ _ | (rw [qset_ne _ _ (by omega)]; first | assumption | exact qset_self _ _ _ | (rw [qset_ne _ _ (by omega)]; first | assumption | exact qset_self _ _ _ | (rw [qset_ne _ _ (by omega)]; first | assumption | exact qset_self _ _ _ | (rw [qset_ne _ _ (by omega)]; first | assumption | exact qset_self _ _ _ | (rw [qset_ne _ _ (by omega)]; first | assumption | exact qset_self _ _ _))))))) rfl ?_
    refine v_get B i_P_disk_83 (by first | assumption | exact qset_self _ _ _ | (rw [qset_ne _ _ (by omega)]; first | assumption | exact qset_self _ _ _ | (rw [qset_ne _ _ (by omega)]; first | assumption | exact qset_self _ _ _ | (rw [qset_ne _ _ (by omega)]; first | assumption | exact qset_self _ _ _ | (rw [qset_ne _ _ (by omega)]; first | assumption | exact qset_self _ _ _ | (rw [qset_ne _ _ (by omega)]; first | assumption | exact qset_self _ _ _ | (rw [qset_ne _ _ (by omega)]; first | assumption | exact qset_self _ _ _))))))) rfl ?_
    refine v_if_eq (tgt := 93) i_P_disk_86 rfl (fun h86 => ?_) (fun h86 => ?_)
    · refine v_aload_n i_P_disk_93 rfl ?_
      refine v_get B i_P_disk_94 (by first | assumption | exact qset_self _ _ _ | (rw [qset_ne _ _ (by omega)]; first | assumption | exact qset_self _ _ _ | (rw [qset_ne _ _ (by omega)]; first | assumption | exact qset_self _ _ _ | (rw [qset_ne _ _ (by omega)]; first | assumption | exact qset_self _ _ _ | (rw [qset_ne _ _ (by omega)]; first | assumption | exact qset_self _ _ _ | (rw [qset_ne _ _ (by omega)]; first | assumption | exact qset_self _ _ _ | (rw [qset_ne _ _ (by omega)]; first | assumption | exact qset_self _ _ _))))))) rfl ?_
      refine v_aload_n i_P_disk_97 rfl ?_
      refine v_get B i_P_disk_98 (by first | assumption | exact qset_self _ _ _ | (rw [qset_ne _ _ (by omega)]; first | assumption | exact qset_self _ _ _ | (rw [qset_ne _ _ (by omega)]; first | assumption | exact qset_self _ _ _ | (rw [qset_ne _ _ (by omega)]; first | assumption | exact qset_self _ _ _ | (rw [qset_ne _ _ (by omega)]; first | assumption | exact qset_self _ _ _ | (rw [qset_ne _ _ (by omega)]; first | assumption | exact qset_self _ _ _ | (rw [qset_ne _ _ (by omega)]; first | assumption | exact qset_self _ _ _))))))) rfl ?_
      refine v_get B i_P_disk_101 (by first | assumption | exact qset_self _ _ _ | (rw [qset_ne _ _ (by omega)]; first | assumption | exact qset_self _ _ _ | (rw [qset_ne _ _ (by omega)]; first | assumption | exact qset_self _ _ _ | (rw [qset_ne _ _ (by omega)]; first | assumption | exact qset_self _ _ _ | (rw [qset_ne _ _ (by omega)]; first | assumption | exact qset_self _ _ _ | (rw [qset_ne _ _ (by omega)]; first | assumption | exact qset_self _ _ _ | (rw [qset_ne _ _ (by omega)]; first | assumption | exact qset_self _ _ _))))))) rfl ?_
      refine v_inv B i_P_disk_104 kn_m_T_changedSince (c_T_changedSince B h1 D.2.2.1 d2) t0 rfl rfl (Nat.le_of_ble_eq_true rfl) ⟨by decide, by decide, by first | decide | (simp; omega), by first | decide | (simp; omega)⟩ rfl (fun r X' hq => ?_) (fun _ _ h => False.elim h)
      obtain ⟨rfl, rfl⟩ := hq
      refine v_iret i_P_disk_107 rfl (by decide) (by decide) ⟨⟨_, rfl, ?_⟩, hS, qCl.rf _ _ _⟩
      rw [if_neg (by rw [bI_0.mp h86]; decide)]
    · refine v_iconst (v := 0) i_P_disk_89 rfl ?_
      refine v_goto (tgt := 107) i_P_disk_90 rfl ?_
      refine v_iret i_P_disk_107 rfl (by decide) (by decide) ⟨⟨_, rfl, ?_⟩, hS, qCl.rf _ _ _⟩
      rw [if_pos (bI_ne h86)]
  refine v_tableOut (tgt := 108) i_P_disk_1 (sw5 w0 w1 w2 w3 w4) rfl ?_
  refine v_throw (text := "the disk has no such property") B th_A rfl (List.mem_of_getElem? (i := 815) (by decide +kernel)) rfl i_P_disk_108 i_P_disk_111 i_P_disk_112 i_P_disk_114 i_P_disk_117 (by decide) (by decide) (by first | decide | (simp; omega)) (by first | decide | (simp; omega)) (fun N hN => ⟨⟨by unfold cdisk; rw [if_neg w0, if_neg w1, if_neg w2, if_neg w3, if_neg w4], rfl⟩, hS.thr hN⟩)
theorem c_P_cut (B : qB l s0 C) (h : PtS X x E pg made lat ro db D) (n : Int32) : qMet l s0 C m_P_cut rmP [.ref x, .int n] X (fun r X' => D.2.2.2.2 = false ∧ ¬ n < -1 ∧ r = none ∧ qSt X X' x E pg made lat ro db (D.1, D.2.1, D.2.2.1, ccut n, D.2.2.2.2)) (fun e X' => (D.2.2.2.2 = true ∧ e = xS ∨ D.2.2.2.2 = false ∧ n < -1 ∧ e = xA) ∧ qSt X X' x E pg made lat ro db D) := by
  have hS := h
  obtain ⟨cnt, pa, pn, fe, g1, g2, co, li, F, O, h⟩ := h
  obtain ⟨h0, h1, hd, hF, hO, he1, he2, he3⟩ := id h
  obtain ⟨t0, -, -, -, -, -, hPG, ⟨m1, m2, m3, m4, m5⟩, hro, -⟩ := id h1
  refine q_of (by decide +kernel) (Nat.le_of_ble_eq_true rfl) ?_
  refine v_L (L' := [(0, .ref x), (1, .int n)]) rfl ?_
  refine v_aload_n i_P_cut_0 rfl ?_
  refine v_inv B i_P_cut_1 kn_m_P_demandUp (c_P_demandUp B h) h0 rfl rfl (Nat.le_of_ble_eq_true rfl) ⟨by decide, by decide, by first | decide | (simp; omega), by first | decide | (simp; omega)⟩ rfl (fun r X' hq => ?_) (fun e X' hx => by obtain ⟨a, b, N, c, rfl⟩ := hx; exact ⟨Or.inl ⟨a, b⟩, hS.thr c⟩)
  obtain ⟨hdn, rfl, rfl⟩ := hq
  obtain ⟨d0, d1, d2, d3, fr, fs, d4, d5, d6⟩ := id hd
  refine v_iload_n i_P_cut_4 rfl ?_
  refine v_iconst (v := (-1)) i_P_cut_5 rfl ?_
  refine v_icmp_ge (tgt := 19) i_P_cut_6 rfl (fun h6 => ?_) (fun h6 => ?_)
  · refine v_aload_n i_P_cut_19 rfl ?_
    refine v_get B i_P_cut_20 (by first | assumption | exact qset_self _ _ _ | (rw [qset_ne _ _ (by omega)]; first | assumption | exact qset_self _ _ _ | (rw [qset_ne _ _ (by omega)]; first | assumption | exact qset_self _ _ _ | (rw [qset_ne _ _ (by omega)]; first | assumption | exact qset_self _ _ _ | (rw [qset_ne _ _ (by omega)]; first | assumption | exact qset_self _ _ _ | (rw [qset_ne _ _ (by omega)]; first | assumption | exact qset_self _ _ _ | (rw [qset_ne _ _ (by omega)]; first | assumption | exact qset_self _ _ _))))))) rfl ?_
    refine v_iload_n i_P_cut_23 rfl ?_
    refine v_put B i_P_cut_24 (by first | assumption | exact qset_self _ _ _ | (rw [qset_ne _ _ (by omega)]; first | assumption | exact qset_self _ _ _ | (rw [qset_ne _ _ (by omega)]; first | assumption | exact qset_self _ _ _ | (rw [qset_ne _ _ (by omega)]; first | assumption | exact qset_self _ _ _ | (rw [qset_ne _ _ (by omega)]; first | assumption | exact qset_self _ _ _ | (rw [qset_ne _ _ (by omega)]; first | assumption | exact qset_self _ _ _ | (rw [qset_ne _ _ (by omega)]; first | assumption | exact qset_self _ _ _))))))) (Nat.le_of_ble_eq_true rfl) rfl rfl ?_
    have hn : ¬ n < -1 := fun q => by
      have := Int32.le_iff_toInt_le.mp h6
      have := Int32.lt_iff_toInt_lt.mp q
      omega
    have hvo : vO (ccut n) = n ∧ oLt (ccut n) (2 ^ 31) := by
      unfold ccut
      by_cases hm : n = -1
      · rw [if_pos hm]; exact ⟨by rw [hm]; rfl, fun t ht => by cases ht⟩
      · rw [if_neg hm]
        have hp : ¬ n < 0 := fun q => by
          have h7 := Int32.le_iff_toInt_le.mp h6
          have h8 := Int32.lt_iff_toInt_lt.mp q
          rw [show (-1 : Int32).toInt = -1 from rfl] at h7
          rw [show (0 : Int32).toInt = 0 from rfl] at h8
          exact hm (Int32.toInt_inj.mp (by rw [show (-1 : Int32).toInt = -1 from rfl]; omega))
        obtain ⟨j, hj, rfl⟩ := nI_of hp
        rw [nI_clamp hj]
        exact ⟨rfl, fun t ht => by cases ht; exact hj⟩
    have hs2 : qSame X (qset X (x + 16) (.inr (0, [Value.ref (x + 16 + 1), .ref (x + 16 + 2), .int (nI D.1.length), .int (nI D.2.1), .int (nI D.2.2.1), .int (vO D.2.2.2.1), .int (bI D.2.2.2.2)].set 5 (.int n)))) (x + 16) (x + 16 + 3) := (qSame.rf X _ _).set _ (by omega) (by omega)
    refine v_vret i_P_cut_27 rfl (by decide) (by decide) ⟨hdn, hn, rfl, (h.disk ?_ hs2).st, qCl.same hs2 (by omega) (by omega)⟩
    refine ⟨?_, d1, d2, hvo.2, fr, fs, by rw [qset_ne _ _ (by omega)]; exact d4, by rw [qset_ne _ _ (by omega)]; exact d5, d6⟩
    rw [qset_self, hvo.1]; rfl
  · refine v_throw (text := "no cut can be set before the next block") B th_A rfl (List.mem_of_getElem? (i := 768) (by decide +kernel)) rfl i_P_cut_9 i_P_cut_12 i_P_cut_13 i_P_cut_15 i_P_cut_18 (by decide) (by decide) (by first | decide | (simp; omega)) (by first | decide | (simp; omega)) (fun N hN => ⟨Or.inr ⟨hdn, Int32.lt_iff_toInt_lt.mpr (by have h7 : ¬ (-1 : Int32).toInt ≤ n.toInt := fun q => h6 (Int32.le_iff_toInt_le.mpr q); omega), rfl⟩, hS.thr hN⟩)
theorem c_P_down (B : qB l s0 C) (h : PtS X x E pg made lat ro db D) : qMet l s0 C m_P_down rmP [.ref x] X (fun r X' => D.2.2.2.2 = false ∧ r = none ∧ qSt X X' x E pg made lat ro db (D.1, D.2.1, D.2.2.1, D.2.2.2.1, true)) (fun e X' => D.2.2.2.2 = true ∧ e = xS ∧ qSt X X' x E pg made lat ro db D) := by
  have hS := h
  obtain ⟨cnt, pa, pn, fe, g1, g2, co, li, F, O, h⟩ := h
  obtain ⟨h0, h1, hd, hF, hO, he1, he2, he3⟩ := id h
  obtain ⟨t0, -, -, -, -, -, hPG, ⟨m1, m2, m3, m4, m5⟩, hro, -⟩ := id h1
  refine q_of (by decide +kernel) (Nat.le_of_ble_eq_true rfl) ?_
  refine v_L (L' := [(0, .ref x)]) rfl ?_
  refine v_aload_n i_P_down_0 rfl ?_
  refine v_inv B i_P_down_1 kn_m_P_demandUp (c_P_demandUp B h) h0 rfl rfl (Nat.le_of_ble_eq_true rfl) ⟨by decide, by decide, by first | decide | (simp; omega), by first | decide | (simp; omega)⟩ rfl (fun r X' hq => ?_) (fun e X' hx => by obtain ⟨a, b, N, c, rfl⟩ := hx; exact ⟨a, b, hS.thr c⟩)
  obtain ⟨hdn, rfl, rfl⟩ := hq
  obtain ⟨d0, d1, d2, d3, fr, fs, d4, d5, d6⟩ := id hd
  refine v_aload_n i_P_down_4 rfl ?_
  refine v_get B i_P_down_5 (by first | assumption | exact qset_self _ _ _ | (rw [qset_ne _ _ (by omega)]; first | assumption | exact qset_self _ _ _ | (rw [qset_ne _ _ (by omega)]; first | assumption | exact qset_self _ _ _ | (rw [qset_ne _ _ (by omega)]; first | assumption | exact qset_self _ _ _ | (rw [qset_ne _ _ (by omega)]; first | assumption | exact qset_self _ _ _ | (rw [qset_ne _ _ (by omega)]; first | assumption | exact qset_self _ _ _ | (rw [qset_ne _ _ (by omega)]; first | assumption | exact qset_self _ _ _))))))) rfl ?_
  refine v_iconst (v := 1) i_P_down_8 rfl ?_
  refine v_put B i_P_down_9 (by first | assumption | exact qset_self _ _ _ | (rw [qset_ne _ _ (by omega)]; first | assumption | exact qset_self _ _ _ | (rw [qset_ne _ _ (by omega)]; first | assumption | exact qset_self _ _ _ | (rw [qset_ne _ _ (by omega)]; first | assumption | exact qset_self _ _ _ | (rw [qset_ne _ _ (by omega)]; first | assumption | exact qset_self _ _ _ | (rw [qset_ne _ _ (by omega)]; first | assumption | exact qset_self _ _ _ | (rw [qset_ne _ _ (by omega)]; first | assumption | exact qset_self _ _ _))))))) (Nat.le_of_ble_eq_true rfl) rfl rfl ?_
  have hs2 : qSame X (qset X (x + 16) (.inr (0, [Value.ref (x + 16 + 1), .ref (x + 16 + 2), .int (nI D.1.length), .int (nI D.2.1), .int (nI D.2.2.1), .int (vO D.2.2.2.1), .int (bI D.2.2.2.2)].set 6 (.int 1)))) (x + 16) (x + 16 + 3) := (qSame.rf X _ _).set _ (by omega) (by omega)
  refine v_vret i_P_down_12 rfl (by decide) (by decide) ⟨hdn, rfl, (h.disk ?_ hs2).st, qCl.same hs2 (by omega) (by omega)⟩
  refine ⟨?_, d1, d2, d3, fr, fs, by rw [qset_ne _ _ (by omega)]; exact d4, by rw [qset_ne _ _ (by omega)]; exact d5, d6⟩
  rw [qset_self]; rfl
theorem c_P_spoil (B : qB l s0 C) (h : PtS X x E pg made lat ro db D) (b : Int32) : qMet l s0 C m_P_spoil rmP [.ref x, .int b] X (fun r X' => (∃ i, i < D.1.length ∧ b = nI i ∧ r = none ∧ qSt X X' x E pg made lat ro db (D.1.set i ((lg D.1 i).1, true), D.2))) (fun e X' => ¬ (0 ≤ b ∧ b < nI D.1.length) ∧ e = xI ∧ qSt X X' x E pg made lat ro db D) := by
  have hS := h
  obtain ⟨cnt, pa, pn, fe, g1, g2, co, li, F, O, h⟩ := h
  obtain ⟨h0, h1, hd, hF, hO, he1, he2, he3⟩ := id h
  obtain ⟨t0, -, -, -, -, -, hPG, ⟨m1, m2, m3, m4, m5⟩, hro, -⟩ := id h1
  refine q_of (by decide +kernel) (Nat.le_of_ble_eq_true rfl) ?_
  refine v_L (L' := [(0, .ref x), (1, .int b)]) rfl ?_
  obtain ⟨d0, d1, d2, -⟩ := id hd
  have out : ¬ (0 ≤ b ∧ b < nI D.1.length) → qV l s0 C m_P_spoil rmP (fun r X' => (∃ i, i < D.1.length ∧ b = nI i ∧ r = none ∧ qSt X X' x E pg made lat ro db (D.1.set i ((lg D.1 i).1, true), D.2))) (fun e X' => ¬ (0 ≤ b ∧ b < nI D.1.length) ∧ e = xI ∧ qSt X X' x E pg made lat ro db D) 0 0 X 15 [(0, .ref x), (1, .int b)] [] := by
    intro hn
    refine v_throw (text := "the log has no such block") B th_I rfl (List.mem_of_getElem? (i := 783) (by decide +kernel)) rfl i_P_spoil_15 i_P_spoil_18 i_P_spoil_19 i_P_spoil_21 i_P_spoil_24 (by decide) (by decide) (by first | decide | (simp; omega)) (by first | decide | (simp; omega)) (fun N hN => ⟨hn, rfl, hS.thr hN⟩)
  refine v_iload_n i_P_spoil_0 rfl ?_
  refine v_if_lt (tgt := 15) i_P_spoil_1 rfl (fun hneg => ?_) (fun hneg => ?_)
  · refine out (fun q9 => ?_)
    have := Int32.le_iff_toInt_le.mp q9.1
    have := Int32.lt_iff_toInt_lt.mp hneg
    omega
  refine v_iload_n i_P_spoil_4 rfl ?_
  refine v_aload_n i_P_spoil_5 rfl ?_
  refine v_get B i_P_spoil_6 (by first | assumption | exact qset_self _ _ _ | (rw [qset_ne _ _ (by omega)]; first | assumption | exact qset_self _ _ _ | (rw [qset_ne _ _ (by omega)]; first | assumption | exact qset_self _ _ _ | (rw [qset_ne _ _ (by omega)]; first | assumption | exact qset_self _ _ _ | (rw [qset_ne _ _ (by omega)]; first | assumption | exact qset_self _ _ _ | (rw [qset_ne _ _ (by omega)]; first | assumption | exact qset_self _ _ _ | (rw [qset_ne _ _ (by omega)]; first | assumption | exact qset_self _ _ _))))))) rfl ?_
  refine v_get B i_P_spoil_9 (by first | assumption | exact qset_self _ _ _ | (rw [qset_ne _ _ (by omega)]; first | assumption | exact qset_self _ _ _ | (rw [qset_ne _ _ (by omega)]; first | assumption | exact qset_self _ _ _ | (rw [qset_ne _ _ (by omega)]; first | assumption | exact qset_self _ _ _ | (rw [qset_ne _ _ (by omega)]; first | assumption | exact qset_self _ _ _ | (rw [qset_ne _ _ (by omega)]; first | assumption | exact qset_self _ _ _ | (rw [qset_ne _ _ (by omega)]; first | assumption | exact qset_self _ _ _))))))) rfl ?_
  refine v_icmp_lt (tgt := 25) i_P_spoil_12 rfl (fun h12 => ?_) (fun h12 => ?_)
  rotate_left
  · exact out (fun q9 => h12 q9.2)
  obtain ⟨i, hi0, rfl⟩ := nI_of hneg
  have hi : i < D.1.length := (nI_ltI hi0 (by omega)).mp h12
  refine v_aload_n i_P_spoil_25 rfl ?_
  refine v_get B i_P_spoil_26 (by first | assumption | exact qset_self _ _ _ | (rw [qset_ne _ _ (by omega)]; first | assumption | exact qset_self _ _ _ | (rw [qset_ne _ _ (by omega)]; first | assumption | exact qset_self _ _ _ | (rw [qset_ne _ _ (by omega)]; first | assumption | exact qset_self _ _ _ | (rw [qset_ne _ _ (by omega)]; first | assumption | exact qset_self _ _ _ | (rw [qset_ne _ _ (by omega)]; first | assumption | exact qset_self _ _ _ | (rw [qset_ne _ _ (by omega)]; first | assumption | exact qset_self _ _ _))))))) rfl ?_
  refine v_iload_n i_P_spoil_29 rfl ?_
  refine v_inv B i_P_spoil_30 kn_m_D_spoilBlock (c_D_spoilBlock B hd i hi) d0 rfl rfl (Nat.le_of_ble_eq_true rfl) ⟨by decide, by decide, by first | decide | (simp; omega), by first | decide | (simp; omega)⟩ rfl (fun r X' hq => ?_) (fun _ _ h => False.elim h)
  obtain ⟨rfl, hd2, hs2⟩ := hq
  exact v_vret i_P_spoil_33 rfl (by decide) (by decide) ⟨i, hi, rfl, rfl, (h.disk hd2 hs2).st, qCl.same hs2 (by omega) (by omega)⟩
end PD
