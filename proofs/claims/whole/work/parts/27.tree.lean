/-! THE TREE: an object at t: its first page at t + 1, the book at t + 6, roots at t + 7, path at t + 8, the rows 'coming' at t + 9 and 'list' at t + 12; pages: cnt of them were ever made, page i lies at pa i and is pg i -/
def TrAt (X : qX) (t cnt : Nat) (pa : Nat → Nat) (pg : Nat → Pg) (made lat : Nat) (ro : Nat → Nat) (pn : Nat → Option Nat) (fe : Int64) (g1 g2 : Int32) (co li : qRw) (db : Nat) : Prop :=
  X.1 t = some (.inr (3, [.ref (t + 1), .ref (t + 6), .ref (t + 7), .int (nI made), .int (nI lat), .ref (t + 8), .long fe, .int g1, .int g2, .ref (t + 9), .ref (t + 12), .int (nI db)])) ∧
  (∃ bk : Nat → Option Nat, X.1 (t + 6) = some (.inl (3, 256, .inr (.inr (.inr (.inr bk))))) ∧ (∀ i, i < cnt → bk i = some (pa i)) ∧ (∀ i, cnt ≤ i → bk i = none)) ∧
  (∃ fr : Nat → Int32, X.1 (t + 7) = some (.inl (0, 801, .inl fr)) ∧ ∀ i, i < 801 → fr i = nI (ro i)) ∧
  (∃ pf : Nat → Option Nat, X.1 (t + 8) = some (.inl (3, 16, .inr (.inr (.inr (.inr pf))))) ∧ ∀ j, j < 16 → pf j = (pn j).map pa) ∧
  RowAt X (t + 9) 2 co ∧ RowAt X (t + 12) 34 li ∧ (∀ i, i < cnt → PgAt X (pa i) i (pg i)) ∧
  (1 ≤ made ∧ made ≤ cnt ∧ cnt ≤ 256 ∧ lat ≤ 800 ∧ db < 2 ^ 30) ∧ (∀ i, i < 801 → ro i < 256) ∧ (∀ j i, pn j = some i → i < cnt) ∧
  pa 0 = t + 1 ∧ (∀ i j, i < j → j < cnt → pa i + 5 ≤ pa j) ∧ (∀ i, 1 ≤ i → i < cnt → t + 24 ≤ pa i ∧ pa i + 5 ≤ X.2) ∧ t + 15 ≤ X.2
section TR
variable {X X' : qX} {t cnt : Nat} {pa : Nat → Nat} {pg : Nat → Pg} {made lat : Nat} {ro : Nat → Nat} {pn : Nat → Option Nat} {fe : Int64} {g1 g2 : Int32} {co li : qRw} {db : Nat}
/-- where page i lies -/
theorem TrAt.where_ (h : TrAt X t cnt pa pg made lat ro pn fe g1 g2 co li db) {i : Nat} (hi : i < cnt) : pa i = t + 1 ∨ (t + 24 ≤ pa i ∧ 1 ≤ i) := by
  obtain ⟨-, -, -, -, -, -, -, -, -, -, h1, -, h3, -⟩ := h
  cases i with
  | zero => exact Or.inl h1
  | succ i => exact Or.inr ⟨(h3 (i + 1) (by omega) hi).1, by omega⟩
theorem TrAt.apart (h : TrAt X t cnt pa pg made lat ro pn fe g1 g2 co li db) {i j : Nat} (hi : i < cnt) (hj : j < cnt) (hij : i ≠ j) : pa i + 5 ≤ pa j ∨ pa j + 5 ≤ pa i := by
  obtain ⟨-, -, -, -, -, -, -, -, -, -, -, h2, -⟩ := h
  rcases Nat.lt_or_ge i j with q | q
  · exact Or.inl (h2 i j q hj)
  · exact Or.inr (h2 j i (by omega) hi)
/-- one page changes -/
theorem TrAt.page (h : TrAt X t cnt pa pg made lat ro pn fe g1 g2 co li db) {i : Nat} {P : Pg} (hi : i < cnt) (hs : qSame X X' (pa i) (pa i + 5)) (hP : PgAt X' (pa i) i P) : TrAt X' t cnt pa (va_up pg i P) made lat ro pn fe g1 g2 co li db := by
  have hw := h.where_ hi
  have hap := fun j (hj : j < cnt) (hne : i ≠ j) => h.apart hi hj hne
  obtain ⟨h1, ⟨bk, h2, h3, h4⟩, ⟨fr, h5, h6⟩, ⟨pf, h7, h8⟩, h9, h10, h11, h12, h13, h14, h15, h16, h17, h18⟩ := h
  refine ⟨by rw [hs.2 _ (by omega)]; exact h1, ⟨bk, by rw [hs.2 _ (by omega)]; exact h2, h3, h4⟩, ⟨fr, by rw [hs.2 _ (by omega)]; exact h5, h6⟩, ⟨pf, by rw [hs.2 _ (by omega)]; exact h7, h8⟩, h9.same hs (by omega), h10.same hs (by omega), ?_, h12, h13, h14, h15, h16, fun j h1 h2 => ⟨(h17 j h1 h2).1, by rw [hs.1]; exact (h17 j h1 h2).2⟩, by rw [hs.1]; exact h18⟩
  intro j hj
  by_cases hji : j = i
  · subst hji; rw [va_up_self]; exact hP
  · rw [va_up_ne _ _ hji]
    have := hap j hj (fun q => hji q.symm)
    exact (h11 j hj).same hs (by omega)
/-- the row 'coming' changes -/
theorem TrAt.coming (h : TrAt X t cnt pa pg made lat ro pn fe g1 g2 co li db) {R : qRw} (hs : qSame X X' (t + 9) (t + 9 + 3)) (hR : RowAt X' (t + 9) 2 R) : TrAt X' t cnt pa pg made lat ro pn fe g1 g2 R li db := by
  have hw := fun i (hi : i < cnt) => h.where_ hi
  obtain ⟨h1, ⟨bk, h2, h3, h4⟩, ⟨fr, h5, h6⟩, ⟨pf, h7, h8⟩, h9, h10, h11, h12, h13, h14, h15, h16, h17, h18⟩ := h
  refine ⟨by rw [hs.2 _ (by omega)]; exact h1, ⟨bk, by rw [hs.2 _ (by omega)]; exact h2, h3, h4⟩, ⟨fr, by rw [hs.2 _ (by omega)]; exact h5, h6⟩, ⟨pf, by rw [hs.2 _ (by omega)]; exact h7, h8⟩, hR, h10.same hs (by omega), fun i hi => ?_, h12, h13, h14, h15, h16, fun j h1 h2 => ⟨(h17 j h1 h2).1, by rw [hs.1]; exact (h17 j h1 h2).2⟩, by rw [hs.1]; exact h18⟩
  have := hw i hi
  exact (h11 i hi).same hs (by omega)
/-- the row 'list' changes -/
theorem TrAt.list (h : TrAt X t cnt pa pg made lat ro pn fe g1 g2 co li db) {R : qRw} (hs : qSame X X' (t + 12) (t + 12 + 3)) (hR : RowAt X' (t + 12) 34 R) : TrAt X' t cnt pa pg made lat ro pn fe g1 g2 co R db := by
  have hw := fun i (hi : i < cnt) => h.where_ hi
  obtain ⟨h1, ⟨bk, h2, h3, h4⟩, ⟨fr, h5, h6⟩, ⟨pf, h7, h8⟩, h9, h10, h11, h12, h13, h14, h15, h16, h17, h18⟩ := h
  refine ⟨by rw [hs.2 _ (by omega)]; exact h1, ⟨bk, by rw [hs.2 _ (by omega)]; exact h2, h3, h4⟩, ⟨fr, by rw [hs.2 _ (by omega)]; exact h5, h6⟩, ⟨pf, by rw [hs.2 _ (by omega)]; exact h7, h8⟩, h9.same hs (by omega), hR, fun i hi => ?_, h12, h13, h14, h15, h16, fun j h1 h2 => ⟨(h17 j h1 h2).1, by rw [hs.1]; exact (h17 j h1 h2).2⟩, by rw [hs.1]; exact h18⟩
  have := hw i hi
  exact (h11 i hi).same hs (by omega)
/-- what lies elsewhere changes -/
theorem TrAt.other (h : TrAt X t cnt pa pg made lat ro pn fe g1 g2 co li db) {lo hi : Nat} (hs : qSame X X' lo hi) (h1 : t + 15 ≤ lo) (h2 : hi ≤ t + 24) : TrAt X' t cnt pa pg made lat ro pn fe g1 g2 co li db := by
  have hw := fun i (hi : i < cnt) => h.where_ hi
  obtain ⟨h1, ⟨bk, h2, h3, h4⟩, ⟨fr, h5, h6⟩, ⟨pf, h7, h8⟩, h9, h10, h11, h12, h13, h14, h15, h16, h17, h18⟩ := h
  refine ⟨by rw [hs.2 _ (by omega)]; exact h1, ⟨bk, by rw [hs.2 _ (by omega)]; exact h2, h3, h4⟩, ⟨fr, by rw [hs.2 _ (by omega)]; exact h5, h6⟩, ⟨pf, by rw [hs.2 _ (by omega)]; exact h7, h8⟩, h9.same hs (by omega), h10.same hs (by omega), fun i hi => ?_, h12, h13, h14, h15, h16, fun j h1 h2 => ⟨(h17 j h1 h2).1, by rw [hs.1]; exact (h17 j h1 h2).2⟩, by rw [hs.1]; exact h18⟩
  have := hw i hi
  exact (h11 i hi).same hs (by omega)
/-- the tree's own numbers change -/
theorem TrAt.obj (h : TrAt X t cnt pa pg made lat ro pn fe g1 g2 co li db) {fs : List Value} {made' lat' db' : Nat} {fe' : Int64} {g1' g2' : Int32} (hfs : fs = [.ref (t + 1), .ref (t + 6), .ref (t + 7), .int (nI made'), .int (nI lat'), .ref (t + 8), .long fe', .int g1', .int g2', .ref (t + 9), .ref (t + 12), .int (nI db')])
    (hm : 1 ≤ made' ∧ made' ≤ cnt) (hl : lat' ≤ 800) (hd : db' < 2 ^ 30) : TrAt (qset X t (.inr (3, fs))) t cnt pa pg made' lat' ro pn fe' g1' g2' co li db' := by
  have hw := fun i (hi : i < cnt) => h.where_ hi
  have hs : qSame X (qset X t (.inr (3, fs))) t (t + 1) := (qSame.rf X t (t + 1)).set _ (by omega) (by omega)
  subst hfs
  obtain ⟨h1, ⟨bk, h2, h3, h4⟩, ⟨fr, h5, h6⟩, ⟨pf, h7, h8⟩, h9, h10, h11, h12, h13, h14, h15, h16, h17, h18⟩ := h
  refine ⟨qset_self _ _ _, ⟨bk, by rw [hs.2 _ (by omega)]; exact h2, h3, h4⟩, ⟨fr, by rw [hs.2 _ (by omega)]; exact h5, h6⟩, ⟨pf, by rw [hs.2 _ (by omega)]; exact h7, h8⟩, h9.same hs (by omega), h10.same hs (by omega), fun i hi => ?_, ⟨hm.1, hm.2, h12.2.2.1, hl, hd⟩, h13, h14, h15, h16, h17, h18⟩
  have := hw i hi
  exact (h11 i hi).same hs (by omega)
/-- the page that a number leads to -/
def tpn (made : Nat) (x : Int64) : Nat := if 0 ≤ x.toInt ∧ x.toInt < (made : Int) then x.toInt.toNat else 0
theorem tpn_lt {made : Nat} (h : 1 ≤ made) (x : Int64) : tpn made x < made := by
  unfold tpn; split <;> omega
theorem tpn_nI {made i : Nat} (h : i < made) (hm : made ≤ 256) : tpn made (nI i).toInt64 = i := by
  have : (nI i).toInt64.toInt = i := by rw [Int32.toInt_toInt64, nI_toInt (by omega)]
  rw [tpn, this, if_pos (by omega)]; simp
variable {l : Launch} {s0 : State} {C : qC}
theorem c_T_pageAt (B : qB l s0 C) (h : TrAt X t cnt pa pg made lat ro pn fe g1 g2 co li db) (x : Int64) : qMet l s0 C m_T_pageAt rm_T_pageAt [.ref t, .long x] X (fun r X' => X = X' ∧ r = some (.ref (pa (tpn made x)))) (fun _ _ => False) := by
  obtain ⟨h0, ⟨bk, hb, hb1, hb2⟩, -, -, -, -, -, ⟨m1, m2, m3, -⟩, -, -, hp0, -⟩ := h
  refine q_of (by decide +kernel) (Nat.le_of_ble_eq_true rfl) ?_
  refine v_L (L' := [(0, .ref t), (1, .long x)]) rfl ?_
  have out : ¬ (0 ≤ x.toInt ∧ x.toInt < (made : Int)) → qV l s0 C m_T_pageAt rm_T_pageAt (fun r X' => X = X' ∧ r = some (.ref (pa (tpn made x)))) (fun _ _ => False) 0 0 X 27 [(0, .ref t), (1, .long x)] [] := by
    intro hn
    refine v_aload_n i_T_pageAt_27 rfl ?_
    refine v_get B i_T_pageAt_28 (by first | assumption | exact qset_self _ _ _ | (rw [qset_ne _ _ (by omega)]; first | assumption | exact qset_self _ _ _ | (rw [qset_ne _ _ (by omega)]; first | assumption | exact qset_self _ _ _ | (rw [qset_ne _ _ (by omega)]; first | assumption | exact qset_self _ _ _ | (rw [qset_ne _ _ (by omega)]; first | assumption | exact qset_self _ _ _ | (rw [qset_ne _ _ (by omega)]; first | assumption | exact qset_self _ _ _ | (rw [qset_ne _ _ (by omega)]; first | assumption | exact qset_self _ _ _))))))) rfl ?_
    refine v_aret i_T_pageAt_31 rfl (by decide) (by decide) ⟨rfl, ?_⟩
    rw [tpn, if_neg hn, hp0]
  refine v_lload_n i_T_pageAt_0 rfl ?_
  refine v_lconst (v := 0) i_T_pageAt_1 rfl ?_
  refine v_lcmp i_T_pageAt_2 ?_
  refine v_if_lt (tgt := 27) i_T_pageAt_3 rfl (fun h3 => ?_) (fun h3 => ?_)
  · refine out (fun q => ?_)
    have := Int64.lt_iff_toInt_lt.mp (lcmp_lt.mp h3)
    rw [show (0 : Int64).toInt = 0 from rfl] at this
    omega
  have hx0 : ¬ x < 0 := fun q => h3 (lcmp_lt.mpr q)
  obtain ⟨j, hj, rfl⟩ := pk_lOf hx0
  have hti := pk_lT hj
  refine v_lload_n i_T_pageAt_6 rfl ?_
  refine v_aload_n i_T_pageAt_7 rfl ?_
  refine v_get B i_T_pageAt_8 (by first | assumption | exact qset_self _ _ _ | (rw [qset_ne _ _ (by omega)]; first | assumption | exact qset_self _ _ _ | (rw [qset_ne _ _ (by omega)]; first | assumption | exact qset_self _ _ _ | (rw [qset_ne _ _ (by omega)]; first | assumption | exact qset_self _ _ _ | (rw [qset_ne _ _ (by omega)]; first | assumption | exact qset_self _ _ _ | (rw [qset_ne _ _ (by omega)]; first | assumption | exact qset_self _ _ _ | (rw [qset_ne _ _ (by omega)]; first | assumption | exact qset_self _ _ _))))))) rfl ?_
  refine v_i2l i_T_pageAt_11 ?_
  refine v_lcmp i_T_pageAt_12 ?_
  rw [nI_l (by omega)]
  refine v_if_ge (tgt := 27) i_T_pageAt_13 rfl (fun h13 => ?_) (fun h13 => ?_)
  · refine out (fun q => ?_)
    have := (pk_lLE (by omega) hj).mp ((lg_cmp_ge _ _).mp h13)
    omega
  have hjm : j < made := by
    have : ¬ lN made ≤ lN j := fun q => h13 ((lg_cmp_ge _ _).mpr q)
    rw [pk_lLE (by omega) hj] at this
    omega
  refine v_lload_n i_T_pageAt_16 rfl ?_
  refine v_aload_n i_T_pageAt_17 rfl ?_
  refine v_get B i_T_pageAt_18 (by first | assumption | exact qset_self _ _ _ | (rw [qset_ne _ _ (by omega)]; first | assumption | exact qset_self _ _ _ | (rw [qset_ne _ _ (by omega)]; first | assumption | exact qset_self _ _ _ | (rw [qset_ne _ _ (by omega)]; first | assumption | exact qset_self _ _ _ | (rw [qset_ne _ _ (by omega)]; first | assumption | exact qset_self _ _ _ | (rw [qset_ne _ _ (by omega)]; first | assumption | exact qset_self _ _ _ | (rw [qset_ne _ _ (by omega)]; first | assumption | exact qset_self _ _ _))))))) rfl ?_
  refine v_alen B (by first | assumption | exact qset_self _ _ _ | (rw [qset_ne _ _ (by omega)]; first | assumption | exact qset_self _ _ _ | (rw [qset_ne _ _ (by omega)]; first | assumption | exact qset_self _ _ _ | (rw [qset_ne _ _ (by omega)]; first | assumption | exact qset_self _ _ _ | (rw [qset_ne _ _ (by omega)]; first | assumption | exact qset_self _ _ _ | (rw [qset_ne _ _ (by omega)]; first | assumption | exact qset_self _ _ _ | (rw [qset_ne _ _ (by omega)]; first | assumption | exact qset_self _ _ _))))))) rfl i_T_pageAt_21 ?_
  refine v_i2l i_T_pageAt_22 ?_
  refine v_lcmp i_T_pageAt_23 ?_
  rw [nI_l (by omega)]
  refine v_if_lt (tgt := 32) i_T_pageAt_24 rfl (fun h24 => ?_) (fun h24 => ?_)
  · refine v_aload_n i_T_pageAt_32 rfl ?_
    refine v_get B i_T_pageAt_33 (by first | assumption | exact qset_self _ _ _ | (rw [qset_ne _ _ (by omega)]; first | assumption | exact qset_self _ _ _ | (rw [qset_ne _ _ (by omega)]; first | assumption | exact qset_self _ _ _ | (rw [qset_ne _ _ (by omega)]; first | assumption | exact qset_self _ _ _ | (rw [qset_ne _ _ (by omega)]; first | assumption | exact qset_self _ _ _ | (rw [qset_ne _ _ (by omega)]; first | assumption | exact qset_self _ _ _ | (rw [qset_ne _ _ (by omega)]; first | assumption | exact qset_self _ _ _))))))) rfl ?_
    refine v_lload_n i_T_pageAt_36 rfl ?_
    refine v_l2i i_T_pageAt_37 ?_
    refine v_aald (j := j) B hb (lN_i j) (by omega) (by omega) i_T_pageAt_38 ?_
    rw [hb1 j (by omega), show va_rf (some (pa j)) = .ref (pa j) from rfl]
    refine v_astore_n i_T_pageAt_39 (by decide) rfl ?_
    refine v_aload_n i_T_pageAt_40 rfl ?_
    refine v_ifnull i_T_pageAt_41 ?_
    refine v_aload_n i_T_pageAt_44 rfl ?_
    refine v_goto (tgt := 52) i_T_pageAt_45 rfl ?_
    refine v_aret i_T_pageAt_52 rfl (by decide) (by decide) ⟨rfl, ?_⟩
    rw [tpn, hti, if_pos (by omega)]
    simp
  · exact absurd (lcmp_lt.mpr ((pk_lLT hj (by omega)).mpr (by omega))) h24
theorem c_T_rootOf (B : qB l s0 C) (h : TrAt X t cnt pa pg made lat ro pn fe g1 g2 co li db) (v : Nat) (hv : v < 801) : qMet l s0 C m_T_rootOf rm_T_rootOf [.ref t, .int (nI v)] X (fun r X' => X = X' ∧ r = some (.int (nI (ro v)))) (fun _ _ => False) := by
  obtain ⟨h0, -, ⟨fr, hr, hr1⟩, -⟩ := h
  refine q_of (by decide +kernel) (Nat.le_of_ble_eq_true rfl) ?_
  refine v_L (L' := [(0, .ref t), (1, .int (nI v))]) rfl ?_
  refine v_iload_n i_T_rootOf_0 rfl ?_
  refine v_if_lt (tgt := 22) i_T_rootOf_1 rfl (fun h1 => ?_) (fun h1 => ?_)
  · exact absurd h1 (nI_pos (by omega))
  refine v_iload_n i_T_rootOf_4 rfl ?_
  refine v_aload_n i_T_rootOf_5 rfl ?_
  refine v_get B i_T_rootOf_6 (by first | assumption | exact qset_self _ _ _ | (rw [qset_ne _ _ (by omega)]; first | assumption | exact qset_self _ _ _ | (rw [qset_ne _ _ (by omega)]; first | assumption | exact qset_self _ _ _ | (rw [qset_ne _ _ (by omega)]; first | assumption | exact qset_self _ _ _ | (rw [qset_ne _ _ (by omega)]; first | assumption | exact qset_self _ _ _ | (rw [qset_ne _ _ (by omega)]; first | assumption | exact qset_self _ _ _ | (rw [qset_ne _ _ (by omega)]; first | assumption | exact qset_self _ _ _))))))) rfl ?_
  refine v_alen B (by first | assumption | exact qset_self _ _ _ | (rw [qset_ne _ _ (by omega)]; first | assumption | exact qset_self _ _ _ | (rw [qset_ne _ _ (by omega)]; first | assumption | exact qset_self _ _ _ | (rw [qset_ne _ _ (by omega)]; first | assumption | exact qset_self _ _ _ | (rw [qset_ne _ _ (by omega)]; first | assumption | exact qset_self _ _ _ | (rw [qset_ne _ _ (by omega)]; first | assumption | exact qset_self _ _ _ | (rw [qset_ne _ _ (by omega)]; first | assumption | exact qset_self _ _ _))))))) rfl i_T_rootOf_9 ?_
  refine v_icmp_ge (tgt := 22) i_T_rootOf_10 rfl (fun h10 => ?_) (fun h10 => ?_)
  · exact absurd h10 (nI_ge hv (by omega))
  refine v_aload_n i_T_rootOf_13 rfl ?_
  refine v_get B i_T_rootOf_14 (by first | assumption | exact qset_self _ _ _ | (rw [qset_ne _ _ (by omega)]; first | assumption | exact qset_self _ _ _ | (rw [qset_ne _ _ (by omega)]; first | assumption | exact qset_self _ _ _ | (rw [qset_ne _ _ (by omega)]; first | assumption | exact qset_self _ _ _ | (rw [qset_ne _ _ (by omega)]; first | assumption | exact qset_self _ _ _ | (rw [qset_ne _ _ (by omega)]; first | assumption | exact qset_self _ _ _ | (rw [qset_ne _ _ (by omega)]; first | assumption | exact qset_self _ _ _))))))) rfl ?_
  refine v_iload_n i_T_rootOf_17 rfl ?_
  refine v_iald B (by first | assumption | exact qset_self _ _ _ | (rw [qset_ne _ _ (by omega)]; first | assumption | exact qset_self _ _ _ | (rw [qset_ne _ _ (by omega)]; first | assumption | exact qset_self _ _ _ | (rw [qset_ne _ _ (by omega)]; first | assumption | exact qset_self _ _ _ | (rw [qset_ne _ _ (by omega)]; first | assumption | exact qset_self _ _ _ | (rw [qset_ne _ _ (by omega)]; first | assumption | exact qset_self _ _ _ | (rw [qset_ne _ _ (by omega)]; first | assumption | exact qset_self _ _ _))))))) rfl (by omega) (by omega) i_T_rootOf_18 ?_
  refine v_goto (tgt := 23) i_T_rootOf_19 rfl ?_
  refine v_iret i_T_rootOf_23 rfl (by decide) (by decide) ⟨rfl, ?_⟩
  rw [hr1 v hv]
theorem c_T_setRoot (B : qB l s0 C) (h : TrAt X t cnt pa pg made lat ro pn fe g1 g2 co li db) (v p : Nat) (hv : v < 801) (hp : p < 256) : qMet l s0 C m_T_setRoot rm_T_setRoot [.ref t, .int (nI v), .int (nI p)] X (fun r X' => r = none ∧ TrAt X' t cnt pa pg made lat (va_up ro v p) pn fe g1 g2 co li db ∧ qSame X X' (t + 7) (t + 8)) (fun _ _ => False) := by
  have hw := fun i (hi : i < cnt) => h.where_ hi
  obtain ⟨h0, ⟨bk, h2, h3, h4⟩, ⟨fr, hr, hr1⟩, ⟨pf, h7, h8⟩, h9, hA, h11, h12, h13, h14, h15, h16, h17, h18⟩ := h
  refine q_of (by decide +kernel) (Nat.le_of_ble_eq_true rfl) ?_
  refine v_L (L' := [(0, .ref t), (1, .int (nI v)), (2, .int (nI p))]) rfl ?_
  refine v_iload_n i_T_setRoot_0 rfl ?_
  refine v_if_lt (tgt := 20) i_T_setRoot_1 rfl (fun h1 => ?_) (fun h1 => ?_)
  · exact absurd h1 (nI_pos (by omega))
  refine v_iload_n i_T_setRoot_4 rfl ?_
  refine v_aload_n i_T_setRoot_5 rfl ?_
  refine v_get B i_T_setRoot_6 (by first | assumption | exact qset_self _ _ _ | (rw [qset_ne _ _ (by omega)]; first | assumption | exact qset_self _ _ _ | (rw [qset_ne _ _ (by omega)]; first | assumption | exact qset_self _ _ _ | (rw [qset_ne _ _ (by omega)]; first | assumption | exact qset_self _ _ _ | (rw [qset_ne _ _ (by omega)]; first | assumption | exact qset_self _ _ _ | (rw [qset_ne _ _ (by omega)]; first | assumption | exact qset_self _ _ _ | (rw [qset_ne _ _ (by omega)]; first | assumption | exact qset_self _ _ _))))))) rfl ?_
  refine v_alen B (by first | assumption | exact qset_self _ _ _ | (rw [qset_ne _ _ (by omega)]; first | assumption | exact qset_self _ _ _ | (rw [qset_ne _ _ (by omega)]; first | assumption | exact qset_self _ _ _ | (rw [qset_ne _ _ (by omega)]; first | assumption | exact qset_self _ _ _ | (rw [qset_ne _ _ (by omega)]; first | assumption | exact qset_self _ _ _ | (rw [qset_ne _ _ (by omega)]; first | assumption | exact qset_self _ _ _ | (rw [qset_ne _ _ (by omega)]; first | assumption | exact qset_self _ _ _))))))) rfl i_T_setRoot_9 ?_
  refine v_icmp_ge (tgt := 20) i_T_setRoot_10 rfl (fun h10 => ?_) (fun h10 => ?_)
  · exact absurd h10 (nI_ge hv (by omega))
  refine v_aload_n i_T_setRoot_13 rfl ?_
  refine v_get B i_T_setRoot_14 (by first | assumption | exact qset_self _ _ _ | (rw [qset_ne _ _ (by omega)]; first | assumption | exact qset_self _ _ _ | (rw [qset_ne _ _ (by omega)]; first | assumption | exact qset_self _ _ _ | (rw [qset_ne _ _ (by omega)]; first | assumption | exact qset_self _ _ _ | (rw [qset_ne _ _ (by omega)]; first | assumption | exact qset_self _ _ _ | (rw [qset_ne _ _ (by omega)]; first | assumption | exact qset_self _ _ _ | (rw [qset_ne _ _ (by omega)]; first | assumption | exact qset_self _ _ _))))))) rfl ?_
  refine v_iload_n i_T_setRoot_17 rfl ?_
  refine v_iload_n i_T_setRoot_18 rfl ?_
  refine v_iast B (by first | assumption | exact qset_self _ _ _ | (rw [qset_ne _ _ (by omega)]; first | assumption | exact qset_self _ _ _ | (rw [qset_ne _ _ (by omega)]; first | assumption | exact qset_self _ _ _ | (rw [qset_ne _ _ (by omega)]; first | assumption | exact qset_self _ _ _ | (rw [qset_ne _ _ (by omega)]; first | assumption | exact qset_self _ _ _ | (rw [qset_ne _ _ (by omega)]; first | assumption | exact qset_self _ _ _ | (rw [qset_ne _ _ (by omega)]; first | assumption | exact qset_self _ _ _))))))) rfl (by omega) (by omega) i_T_setRoot_19 ?_
  have hs : qSame X (qset X (t + 7) (.inl (0, 801, .inl (upd fr v (nI p))))) (t + 7) (t + 8) := (qSame.rf X _ _).set _ (by omega) (by omega)
  refine v_vret i_T_setRoot_20 rfl (by decide) (by decide) ⟨rfl, ⟨by rw [hs.2 _ (by omega)]; exact h0, ⟨bk, by rw [hs.2 _ (by omega)]; exact h2, h3, h4⟩, ⟨upd fr v (nI p), qset_self _ _ _, ?_⟩, ⟨pf, by rw [hs.2 _ (by omega)]; exact h7, h8⟩, h9.same hs (by omega), hA.same hs (by omega), fun i hi => ?_, h12, ?_, h14, h15, h16, h17, h18⟩, hs⟩
  · intro i hi
    by_cases hiv : i = v
    · subst hiv; rw [pk_us, va_up_self]
    · rw [pk_un hiv, va_up_ne _ _ hiv]; exact hr1 i hi
  · have := hw i hi
    exact (h11 i hi).same hs (by omega)
  · intro i hi
    by_cases hiv : i = v
    · subst hiv; rw [va_up_self]; exact hp
    · rw [va_up_ne _ _ hiv]; exact h13 i hi
/-- what a walk down passed, at a level -/
def tps (pn : Nat → Option Nat) (j : Nat) : Nat := if j < 16 then (pn j).getD 0 else 0
theorem c_T_passed (B : qB l s0 C) (h : TrAt X t cnt pa pg made lat ro pn fe g1 g2 co li db) (j : Nat) (hj : j < 1000) : qMet l s0 C m_T_passed rm_T_passed [.ref t, .int (nI j)] X (fun r X' => X = X' ∧ r = some (.ref (pa (tps pn j)))) (fun _ _ => False) := by
  obtain ⟨h0, -, -, ⟨pf, h7, h8⟩, -, -, -, -, -, -, hp0, -⟩ := h
  refine q_of (by decide +kernel) (Nat.le_of_ble_eq_true rfl) ?_
  refine v_L (L' := [(0, .ref t), (1, .int (nI j))]) rfl ?_
  have out : tps pn j = 0 → qV l s0 C m_T_passed rm_T_passed (fun r X' => X = X' ∧ r = some (.ref (pa (tps pn j)))) (fun _ _ => False) 0 0 X 32 [(0, .ref t), (1, .int (nI j))] [] := by
    intro hq
    refine v_aload_n i_T_passed_32 rfl ?_
    refine v_get B i_T_passed_33 (by first | assumption | exact qset_self _ _ _ | (rw [qset_ne _ _ (by omega)]; first | assumption | exact qset_self _ _ _ | (rw [qset_ne _ _ (by omega)]; first | assumption | exact qset_self _ _ _ | (rw [qset_ne _ _ (by omega)]; first | assumption | exact qset_self _ _ _ | (rw [qset_ne _ _ (by omega)]; first | assumption | exact qset_self _ _ _ | (rw [qset_ne _ _ (by omega)]; first | assumption | exact qset_self _ _ _ | (rw [qset_ne _ _ (by omega)]; first | assumption | exact qset_self _ _ _))))))) rfl ?_
    refine v_aret i_T_passed_36 rfl (by decide) (by decide) ⟨rfl, ?_⟩
    rw [hq, hp0]
  refine v_iload_n i_T_passed_0 rfl ?_
  refine v_if_lt (tgt := 22) i_T_passed_1 rfl (fun h1 => ?_) (fun h1 => ?_)
  · exact absurd h1 (nI_pos (by omega))
  refine v_iload_n i_T_passed_4 rfl ?_
  refine v_aload_n i_T_passed_5 rfl ?_
  refine v_get B i_T_passed_6 (by first | assumption | exact qset_self _ _ _ | (rw [qset_ne _ _ (by omega)]; first | assumption | exact qset_self _ _ _ | (rw [qset_ne _ _ (by omega)]; first | assumption | exact qset_self _ _ _ | (rw [qset_ne _ _ (by omega)]; first | assumption | exact qset_self _ _ _ | (rw [qset_ne _ _ (by omega)]; first | assumption | exact qset_self _ _ _ | (rw [qset_ne _ _ (by omega)]; first | assumption | exact qset_self _ _ _ | (rw [qset_ne _ _ (by omega)]; first | assumption | exact qset_self _ _ _))))))) rfl ?_
  refine v_alen B (by first | assumption | exact qset_self _ _ _ | (rw [qset_ne _ _ (by omega)]; first | assumption | exact qset_self _ _ _ | (rw [qset_ne _ _ (by omega)]; first | assumption | exact qset_self _ _ _ | (rw [qset_ne _ _ (by omega)]; first | assumption | exact qset_self _ _ _ | (rw [qset_ne _ _ (by omega)]; first | assumption | exact qset_self _ _ _ | (rw [qset_ne _ _ (by omega)]; first | assumption | exact qset_self _ _ _ | (rw [qset_ne _ _ (by omega)]; first | assumption | exact qset_self _ _ _))))))) rfl i_T_passed_9 ?_
  refine v_icmp_ge (tgt := 22) i_T_passed_10 rfl (fun h10 => ?_) (fun h10 => ?_)
  · have h11 : 16 ≤ j := (nI_leI (by omega) (by omega)).mp h10
    refine v_null i_T_passed_22 ?_
    intro p e s m args below meth c G H locs ls hR hL hl
    refine lv_astore_nN (lv' := qput [(0, .ref t), (1, .int (nI j))] 2 .null) G.1 G.2.1 i_T_passed_23 rfl hl (by decide) rfl (fun ls' hl' => ?_)
    refine lv_aload_nN G.1 G.2.1 i_T_passed_24 rfl (qget_at hl' rfl) ?_
    refine lv_ifnullN (tgt := 32) G.1 G.2.1 i_T_passed_25 rfl ?_
    refine v_loc [(0, .ref t), (1, .int (nI j))] rfl (out ?_) p e s m args below meth c G H locs ls' hR hL hl'
    rw [tps, if_neg (by omega)]
  have h11 : j < 16 := by
    have : ¬ 16 ≤ j := fun q => h10 (nI_le q (by omega))
    omega
  refine v_aload_n i_T_passed_13 rfl ?_
  refine v_get B i_T_passed_14 (by first | assumption | exact qset_self _ _ _ | (rw [qset_ne _ _ (by omega)]; first | assumption | exact qset_self _ _ _ | (rw [qset_ne _ _ (by omega)]; first | assumption | exact qset_self _ _ _ | (rw [qset_ne _ _ (by omega)]; first | assumption | exact qset_self _ _ _ | (rw [qset_ne _ _ (by omega)]; first | assumption | exact qset_self _ _ _ | (rw [qset_ne _ _ (by omega)]; first | assumption | exact qset_self _ _ _ | (rw [qset_ne _ _ (by omega)]; first | assumption | exact qset_self _ _ _))))))) rfl ?_
  refine v_iload_n i_T_passed_17 rfl ?_
  refine v_aald B (by first | assumption | exact qset_self _ _ _ | (rw [qset_ne _ _ (by omega)]; first | assumption | exact qset_self _ _ _ | (rw [qset_ne _ _ (by omega)]; first | assumption | exact qset_self _ _ _ | (rw [qset_ne _ _ (by omega)]; first | assumption | exact qset_self _ _ _ | (rw [qset_ne _ _ (by omega)]; first | assumption | exact qset_self _ _ _ | (rw [qset_ne _ _ (by omega)]; first | assumption | exact qset_self _ _ _ | (rw [qset_ne _ _ (by omega)]; first | assumption | exact qset_self _ _ _))))))) rfl (by omega) (by omega) i_T_passed_18 ?_
  rw [h8 j h11]
  cases hpn : pn j with
  | none =>
    refine v_goto (tgt := 23) i_T_passed_19 rfl ?_
    intro p e s m args below meth c G H locs ls hR hL hl
    refine lv_astore_nN (lv' := qput [(0, .ref t), (1, .int (nI j))] 2 .null) G.1 G.2.1 i_T_passed_23 rfl hl (by decide) rfl (fun ls' hl' => ?_)
    refine lv_aload_nN G.1 G.2.1 i_T_passed_24 rfl (qget_at hl' rfl) ?_
    refine lv_ifnullN (tgt := 32) G.1 G.2.1 i_T_passed_25 rfl ?_
    refine v_loc [(0, .ref t), (1, .int (nI j))] rfl (out ?_) p e s m args below meth c G H locs ls' hR hL hl'
    rw [tps, if_pos h11, hpn]; rfl
  | some i =>
    show qV l s0 C m_T_passed rm_T_passed (fun r X' => X = X' ∧ r = some (.ref (pa (tps pn j)))) (fun _ _ => False) 0 0 X 19 [(0, .ref t), (1, .int (nI j))] [.ref (pa i)]
    refine v_goto (tgt := 23) i_T_passed_19 rfl ?_
    refine v_astore_n i_T_passed_23 (by decide) rfl ?_
    refine v_aload_n i_T_passed_24 rfl ?_
    refine v_ifnull i_T_passed_25 ?_
    refine v_aload_n i_T_passed_28 rfl ?_
    refine v_goto (tgt := 36) i_T_passed_29 rfl ?_
    refine v_aret i_T_passed_36 rfl (by decide) (by decide) ⟨rfl, ?_⟩
    rw [tps, if_pos h11, hpn]; rfl
theorem c_T_remember (B : qB l s0 C) (h : TrAt X t cnt pa pg made lat ro pn fe g1 g2 co li db) (i : Nat) (hi : i < cnt) : qMet l s0 C m_T_remember rm_T_remember [.ref t, .ref (pa i)] X (fun r X' => r = none ∧ TrAt X' t cnt pa pg made lat ro (if (pg i).1 < 16 then va_up pn (pg i).1 (some i) else pn) fe g1 g2 co li db ∧ qSame X X' (t + 8) (t + 9)) (fun _ _ => False) := by
  have hw := fun i (hi : i < cnt) => h.where_ hi
  obtain ⟨h0, ⟨bk, h2, h3, hbn⟩, ⟨fr, hr, hr1⟩, ⟨pf, h7, h8⟩, h9, hA, hPG, h12, h13, h14, h15, hI, h17, h18⟩ := id h
  obtain ⟨p0, ⟨ok1, -⟩, -⟩ := hPG i hi
  refine q_of (by decide +kernel) (Nat.le_of_ble_eq_true rfl) ?_
  refine v_L (L' := [(0, .ref t), (1, .ref (pa i))]) rfl ?_
  refine v_aload_n i_T_remember_0 rfl ?_
  refine v_get B i_T_remember_1 (by first | assumption | exact qset_self _ _ _ | (rw [qset_ne _ _ (by omega)]; first | assumption | exact qset_self _ _ _ | (rw [qset_ne _ _ (by omega)]; first | assumption | exact qset_self _ _ _ | (rw [qset_ne _ _ (by omega)]; first | assumption | exact qset_self _ _ _ | (rw [qset_ne _ _ (by omega)]; first | assumption | exact qset_self _ _ _ | (rw [qset_ne _ _ (by omega)]; first | assumption | exact qset_self _ _ _ | (rw [qset_ne _ _ (by omega)]; first | assumption | exact qset_self _ _ _))))))) rfl ?_
  refine v_if_lt (tgt := 29) i_T_remember_4 rfl (fun h4 => ?_) (fun h4 => ?_)
  · exact absurd h4 (nI_pos (by omega))
  refine v_aload_n i_T_remember_7 rfl ?_
  refine v_get B i_T_remember_8 (by first | assumption | exact qset_self _ _ _ | (rw [qset_ne _ _ (by omega)]; first | assumption | exact qset_self _ _ _ | (rw [qset_ne _ _ (by omega)]; first | assumption | exact qset_self _ _ _ | (rw [qset_ne _ _ (by omega)]; first | assumption | exact qset_self _ _ _ | (rw [qset_ne _ _ (by omega)]; first | assumption | exact qset_self _ _ _ | (rw [qset_ne _ _ (by omega)]; first | assumption | exact qset_self _ _ _ | (rw [qset_ne _ _ (by omega)]; first | assumption | exact qset_self _ _ _))))))) rfl ?_
  refine v_aload_n i_T_remember_11 rfl ?_
  refine v_get B i_T_remember_12 (by first | assumption | exact qset_self _ _ _ | (rw [qset_ne _ _ (by omega)]; first | assumption | exact qset_self _ _ _ | (rw [qset_ne _ _ (by omega)]; first | assumption | exact qset_self _ _ _ | (rw [qset_ne _ _ (by omega)]; first | assumption | exact qset_self _ _ _ | (rw [qset_ne _ _ (by omega)]; first | assumption | exact qset_self _ _ _ | (rw [qset_ne _ _ (by omega)]; first | assumption | exact qset_self _ _ _ | (rw [qset_ne _ _ (by omega)]; first | assumption | exact qset_self _ _ _))))))) rfl ?_
  refine v_alen B (by first | assumption | exact qset_self _ _ _ | (rw [qset_ne _ _ (by omega)]; first | assumption | exact qset_self _ _ _ | (rw [qset_ne _ _ (by omega)]; first | assumption | exact qset_self _ _ _ | (rw [qset_ne _ _ (by omega)]; first | assumption | exact qset_self _ _ _ | (rw [qset_ne _ _ (by omega)]; first | assumption | exact qset_self _ _ _ | (rw [qset_ne _ _ (by omega)]; first | assumption | exact qset_self _ _ _ | (rw [qset_ne _ _ (by omega)]; first | assumption | exact qset_self _ _ _))))))) rfl i_T_remember_15 ?_
  refine v_icmp_ge (tgt := 29) i_T_remember_16 rfl (fun h16 => ?_) (fun h16 => ?_)
  · have : ¬ (pg i).1 < 16 := Nat.not_lt.mpr ((nI_leI (by omega) (by omega)).mp h16)
    rw [if_neg this]
    exact v_vret i_T_remember_29 rfl (by decide) (by decide) ⟨rfl, h, qSame.rf X _ _⟩
  have hlev : (pg i).1 < 16 := by
    have : ¬ 16 ≤ (pg i).1 := fun q => h16 (nI_le q (by omega))
    omega
  rw [if_pos hlev]
  refine v_aload_n i_T_remember_19 rfl ?_
  refine v_get B i_T_remember_20 (by first | assumption | exact qset_self _ _ _ | (rw [qset_ne _ _ (by omega)]; first | assumption | exact qset_self _ _ _ | (rw [qset_ne _ _ (by omega)]; first | assumption | exact qset_self _ _ _ | (rw [qset_ne _ _ (by omega)]; first | assumption | exact qset_self _ _ _ | (rw [qset_ne _ _ (by omega)]; first | assumption | exact qset_self _ _ _ | (rw [qset_ne _ _ (by omega)]; first | assumption | exact qset_self _ _ _ | (rw [qset_ne _ _ (by omega)]; first | assumption | exact qset_self _ _ _))))))) rfl ?_
  refine v_aload_n i_T_remember_23 rfl ?_
  refine v_get B i_T_remember_24 (by first | assumption | exact qset_self _ _ _ | (rw [qset_ne _ _ (by omega)]; first | assumption | exact qset_self _ _ _ | (rw [qset_ne _ _ (by omega)]; first | assumption | exact qset_self _ _ _ | (rw [qset_ne _ _ (by omega)]; first | assumption | exact qset_self _ _ _ | (rw [qset_ne _ _ (by omega)]; first | assumption | exact qset_self _ _ _ | (rw [qset_ne _ _ (by omega)]; first | assumption | exact qset_self _ _ _ | (rw [qset_ne _ _ (by omega)]; first | assumption | exact qset_self _ _ _))))))) rfl ?_
  refine v_aload_n i_T_remember_27 rfl ?_
  refine v_aast (j := (pg i).1) B h7 p0 rfl hlev (by omega) i_T_remember_28 ?_
  have hs : qSame X (qset X (t + 8) (.inl (3, 16, .inr (.inr (.inr (.inr (va_up pf (pg i).1 (some (pa i))))))))) (t + 8) (t + 9) := (qSame.rf X _ _).set _ (by omega) (by omega)
  refine v_vret i_T_remember_29 rfl (by decide) (by decide) ⟨rfl, ⟨by rw [hs.2 _ (by omega)]; exact h0, ⟨bk, by rw [hs.2 _ (by omega)]; exact h2, h3, hbn⟩, ⟨fr, by rw [hs.2 _ (by omega)]; exact hr, hr1⟩, ⟨_, qset_self _ _ _, ?_⟩, h9.same hs (by omega), hA.same hs (by omega), fun q hq => ?_, h12, h13, ?_, h15, hI, h17, h18⟩, hs⟩
  · intro j hj
    by_cases hjl : j = (pg i).1
    · subst hjl; rw [va_up_self, va_up_self]; rfl
    · rw [va_up_ne _ _ hjl, va_up_ne _ _ hjl]; exact h8 j hj
  · have := hw q hq
    exact (hPG q hq).same hs (by omega)
  · intro j q hjq
    by_cases hjl : j = (pg i).1
    · subst hjl; rw [va_up_self] at hjq; cases hjq; exact hi
    · rw [va_up_ne _ _ hjl] at hjq; exact h14 j q hjq
/-- whether an update is refused -/
def tref (pg : Nat → Pg) (made lat : Nat) (ro : Nat → Nat) : Bool := decide (256 - made < 2 * ((pg (tpn made (nI (ro lat)).toInt64)).1 + 1) + 1) || decide (800 ≤ lat)
theorem c_T_isRefused (B : qB l s0 C) (h : TrAt X t cnt pa pg made lat ro pn fe g1 g2 co li db) : qMet l s0 C m_T_isRefused rm_T_isRefused [.ref t] X (fun r X' => X = X' ∧ r = some (.int (bI (tref pg made lat ro)))) (fun _ _ => False) := by
  obtain ⟨h0, -, -, -, -, -, hPG, ⟨m1, m2, m3, m4, m5⟩, hro, -⟩ := id h
  refine q_of (by decide +kernel) (Nat.le_of_ble_eq_true rfl) ?_
  refine v_L (L' := [(0, .ref t)]) rfl ?_
  refine v_aload_n i_T_isRefused_0 rfl ?_
  refine v_aload_n i_T_isRefused_1 rfl ?_
  refine v_aload_n i_T_isRefused_2 rfl ?_
  refine v_get B i_T_isRefused_3 (by first | assumption | exact qset_self _ _ _ | (rw [qset_ne _ _ (by omega)]; first | assumption | exact qset_self _ _ _ | (rw [qset_ne _ _ (by omega)]; first | assumption | exact qset_self _ _ _ | (rw [qset_ne _ _ (by omega)]; first | assumption | exact qset_self _ _ _ | (rw [qset_ne _ _ (by omega)]; first | assumption | exact qset_self _ _ _ | (rw [qset_ne _ _ (by omega)]; first | assumption | exact qset_self _ _ _ | (rw [qset_ne _ _ (by omega)]; first | assumption | exact qset_self _ _ _))))))) rfl ?_
  refine v_inv B i_T_isRefused_6 kn_m_T_rootOf (c_T_rootOf B h lat (by omega)) (by first | assumption | exact qset_self _ _ _ | (rw [qset_ne _ _ (by omega)]; first | assumption | exact qset_self _ _ _ | (rw [qset_ne _ _ (by omega)]; first | assumption | exact qset_self _ _ _ | (rw [qset_ne _ _ (by omega)]; first | assumption | exact qset_self _ _ _ | (rw [qset_ne _ _ (by omega)]; first | assumption | exact qset_self _ _ _ | (rw [qset_ne _ _ (by omega)]; first | assumption | exact qset_self _ _ _ | (rw [qset_ne _ _ (by omega)]; first | assumption | exact qset_self _ _ _))))))) rfl rfl (Nat.le_of_ble_eq_true rfl) ⟨by decide, by decide, by first | decide | (simp; omega), by first | decide | (simp; omega)⟩ rfl (fun r X' hq => ?_) (fun _ _ h => False.elim h)
  obtain ⟨rfl, rfl⟩ := hq
  refine v_i2l i_T_isRefused_9 ?_
  refine v_inv B i_T_isRefused_10 kn_m_T_pageAt (c_T_pageAt B h (nI (ro lat)).toInt64) (by first | assumption | exact qset_self _ _ _ | (rw [qset_ne _ _ (by omega)]; first | assumption | exact qset_self _ _ _ | (rw [qset_ne _ _ (by omega)]; first | assumption | exact qset_self _ _ _ | (rw [qset_ne _ _ (by omega)]; first | assumption | exact qset_self _ _ _ | (rw [qset_ne _ _ (by omega)]; first | assumption | exact qset_self _ _ _ | (rw [qset_ne _ _ (by omega)]; first | assumption | exact qset_self _ _ _ | (rw [qset_ne _ _ (by omega)]; first | assumption | exact qset_self _ _ _))))))) rfl rfl (Nat.le_of_ble_eq_true rfl) ⟨by decide, by decide, by first | decide | (simp; omega), by first | decide | (simp; omega)⟩ rfl (fun r X' hq => ?_) (fun _ _ h => False.elim h)
  obtain ⟨rfl, rfl⟩ := hq
  have hlt := tpn_lt m1 (nI (ro lat)).toInt64
  generalize hp : tpn made (nI (ro lat)).toInt64 = p at hlt ⊢
  obtain ⟨p0, ⟨ok1, -⟩, -⟩ := hPG p (by omega)
  refine v_get B i_T_isRefused_13 p0 rfl ?_
  refine v_iconst (v := 1) i_T_isRefused_16 rfl ?_
  refine v_iadd i_T_isRefused_17 ?_
  refine v_istore_n i_T_isRefused_18 (by decide) rfl ?_
  refine v_sipush (v := 256) i_T_isRefused_19 rfl ?_
  refine v_aload_n i_T_isRefused_22 rfl ?_
  refine v_get B i_T_isRefused_23 (by first | assumption | exact qset_self _ _ _ | (rw [qset_ne _ _ (by omega)]; first | assumption | exact qset_self _ _ _ | (rw [qset_ne _ _ (by omega)]; first | assumption | exact qset_self _ _ _ | (rw [qset_ne _ _ (by omega)]; first | assumption | exact qset_self _ _ _ | (rw [qset_ne _ _ (by omega)]; first | assumption | exact qset_self _ _ _ | (rw [qset_ne _ _ (by omega)]; first | assumption | exact qset_self _ _ _ | (rw [qset_ne _ _ (by omega)]; first | assumption | exact qset_self _ _ _))))))) rfl ?_
  refine v_isub i_T_isRefused_26 ?_
  refine v_iconst (v := 2) i_T_isRefused_27 rfl ?_
  refine v_iload_n i_T_isRefused_28 rfl ?_
  refine v_imul i_T_isRefused_29 ?_
  refine v_iconst (v := 1) i_T_isRefused_30 rfl ?_
  refine v_iadd i_T_isRefused_31 ?_
  rw [show (256 : Int32) = nI 256 from rfl, pk_sub (by omega), nI_1, show (2 : Int32) = nI 2 from rfl, pk_mul, nI_1]
  refine v_icmp_lt (tgt := 45) i_T_isRefused_32 rfl (fun h32 => ?_) (fun h32 => ?_)
  · refine v_iconst (v := 1) i_T_isRefused_45 rfl ?_
    refine v_goto (tgt := 50) i_T_isRefused_46 rfl ?_
    refine v_zret i_T_isRefused_50 rfl (Or.inr rfl) (by decide) (by decide) ⟨rfl, ?_⟩
    have := (nI_ltI (by omega) (by omega)).mp h32
    rw [tref, hp, decide_eq_true this]; rfl
  have h1 : ¬ 256 - made < 2 * ((pg p).1 + 1) + 1 := fun q => h32 (nI_lt q (by omega))
  refine v_aload_n i_T_isRefused_35 rfl ?_
  refine v_get B i_T_isRefused_36 (by first | assumption | exact qset_self _ _ _ | (rw [qset_ne _ _ (by omega)]; first | assumption | exact qset_self _ _ _ | (rw [qset_ne _ _ (by omega)]; first | assumption | exact qset_self _ _ _ | (rw [qset_ne _ _ (by omega)]; first | assumption | exact qset_self _ _ _ | (rw [qset_ne _ _ (by omega)]; first | assumption | exact qset_self _ _ _ | (rw [qset_ne _ _ (by omega)]; first | assumption | exact qset_self _ _ _ | (rw [qset_ne _ _ (by omega)]; first | assumption | exact qset_self _ _ _))))))) rfl ?_
  refine v_sipush (v := 800) i_T_isRefused_39 rfl ?_
  refine v_icmp_lt (tgt := 49) i_T_isRefused_42 rfl (fun h42 => ?_) (fun h42 => ?_)
  · refine v_iconst (v := 0) i_T_isRefused_49 rfl ?_
    refine v_zret i_T_isRefused_50 rfl (Or.inl rfl) (by decide) (by decide) ⟨rfl, ?_⟩
    have := (nI_ltI (b := 800) (by omega) (by omega)).mp h42
    rw [tref, hp, decide_eq_false h1, decide_eq_false (by omega)]; rfl
  · refine v_iconst (v := 1) i_T_isRefused_45 rfl ?_
    refine v_goto (tgt := 50) i_T_isRefused_46 rfl ?_
    refine v_zret i_T_isRefused_50 rfl (Or.inr rfl) (by decide) (by decide) ⟨rfl, ?_⟩
    have : ¬ lat < 800 := fun q => h42 (nI_lt (a := lat) (b := 800) q (by decide))
    rw [tref, hp, decide_eq_false h1, decide_eq_true (by omega)]; rfl
end TR
