/-! THE CLASS PastTree: an object at x: the tree at x + 1, the disk at x + 16, the rows 'found' at x + 19 and 'others' at x + 22; pages that come later lie from E on -/
def PtAt (X : qX) (x E cnt : Nat) (pa : Nat → Nat) (pg : Nat → Pg) (made lat : Nat) (ro : Nat → Nat) (pn : Nat → Option Nat) (fe : Int64) (g1 g2 : Int32) (co li : qRw) (db : Nat) (D : Dk) (F O : qRw) : Prop :=
  X.1 x = some (.inr (4, [.ref (x + 1), .ref (x + 16), .ref (x + 19), .ref (x + 22)])) ∧ TrAt X (x + 1) cnt pa pg made lat ro pn fe g1 g2 co li db ∧ DkAt X (x + 16) D ∧ RowAt X (x + 19) 800 F ∧ RowAt X (x + 22) 800 O ∧ x + 25 ≤ E ∧ E ≤ X.2 ∧ ∀ i, 1 ≤ i → i < cnt → E ≤ pa i
/-- what it holds: its pages, how many, the latest version, the roots, dense below, the disk -/
def PtS (X : qX) (x E : Nat) (pg : Nat → Pg) (made lat : Nat) (ro : Nat → Nat) (db : Nat) (D : Dk) : Prop := ∃ (cnt : Nat) (pa : Nat → Nat) (pn : Nat → Option Nat) (fe : Int64) (g1 g2 : Int32) (co li F O : qRw), PtAt X x E cnt pa pg made lat ro pn fe g1 g2 co li db D F O
/-- nothing below x, and nothing from x + 25 to before E, has changed -/
def qCl (X X' : qX) (x E : Nat) : Prop := X.2 ≤ X'.2 ∧ ∀ z, (z < x ∨ (x + 25 ≤ z ∧ z < E)) → X'.1 z = X.1 z
theorem qCl.rf (X : qX) (x E : Nat) : qCl X X x E := ⟨Nat.le_refl _, fun _ _ => rfl⟩
theorem qCl.trans {X Y Z : qX} {x E : Nat} (h1 : qCl X Y x E) (h2 : qCl Y Z x E) : qCl X Z x E := ⟨Nat.le_trans h1.1 h2.1, fun z hz => (h2.2 z hz).trans (h1.2 z hz)⟩
theorem qCl.same {X Y : qX} {x E lo hi : Nat} (h : qSame X Y lo hi) (h1 : x ≤ lo) (h2 : hi ≤ x + 25) : qCl X Y x E := ⟨by rw [h.1]; exact Nat.le_refl _, fun z hz => h.2 z (by omega)⟩
def qSt (X X' : qX) (x E : Nat) (pg : Nat → Pg) (made lat : Nat) (ro : Nat → Nat) (db : Nat) (D : Dk) : Prop := PtS X' x E pg made lat ro db D ∧ qCl X X' x E
abbrev rmP : Room := { frames := 8, cells := 300, slots := 4000, locals := 190 }
section PT
variable {X X' : qX} {x E cnt cnt' : Nat} {pa pa' : Nat → Nat} {pg pg' : Nat → Pg} {made made' lat lat' : Nat} {ro ro' : Nat → Nat} {pn pn' : Nat → Option Nat} {fe fe' : Int64} {g1 g2 g1' g2' : Int32} {co li co' li' : qRw} {db db' : Nat} {D D' : Dk} {F O F' O' : qRw}
variable {l : Launch} {s0 : State} {C : qC}
theorem TrAt.more {t : Nat} (h : TrAt X t cnt pa pg made lat ro pn fe g1 g2 co li db) {N : Nat} (hN : X.2 ≤ N) : TrAt (X.1, N) t cnt pa pg made lat ro pn fe g1 g2 co li db := by
  obtain ⟨h1, h2, h3, h4, h9, h10, h11, h12, h13, h14, h15, h16, h17, h18⟩ := h
  exact ⟨h1, h2, h3, h4, h9, h10, h11, h12, h13, h14, h15, h16, fun i a b => ⟨(h17 i a b).1, Nat.le_trans (h17 i a b).2 hN⟩, Nat.le_trans h18 hN⟩
theorem PtAt.st (h : PtAt X x E cnt pa pg made lat ro pn fe g1 g2 co li db D F O) : PtS X x E pg made lat ro db D := ⟨cnt, pa, pn, fe, g1, g2, co, li, F, O, h⟩
theorem PtS.thr (h : PtS X x E pg made lat ro db D) {N : Nat} (hN : X.2 ≤ N) : qSt X (X.1, N) x E pg made lat ro db D := by
  obtain ⟨cnt, pa, pn, fe, g1, g2, co, li, F, O, h0, h1, h2, h3, h4, h5, h6, h7⟩ := h
  exact ⟨⟨cnt, pa, pn, fe, g1, g2, co, li, F, O, h0, h1.more hN, h2, h3, h4, h5, Nat.le_trans h6 hN, h7⟩, hN, fun _ _ => rfl⟩
theorem PtAt.tree (h : PtAt X x E cnt pa pg made lat ro pn fe g1 g2 co li db D F O) (ht : TrAt X' (x + 1) cnt' pa' pg' made' lat' ro' pn' fe' g1' g2' co' li' db') (hf : qFr X X' (x + 1) cnt pa) (hg : qGr X cnt cnt' pa pa') : PtAt X' x E cnt' pa' pg' made' lat' ro' pn' fe' g1' g2' co' li' db' D F O ∧ qCl X X' x E := by
  obtain ⟨h0, h1, h2, h3, h4, h5, h6, h7⟩ := h
  have hp0 : pa 0 = x + 1 + 1 := by obtain ⟨-, -, -, -, -, -, -, -, -, -, q, -⟩ := h1; exact q
  have hpp : ∀ z i, z < E → (z ≤ x ∨ x + 16 ≤ z) → i < cnt → z < pa i ∨ pa i + 5 ≤ z := by
    intro z i hz hz2 hi
    rcases Nat.eq_zero_or_pos i with q | q
    · subst q; omega
    · have := h7 i q hi; omega
  have hs : ∀ z, z < E → (z ≤ x ∨ x + 16 ≤ z) → X'.1 z = X.1 z := fun z hz hz2 => hf.2 z (by omega) (by omega) (fun i hi => hpp z i hz hz2 hi)
  refine ⟨⟨by rw [hs x (by omega) (by omega)]; exact h0, ht, ?_, h3.cells (fun q a b => hs q (by omega) (by omega)), h4.cells (fun q a b => hs q (by omega) (by omega)), h5, Nat.le_trans h6 hf.1, fun i hi1 hi2 => ?_⟩, hf.1, fun z hz => hs z (by omega) (by omega)⟩
  · obtain ⟨d1, d2, d3, d4, fr, fs, d5, d6, d7⟩ := h2
    exact ⟨by rw [hs _ (by omega) (by omega)]; exact d1, d2, d3, d4, fr, fs, by rw [hs _ (by omega) (by omega)]; exact d5, by rw [hs _ (by omega) (by omega)]; exact d6, d7⟩
  · rcases Nat.lt_or_ge i cnt with q | q
    · rw [hg.2.1 i q]; exact h7 i hi1 q
    · exact Nat.le_trans h6 (hg.2.2 i q hi2)
theorem PtAt.disk (h : PtAt X x E cnt pa pg made lat ro pn fe g1 g2 co li db D F O) (hd : DkAt X' (x + 16) D') (hs : qSame X X' (x + 16) (x + 16 + 3)) : PtAt X' x E cnt pa pg made lat ro pn fe g1 g2 co li db D' F O := by
  obtain ⟨h0, h1, h2, h3, h4, h5, h6, h7⟩ := h
  exact ⟨by rw [hs.2 x (by omega)]; exact h0, h1.other hs (by omega) (by omega), hd, h3.same hs (by omega), h4.same hs (by omega), h5, by rw [hs.1]; exact h6, h7⟩
/-- the tree's own cells and one of the two rows -/
theorem PtAt.rows (h : PtAt X x E cnt pa pg made lat ro pn fe g1 g2 co li db D F O) {b : Nat} (hb : b = x + 19 ∨ b = x + 22) (ht : TrAt X' (x + 1) cnt pa pg made lat ro pn' fe' g1 g2 co li db) (hz : ∀ z, (z < x + 1 ∨ (x + 1 + 9 ≤ z ∧ z < b) ∨ b + 3 ≤ z) → X'.1 z = X.1 z) (h2 : X'.2 = X.2) (hF : RowAt X' (x + 19) 800 F') (hO : RowAt X' (x + 22) 800 O') :
    PtAt X' x E cnt pa pg made lat ro pn' fe' g1 g2 co li db D F' O' ∧ qCl X X' x E := by
  obtain ⟨h0, h1, hd, h3, h4, h5, h6, h7⟩ := h
  refine ⟨⟨by rw [hz x (by omega)]; exact h0, ht, ?_, hF, hO, h5, by rw [h2]; exact h6, h7⟩, by rw [h2]; exact Nat.le_refl _, fun z hz' => hz z (by omega)⟩
  obtain ⟨d1, d2, d3, d4, fr, fs, d5, d6, d7⟩ := hd
  exact ⟨by rw [hz _ (by omega)]; exact d1, d2, d3, d4, fr, fs, by rw [hz _ (by omega)]; exact d5, by rw [hz _ (by omega)]; exact d6, d7⟩
/-- what is gathered hangs on no path -/
theorem tdesc_pn (pg : Nat → Pg) (made v : Nat) (k : Int32) : ∀ (j p : Nat) (f : Int64) (q q' : Nat → Option Nat), (tdesc pg made v k j p f q).1 = (tdesc pg made v k j p f q').1 ∧ (tdesc pg made v k j p f q).2.1 = (tdesc pg made v k j p f q').2.1
  | 0, p, f, q, q' => ⟨rfl, rfl⟩
  | j + 1, p, f, q, q' => by
    rw [tdesc, tdesc]
    by_cases h : (pg p).1 = 0
    · rw [if_pos h, if_pos h]; exact ⟨rfl, rfl⟩
    · rw [if_neg h, if_neg h]; exact tdesc_pn pg made v k j _ _ _ _
theorem tgat_pn (pg : Nat → Pg) (made : Nat) (ro : Nat → Nat) (v : Nat) (lo hi en : Int32) : ∀ (j : Nat) (x : Int64) (R : qRw) (q q' : Nat → Option Nat) (f f' : Int64), (tgat pg made ro v lo hi en j x R q f).1 = (tgat pg made ro v lo hi en j x R q' f').1
  | 0, x, R, q, q', f, f' => rfl
  | j + 1, x, R, q, q', f, f' => by
    have hd := tdesc_pn pg made v x.toInt32 16 (tpn made (nI (ro v)).toInt64) 9223372036854775807 q q'
    rw [tgat, tgat]
    by_cases h : hi.toInt64 < x ∨ en ≤ nI R.length
    · rw [if_pos h, if_pos h]
    · rw [if_neg h, if_neg h, show (tdes pg made ro q v x.toInt32).1 = (tdes pg made ro q' v x.toInt32).1 from hd.1, show (tdes pg made ro q v x.toInt32).2.1 = (tdes pg made ro q' v x.toInt32).2.1 from hd.2]
      exact tgat_pn pg made ro v lo hi en j _ _ _ _ _ _
theorem tfit_pn (pg : Nat → Pg) (made : Nat) (ro : Nat → Nat) (v : Nat) (lo hi en : Int32) (cap : Nat) : ∀ (j : Nat) (x : Int64) (R : qRw) (q q' : Nat → Option Nat), tfit pg made ro v lo hi en cap j x R q → tfit pg made ro v lo hi en cap j x R q'
  | 0, x, R, q, q', _ => True.intro
  | j + 1, x, R, q, q', h => by
    have hd := tdesc_pn pg made v x.toInt32 16 (tpn made (nI (ro v)).toInt64) 9223372036854775807 q q'
    rcases h with h | ⟨h1, h2⟩
    · exact Or.inl h
    · rw [show (tdes pg made ro q v x.toInt32).1 = (tdes pg made ro q' v x.toInt32).1 from hd.1] at h1 h2
      rw [show (tdes pg made ro q v x.toInt32).2.1 = (tdes pg made ro q' v x.toInt32).2.1 from hd.2] at h2
      exact Or.inr ⟨h1, tfit_pn pg made ro v lo hi en cap j _ _ _ _ h2⟩
def cgat (pg : Nat → Pg) (made : Nat) (ro : Nat → Nat) (v : Nat) (lo hi en : Int32) : qRw := (tgat pg made ro v lo hi en 256 lo.toInt64 [] (fun _ => none) 0).1
def cfit (pg : Nat → Pg) (made : Nat) (ro : Nat → Nat) (v : Nat) (lo hi en : Int32) : Prop := tfit pg made ro v lo hi en 800 256 lo.toInt64 [] (fun _ => none)
abbrev xS : String := "java/lang/IllegalStateException"
abbrev xU : String := "java/lang/UnsupportedOperationException"
abbrev xN : String := "java/util/NoSuchElementException"
abbrev xI : String := "java/lang/IndexOutOfBoundsException"
abbrev xA : String := "java/lang/IllegalArgumentException"
theorem c_P_demandUp (B : qB l s0 C) (h : PtAt X x E cnt pa pg made lat ro pn fe g1 g2 co li db D F O) : qMet l s0 C m_P_demandUp rm_P_demandUp [.ref x] X (fun r X' => D.2.2.2.2 = false ∧ r = none ∧ X = X') (fun e X' => D.2.2.2.2 = true ∧ e = xS ∧ ∃ N, X.2 ≤ N ∧ X' = (X.1, N)) := by
  obtain ⟨h0, h1, ⟨hd, -⟩, -⟩ := id h
  refine q_of (by decide +kernel) (Nat.le_of_ble_eq_true rfl) ?_
  refine v_L (L' := [(0, .ref x)]) rfl ?_
  refine v_aload_n i_P_demandUp_0 rfl ?_
  refine v_get B i_P_demandUp_1 (by first | assumption | exact qset_self _ _ _ | (rw [qset_ne _ _ (by omega)]; first | assumption | exact qset_self _ _ _ | (rw [qset_ne _ _ (by omega)]; first | assumption | exact qset_self _ _ _ | (rw [qset_ne _ _ (by omega)]; first | assumption | exact qset_self _ _ _ | (rw [qset_ne _ _ (by omega)]; first | assumption | exact qset_self _ _ _ | (rw [qset_ne _ _ (by omega)]; first | assumption | exact qset_self _ _ _ | (rw [qset_ne _ _ (by omega)]; first | assumption | exact qset_self _ _ _))))))) rfl ?_
  refine v_get B i_P_demandUp_4 (by first | assumption | exact qset_self _ _ _ | (rw [qset_ne _ _ (by omega)]; first | assumption | exact qset_self _ _ _ | (rw [qset_ne _ _ (by omega)]; first | assumption | exact qset_self _ _ _ | (rw [qset_ne _ _ (by omega)]; first | assumption | exact qset_self _ _ _ | (rw [qset_ne _ _ (by omega)]; first | assumption | exact qset_self _ _ _ | (rw [qset_ne _ _ (by omega)]; first | assumption | exact qset_self _ _ _ | (rw [qset_ne _ _ (by omega)]; first | assumption | exact qset_self _ _ _))))))) rfl ?_
  refine v_if_eq (tgt := 20) i_P_demandUp_7 rfl (fun h7 => ?_) (fun h7 => ?_)
  · exact v_vret i_P_demandUp_20 rfl (by decide) (by decide) ⟨bI_0.mp h7, rfl, rfl⟩
  · refine v_throw (text := "the store is down") B th_S rfl (List.mem_of_getElem? (i := 289) (by decide +kernel)) rfl i_P_demandUp_10 i_P_demandUp_13 i_P_demandUp_14 i_P_demandUp_16 i_P_demandUp_19 (by decide) (by decide) (by first | decide | (simp; omega)) (by first | decide | (simp; omega)) (fun N hN => ⟨bI_ne h7, rfl, N, hN, rfl⟩)
theorem c_P_demandVersion (B : qB l s0 C) (h : PtAt X x E cnt pa pg made lat ro pn fe g1 g2 co li db D F O) (v : Int32) : qMet l s0 C m_P_demandVersion rm_P_demandVersion [.ref x, .int v] X (fun r X' => (∃ j, j ≤ lat ∧ v = nI j) ∧ r = none ∧ X = X') (fun e X' => ¬ (0 ≤ v ∧ v ≤ nI lat) ∧ e = xI ∧ ∃ N, X.2 ≤ N ∧ X' = (X.1, N)) := by
  obtain ⟨h0, h1, -⟩ := id h
  obtain ⟨t0, -, -, -, -, -, -, ⟨m1, m2, m3, m4, m5⟩, -⟩ := id h1
  refine q_of (by decide +kernel) (Nat.le_of_ble_eq_true rfl) ?_
  refine v_L (L' := [(0, .ref x), (1, .int v)]) rfl ?_
  have out : ¬ (0 ≤ v ∧ v ≤ nI lat) → qV l s0 C m_P_demandVersion rm_P_demandVersion (fun r X' => (∃ j, j ≤ lat ∧ v = nI j) ∧ r = none ∧ X = X') (fun e X' => ¬ (0 ≤ v ∧ v ≤ nI lat) ∧ e = xI ∧ ∃ N, X.2 ≤ N ∧ X' = (X.1, N)) 0 0 X 15 [(0, .ref x), (1, .int v)] [] := by
    intro hn
    refine v_throw (text := "there is no such version") B th_I rfl (List.mem_of_getElem? (i := 541) (by decide +kernel)) rfl i_P_demandVersion_15 i_P_demandVersion_18 i_P_demandVersion_19 i_P_demandVersion_21 i_P_demandVersion_24 (by decide) (by decide) (by first | decide | (simp; omega)) (by first | decide | (simp; omega)) (fun N hN => ⟨hn, rfl, N, hN, rfl⟩)
  refine v_iload_n i_P_demandVersion_0 rfl ?_
  refine v_if_lt (tgt := 15) i_P_demandVersion_1 rfl (fun h1 => ?_) (fun h1 => ?_)
  · refine out (fun q => ?_)
    have := Int32.le_iff_toInt_le.mp q.1
    have := Int32.lt_iff_toInt_lt.mp h1
    omega
  rename_i h9
  refine v_iload_n i_P_demandVersion_4 rfl ?_
  refine v_aload_n i_P_demandVersion_5 rfl ?_
  refine v_get B i_P_demandVersion_6 (by first | assumption | exact qset_self _ _ _ | (rw [qset_ne _ _ (by omega)]; first | assumption | exact qset_self _ _ _ | (rw [qset_ne _ _ (by omega)]; first | assumption | exact qset_self _ _ _ | (rw [qset_ne _ _ (by omega)]; first | assumption | exact qset_self _ _ _ | (rw [qset_ne _ _ (by omega)]; first | assumption | exact qset_self _ _ _ | (rw [qset_ne _ _ (by omega)]; first | assumption | exact qset_self _ _ _ | (rw [qset_ne _ _ (by omega)]; first | assumption | exact qset_self _ _ _))))))) rfl ?_
  refine v_get B i_P_demandVersion_9 (by first | assumption | exact qset_self _ _ _ | (rw [qset_ne _ _ (by omega)]; first | assumption | exact qset_self _ _ _ | (rw [qset_ne _ _ (by omega)]; first | assumption | exact qset_self _ _ _ | (rw [qset_ne _ _ (by omega)]; first | assumption | exact qset_self _ _ _ | (rw [qset_ne _ _ (by omega)]; first | assumption | exact qset_self _ _ _ | (rw [qset_ne _ _ (by omega)]; first | assumption | exact qset_self _ _ _ | (rw [qset_ne _ _ (by omega)]; first | assumption | exact qset_self _ _ _))))))) rfl ?_
  refine v_icmp_le (tgt := 25) i_P_demandVersion_12 rfl (fun h12 => ?_) (fun h12 => ?_)
  · refine v_vret i_P_demandVersion_25 rfl (by decide) (by decide) ⟨?_, rfl, rfl⟩
    obtain ⟨j, hj, rfl⟩ := nI_of h1
    exact ⟨j, (nI_leI hj (by omega)).mp h12, rfl⟩
  · exact out (fun q => h12 q.2)
theorem c_P_demandPage (B : qB l s0 C) (h : PtAt X x E cnt pa pg made lat ro pn fe g1 g2 co li db D F O) (v : Int32) : qMet l s0 C m_P_demandPage rm_P_demandPage [.ref x, .int v] X (fun r X' => (∃ j, j < made ∧ v = nI j) ∧ r = none ∧ X = X') (fun e X' => ¬ (0 ≤ v ∧ v < nI made) ∧ e = xI ∧ ∃ N, X.2 ≤ N ∧ X' = (X.1, N)) := by
  obtain ⟨h0, h1, -⟩ := id h
  obtain ⟨t0, -, -, -, -, -, -, ⟨m1, m2, m3, m4, m5⟩, -⟩ := id h1
  refine q_of (by decide +kernel) (Nat.le_of_ble_eq_true rfl) ?_
  refine v_L (L' := [(0, .ref x), (1, .int v)]) rfl ?_
  have out : ¬ (0 ≤ v ∧ v < nI made) → qV l s0 C m_P_demandPage rm_P_demandPage (fun r X' => (∃ j, j < made ∧ v = nI j) ∧ r = none ∧ X = X') (fun e X' => ¬ (0 ≤ v ∧ v < nI made) ∧ e = xI ∧ ∃ N, X.2 ≤ N ∧ X' = (X.1, N)) 0 0 X 15 [(0, .ref x), (1, .int v)] [] := by
    intro hn
    refine v_throw (text := "there is no such page") B th_I rfl (List.mem_of_getElem? (i := 640) (by decide +kernel)) rfl i_P_demandPage_15 i_P_demandPage_18 i_P_demandPage_19 i_P_demandPage_21 i_P_demandPage_24 (by decide) (by decide) (by first | decide | (simp; omega)) (by first | decide | (simp; omega)) (fun N hN => ⟨hn, rfl, N, hN, rfl⟩)
  refine v_iload_n i_P_demandPage_0 rfl ?_
  refine v_if_lt (tgt := 15) i_P_demandPage_1 rfl (fun h1 => ?_) (fun h1 => ?_)
  · refine out (fun q => ?_)
    have := Int32.le_iff_toInt_le.mp q.1
    have := Int32.lt_iff_toInt_lt.mp h1
    omega
  rename_i h9
  refine v_iload_n i_P_demandPage_4 rfl ?_
  refine v_aload_n i_P_demandPage_5 rfl ?_
  refine v_get B i_P_demandPage_6 (by first | assumption | exact qset_self _ _ _ | (rw [qset_ne _ _ (by omega)]; first | assumption | exact qset_self _ _ _ | (rw [qset_ne _ _ (by omega)]; first | assumption | exact qset_self _ _ _ | (rw [qset_ne _ _ (by omega)]; first | assumption | exact qset_self _ _ _ | (rw [qset_ne _ _ (by omega)]; first | assumption | exact qset_self _ _ _ | (rw [qset_ne _ _ (by omega)]; first | assumption | exact qset_self _ _ _ | (rw [qset_ne _ _ (by omega)]; first | assumption | exact qset_self _ _ _))))))) rfl ?_
  refine v_get B i_P_demandPage_9 (by first | assumption | exact qset_self _ _ _ | (rw [qset_ne _ _ (by omega)]; first | assumption | exact qset_self _ _ _ | (rw [qset_ne _ _ (by omega)]; first | assumption | exact qset_self _ _ _ | (rw [qset_ne _ _ (by omega)]; first | assumption | exact qset_self _ _ _ | (rw [qset_ne _ _ (by omega)]; first | assumption | exact qset_self _ _ _ | (rw [qset_ne _ _ (by omega)]; first | assumption | exact qset_self _ _ _ | (rw [qset_ne _ _ (by omega)]; first | assumption | exact qset_self _ _ _))))))) rfl ?_
  refine v_icmp_lt (tgt := 25) i_P_demandPage_12 rfl (fun h12 => ?_) (fun h12 => ?_)
  · refine v_vret i_P_demandPage_25 rfl (by decide) (by decide) ⟨?_, rfl, rfl⟩
    obtain ⟨j, hj, rfl⟩ := nI_of h1
    exact ⟨j, (nI_ltI hj (by omega)).mp h12, rfl⟩
  · exact out (fun q => h12 q.2)
theorem c_P_unlessRefused (B : qB l s0 C) (v : Int32) : qMet l s0 C m_P_unlessRefused rm_P_unlessRefused [.int v] X (fun r X' => ¬ v = -1 ∧ r = some (.int v) ∧ X = X') (fun e X' => v = -1 ∧ e = xU ∧ ∃ N, X.2 ≤ N ∧ X' = (X.1, N)) := by
  refine q_of (by decide +kernel) (Nat.le_of_ble_eq_true rfl) ?_
  refine v_L (L' := [(0, .int v)]) rfl ?_
  refine v_iload_n i_P_unlessRefused_0 rfl ?_
  refine v_iconst (v := (-1)) i_P_unlessRefused_1 rfl ?_
  refine v_icmp_ne (tgt := 15) i_P_unlessRefused_2 rfl (fun h2 => ?_) (fun h2 => ?_)
  · refine v_iload_n i_P_unlessRefused_15 rfl ?_
    exact v_iret i_P_unlessRefused_16 rfl (by decide) (by decide) ⟨h2, rfl, rfl⟩
  · refine v_throw (text := "fewer pages are free than an update may make") B th_U rfl (List.mem_of_getElem? (i := 474) (by decide +kernel)) rfl i_P_unlessRefused_5 i_P_unlessRefused_8 i_P_unlessRefused_9 i_P_unlessRefused_11 i_P_unlessRefused_14 (by decide) (by decide) (by first | decide | (simp; omega)) (by first | decide | (simp; omega)) (fun N hN => ⟨h2, rfl, N, hN, rfl⟩)
theorem c_P_waitingRecords (B : qB l s0 C) (h : PtAt X x E cnt pa pg made lat ro pn fe g1 g2 co li db D F O) (hw : dlat D ≤ lat) : qMet l s0 C m_P_waitingRecords rm_P_waitingRecords [.ref x] X (fun r X' => X = X' ∧ r = some (.int (nI (lat - dlat D)))) (fun _ _ => False) := by
  obtain ⟨h0, h1, hd, -⟩ := id h
  obtain ⟨t0, -⟩ := id h1
  refine q_of (by decide +kernel) (Nat.le_of_ble_eq_true rfl) ?_
  refine v_L (L' := [(0, .ref x)]) rfl ?_
  refine v_aload_n i_P_waitingRecords_0 rfl ?_
  refine v_get B i_P_waitingRecords_1 (by first | assumption | exact qset_self _ _ _ | (rw [qset_ne _ _ (by omega)]; first | assumption | exact qset_self _ _ _ | (rw [qset_ne _ _ (by omega)]; first | assumption | exact qset_self _ _ _ | (rw [qset_ne _ _ (by omega)]; first | assumption | exact qset_self _ _ _ | (rw [qset_ne _ _ (by omega)]; first | assumption | exact qset_self _ _ _ | (rw [qset_ne _ _ (by omega)]; first | assumption | exact qset_self _ _ _ | (rw [qset_ne _ _ (by omega)]; first | assumption | exact qset_self _ _ _))))))) rfl ?_
  refine v_get B i_P_waitingRecords_4 (by first | assumption | exact qset_self _ _ _ | (rw [qset_ne _ _ (by omega)]; first | assumption | exact qset_self _ _ _ | (rw [qset_ne _ _ (by omega)]; first | assumption | exact qset_self _ _ _ | (rw [qset_ne _ _ (by omega)]; first | assumption | exact qset_self _ _ _ | (rw [qset_ne _ _ (by omega)]; first | assumption | exact qset_self _ _ _ | (rw [qset_ne _ _ (by omega)]; first | assumption | exact qset_self _ _ _ | (rw [qset_ne _ _ (by omega)]; first | assumption | exact qset_self _ _ _))))))) rfl ?_
  refine v_aload_n i_P_waitingRecords_7 rfl ?_
  refine v_get B i_P_waitingRecords_8 (by first | assumption | exact qset_self _ _ _ | (rw [qset_ne _ _ (by omega)]; first | assumption | exact qset_self _ _ _ | (rw [qset_ne _ _ (by omega)]; first | assumption | exact qset_self _ _ _ | (rw [qset_ne _ _ (by omega)]; first | assumption | exact qset_self _ _ _ | (rw [qset_ne _ _ (by omega)]; first | assumption | exact qset_self _ _ _ | (rw [qset_ne _ _ (by omega)]; first | assumption | exact qset_self _ _ _ | (rw [qset_ne _ _ (by omega)]; first | assumption | exact qset_self _ _ _))))))) rfl ?_
  refine v_inv B i_P_waitingRecords_11 kn_m_D_latestOnDisk (c_D_latestOnDisk B hd) hd.1 rfl rfl (Nat.le_of_ble_eq_true rfl) ⟨by decide, by decide, by first | decide | (simp; omega), by first | decide | (simp; omega)⟩ rfl (fun r X' hq => ?_) (fun _ _ h => False.elim h)
  obtain ⟨rfl, rfl⟩ := hq
  refine v_isub i_P_waitingRecords_14 ?_
  refine v_iret i_P_waitingRecords_15 rfl (by decide) (by decide) ⟨rfl, ?_⟩
  rw [show nI (lat - dlat D) = nI lat - nI (dlat D) from by
    obtain ⟨k, rfl⟩ := Nat.exists_eq_add_of_le hw
    rw [Nat.add_sub_cancel_left, ← nI_add, Int32.add_comm (nI (dlat D)), Int32.add_sub_cancel]]
end PT
