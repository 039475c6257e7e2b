/-! the next version -/
section YN
variable {pg : Nat → Pg} {made lat : Nat} {ro : Nat → Nat} {k : Int32} {w : Int64} {b : Bool}
theorem ytch_pn {l : Nat} {pp : Nat → Nat} {lo hi : Nat → Int} {nn : Nat → Nat} {pn pn' : Nat → Option Nat} {lev : Nat} {s : TU} (hc : yCx pg made lat ro k l pp lo hi nn pn) (hc' : yCx pg made lat ro k l pp lo hi nn pn') (h : yLI pg made lat ro l pp lo hi nn lev s) :
    tch pn lat (lat + 1) k lev s = tch pn' lat (lat + 1) k lev s := by
  have e0 : tps pn lev = tps pn' lev := (hc.tp h.1).trans (hc'.tp h.1).symm
  have eL : tchL pn lat lev s = tchL pn' lat lev s := by unfold tchL; rw [e0]
  have eP : tchP1 pn (lat + 1) lev s = tchP1 pn' (lat + 1) lev s := by unfold tchP1; rw [e0]
  have eA : tchA pn lat (lat + 1) lev s ↔ tchA pn' lat (lat + 1) lev s := by unfold tchA; rw [e0, eL]
  have eB : tchB pn lat (lat + 1) lev s ↔ tchB pn' lat (lat + 1) lev s := by unfold tchB; rw [e0, eL]
  unfold tch
  by_cases a1 : tchA pn lat (lat + 1) lev s
  · rw [if_pos a1, if_pos (eA.mp a1), eP, eL]
  · rw [if_neg a1, if_neg (fun q => a1 (eA.mpr q))]
    by_cases a2 : tchB pn lat (lat + 1) lev s
    · rw [if_pos a2, if_pos (eB.mp a2), e0]
    · rw [if_neg a2, if_neg (fun q => a2 (eB.mpr q))]
      by_cases a3 : tps pn lev = s.2.2.1 (lat + 1)
      · rw [if_pos a3, if_pos (by rw [← e0]; exact a3)]
        unfold tchC
        rw [eP, eL]
      · rw [if_neg a3, if_neg (by rw [← e0]; exact a3)]
        have hlt : lev < l := by
          rcases Nat.lt_or_ge lev l with z | z
          · exact z
          · exact absurd ((h.isRoot hc).mpr (by have := h.1; omega)) a3
        have e1 : tps pn (lev + 1) = tps pn' (lev + 1) := (hc.tp (j := lev + 1) hlt).trans (hc'.tp (j := lev + 1) hlt).symm
        unfold tchD
        rw [eP, eL, e1]
theorem ytup_pn {l : Nat} {pp : Nat → Nat} {lo hi : Nat → Int} {nn : Nat → Nat} {pn pn' : Nat → Option Nat} (hc : yCx pg made lat ro k l pp lo hi nn pn) (hc' : yCx pg made lat ro k l pp lo hi nn pn') : ∀ (n lev : Nat) (s : TU), yLI pg made lat ro l pp lo hi nn lev s → tup pn lat (lat + 1) k n lev s = tup pn' lat (lat + 1) k n lev s
  | 0, _, _, _ => rfl
  | n + 1, lev, s, h => by
    rw [tup, tup, ← ytch_pn hc hc' h]
    by_cases ht : (tch pn lat (lat + 1) k lev s).1 = true
    · rw [if_pos ht, if_pos ht]
      exact ytup_pn hc hc' n (lev + 1) _ ((ystep hc h).2.2.1 ht).2
    · rw [if_neg ht, if_neg ht]
/-- the update as a whole -/
theorem yupd (h : yInv pg made lat ro) (ht : tref pg made lat ro = false) (k : Int32) (w : Int64) (b : Bool) :
    (∀ pn, tupOK (tdes pg made ro pn lat k).2.2 lat (lat + 1) k 16 0 (tup0 pg made lat ro pn k w b) ∧ tupd pg made lat ro pn k w b = tupd pg made lat ro (fun _ => none) k w b) ∧
    yFin pg made lat ro (tupd pg made lat ro (fun _ => none) k w b) ∧ mdOK pg made lat k 16 (ro lat) ∧
    ((b = true ∨ ∃ i, gslot (pg (tdes pg made ro (fun _ => none) lat k).1) k lat = some i) → mupOK (tdes pg made ro (fun _ => none) lat k).2.2 lat (lat + 1) k 16 0 (tup0 pg made lat ro (fun _ => none) k w b)) := by
  obtain ⟨l, pp, lo, hi, nn, H⟩ := ybegin h ht k w b
  obtain ⟨c0, d0, i0, m0⟩ := H (fun _ => none)
  have hl : l < 0 + 16 := by have := c0.2.1; omega
  obtain ⟨t1, t2, t3⟩ := yloop c0 16 0 _ hl i0
  refine ⟨fun pn => ?_, t3, m0, fun hb => t2 ?_⟩
  · obtain ⟨c1, d1, i1, -⟩ := H pn
    refine ⟨(yloop c1 16 0 _ hl i1).1, ?_⟩
    have e : tup0 pg made lat ro pn k w b = tup0 pg made lat ro (fun _ => none) k w b := by unfold tup0; rw [d0, d1]
    unfold tupd
    rw [e]
    exact ytup_pn c1 c0 16 0 _ i0
  · rcases hb with q | ⟨i, q⟩
    · left; subst q; exact Nat.zero_lt_one
    · exact Or.inr ⟨i, q⟩
end YN
/-- what a page becomes -/
def yPs (P P' : Pg) (lat : Nat) : Prop := P' = P ∨ P' = gdie P (lat + 1) ∧ P.2.2.1 = none ∨ ∃ o1 o2 co, P' = tchGo P (lat + 1) o1 o2 co ∧ yoA o1 P.2.2.2 lat ∧ yoA o2 P.2.2.2 lat ∧ P.2.2.2.length + co.length ≤ 16
theorem oLt_mono {o : Option Nat} {a b : Nat} (h : oLt o a) (hab : a ≤ b) : oLt o b := fun t ht => by have := h t ht; omega
theorem en_gend {es : List Ent} {o : Option Nat} {v : Nat} (ho : oLt o es.length) (i : Nat) : en (gend es o v) i = if some i = o then ((en es i).1, (en es i).2.1, some v, (en es i).2.2.2) else en es i := by
  cases o with
  | none => rw [if_neg (Option.some_ne_none i)]; rfl
  | some j =>
    show en (es.set j _) i = _
    rw [en_set _ _ _ _ (ho j rfl)]
    by_cases hij : i = j
    · subst hij; rw [if_pos rfl, if_pos rfl]
    · rw [if_neg hij, if_neg (fun q => hij (Option.some.inj q))]
theorem en_go {P : Pg} {v : Nat} {o1 o2 : Option Nat} {co : qRw} (h1 : oLt o1 P.2.2.2.length) (h2 : oLt o2 P.2.2.2.length) (i : Nat) (hi : i < P.2.2.2.length) :
    en (tchGo P v o1 o2 co).2.2.2 i = if some i = o1 ∨ some i = o2 then ((en P.2.2.2 i).1, (en P.2.2.2 i).2.1, some v, (en P.2.2.2 i).2.2.2) else en P.2.2.2 i := by
  have e : en (tchGo P v o1 o2 co).2.2.2 i = en (gend (gend P.2.2.2 o1 v) o2 v) i := by
    show en (gend (gend P.2.2.2 o1 v) o2 v ++ gtk co v 0 co.length) i = _
    unfold en
    rw [List.getD_eq_getElem?_getD, List.getD_eq_getElem?_getD, List.getElem?_append_left (by rw [gend_len, gend_len]; exact hi)]
  rw [e, en_gend (by rw [gend_len]; exact h2), en_gend h1]
  by_cases q2 : some i = o2
  · rw [if_pos q2, if_pos (Or.inr q2)]
    by_cases q1 : some i = o1
    · rw [if_pos q1]
    · rw [if_neg q1]
  · rw [if_neg q2]
    by_cases q1 : some i = o1
    · rw [if_pos q1, if_pos (Or.inl q1)]
    · rw [if_neg q1, if_neg (fun z => by rcases z with z | z; exact q1 z; exact q2 z)]
theorem en_go2 {P : Pg} {v : Nat} {o1 o2 : Option Nat} {co : qRw} (i : Nat) (hi : P.2.2.2.length ≤ i) (hi2 : i < P.2.2.2.length + co.length) : en (tchGo P v o1 o2 co).2.2.2 i = (rk co (i - P.2.2.2.length), v, none, rv co (i - P.2.2.2.length)) := by
  show en (gend (gend P.2.2.2 o1 v) o2 v ++ gtk co v 0 co.length) i = _
  have e : en (gend (gend P.2.2.2 o1 v) o2 v ++ gtk co v 0 co.length) i = en (gtk co v 0 co.length) (i - P.2.2.2.length) := by
    unfold en
    rw [List.getD_eq_getElem?_getD, List.getD_eq_getElem?_getD, List.getElem?_append_right (by rw [gend_len, gend_len]; exact hi), gend_len, gend_len]
  rw [e, en_gtk (by omega), Nat.zero_add]
theorem go_len (P : Pg) (v : Nat) (o1 o2 : Option Nat) (co : qRw) : (tchGo P v o1 o2 co).2.2.2.length = P.2.2.2.length + co.length := by
  show (gend (gend P.2.2.2 o1 v) o2 v ++ gtk co v 0 co.length).length = _
  rw [List.length_append, gend_len, gend_len, gtk_len]
theorem alv_cl {e : Ent} {lat : Nat} (h : alv e lat = true) (h2 : oLt e.2.2.1 (lat + 1)) : e.2.2.1 = none := by
  obtain ⟨k, f, t, w⟩ := e
  dsimp only at h2 ⊢
  cases t with
  | none => rfl
  | some t =>
    have := h2 t rfl
    unfold alv at h
    simp [show ¬ lat < t by omega] at h
theorem yPs.cl {P P' : Pg} {lat : Nat} (h : yPs P P' lat) (hc : yCl P lat) (hl : P.2.2.2.length ≤ 16) : yCl P' (lat + 1) ∧ P'.2.2.2.length ≤ 16 := by
  obtain ⟨h1, h2, h3⟩ := hc
  rcases h with rfl | ⟨rfl, q⟩ | ⟨o1, o2, co, rfl, a1, a2, a3⟩
  · exact ⟨⟨by omega, oLt_mono h2 (by omega), fun i hi => ⟨by have := (h3 i hi).1; omega, oLt_mono (h3 i hi).2 (by omega)⟩⟩, hl⟩
  · refine ⟨⟨by show P.2.1 ≤ lat + 1; omega, fun t ht => by cases ht; omega, fun i hi => ⟨by have := (h3 i hi).1; show (en P.2.2.2 i).2.1 ≤ lat + 1; omega, oLt_mono (h3 i hi).2 (by omega)⟩⟩, hl⟩
  · refine ⟨⟨by show P.2.1 ≤ lat + 1; omega, oLt_mono (show oLt P.2.2.1 (lat + 1) from h2) (by omega), fun i hi => ?_⟩, by rw [go_len]; exact a3⟩
    rw [go_len] at hi
    rcases Nat.lt_or_ge i P.2.2.2.length with q | q
    · rw [en_go a1.1 a2.1 i q]
      split
      · exact ⟨by have := (h3 i q).1; show (en P.2.2.2 i).2.1 ≤ lat + 1; omega, fun t ht => by cases ht; omega⟩
      · exact ⟨by have := (h3 i q).1; omega, oLt_mono (h3 i q).2 (by omega)⟩
    · rw [en_go2 i q hi]
      exact ⟨Nat.le_refl _, fun t ht => by cases ht⟩
theorem alv_before (k : Int32) (f lat u : Nat) (x : Int64) (hu : u ≤ lat) : alv (k, f, some (lat + 1), x) u = alv (k, f, none, x) u := by
  unfold alv
  simp [show u < lat + 1 by omega]
theorem alv_later (k : Int32) (lat u : Nat) (o : Option Nat) (x : Int64) (hu : u ≤ lat) : alv (k, lat + 1, o, x) u = false := by
  unfold alv
  simp [show ¬ lat + 1 ≤ u by omega]
theorem mls_congr {es es' : List Ent} {u : Nat} : ∀ {n : Nat}, (∀ i, i < n → alv (en es i) u = alv (en es' i) u ∧ (en es i).1 = (en es' i).1 ∧ (en es i).2.2.2 = (en es' i).2.2.2) → mls es u none none [] n = mls es' u none none [] n
  | 0, _ => rfl
  | n + 1, h => by
    obtain ⟨h1, h2, h3⟩ := h n (by omega)
    rw [mls, mls, mls_congr (fun i hi => h i (by omega)), h1, h2, h3]
theorem mls_dead {es : List Ent} {u : Nat} (m : Nat) : ∀ n, (∀ i, m ≤ i → i < m + n → alv (en es i) u = false) → mls es u none none [] (m + n) = mls es u none none [] m
  | 0, _ => rfl
  | n + 1, h => by
    rw [← Nat.add_assoc, mls, if_neg (fun q => by have := h (m + n) (by omega) (by omega); rw [q.1] at this; cases this)]
    exact mls_dead m n (fun i h1 h2 => h i h1 (by omega))
/-- earlier versions see the same page -/
theorem yPs.old {P P' : Pg} {lat : Nat} (h : yPs P P' lat) (hc : yCl P lat) {u : Nat} (hu : u ≤ lat) : P'.1 = P.1 ∧ gserves P' u = gserves P u ∧ yal P'.2.2.2 u = yal P.2.2.2 u := by
  obtain ⟨h1, h2, h3⟩ := hc
  rcases h with rfl | ⟨rfl, q⟩ | ⟨o1, o2, co, rfl, a1, a2, a3⟩
  · exact ⟨rfl, rfl, rfl⟩
  · refine ⟨rfl, ?_, rfl⟩
    obtain ⟨x1, x2, x3, x4⟩ := P
    dsimp only at q
    subst q
    show (decide (x2 ≤ u) && decide (u < lat + 1)) = (decide (x2 ≤ u) && true)
    rw [decide_eq_true (show u < lat + 1 by omega)]
  · refine ⟨rfl, rfl, ?_⟩
    unfold yal
    rw [go_len, mls_dead P.2.2.2.length co.length (fun i i1 i2 => by rw [en_go2 i i1 i2]; exact alv_later _ _ _ _ _ hu)]
    refine mls_congr (fun i hi => ?_)
    rw [en_go a1.1 a2.1 i hi]
    split
    · rename_i hq
      have hal : alv (en P.2.2.2 i) lat = true := by
        rcases hq with z | z
        · exact a1.2 i z.symm
        · exact a2.2 i z.symm
      have hn := alv_cl hal (h3 i hi).2
      refine ⟨?_, rfl, rfl⟩
      rw [alv_before _ _ _ _ _ hu, ← hn]
    · exact ⟨rfl, rfl, rfl⟩
/-- going back undoes it -/
theorem ogt_cl {o : Option Nat} {lat : Nat} (h : oLt o (lat + 1)) : ogt o lat = false := by
  cases o with
  | none => rfl
  | some t => have := h t rfl; simp [ogt]; omega
theorem oback_cl {o : Option Nat} {lat : Nat} (h : oLt o (lat + 1)) : oback o lat = o := by unfold oback; rw [ogt_cl h, if_neg (by simp)]
theorem gtrim_cl {es : List Ent} {lat : Nat} : ∀ n, (∀ i, i < n → (en es i).2.1 ≤ lat) → gtrim es lat n = n
  | 0, _ => rfl
  | n + 1, h => by rw [gtrim, if_neg (by have := h n (by omega); omega)]
theorem gtrim_dead {es : List Ent} {lat : Nat} (m : Nat) : ∀ n, (∀ i, m ≤ i → i < m + n → lat < (en es i).2.1) → gtrim es lat (m + n) = gtrim es lat m
  | 0, _ => rfl
  | n + 1, h => by
    rw [← Nat.add_assoc, gtrim, if_pos (h (m + n) (by omega) (by omega))]
    exact gtrim_dead m n (fun i h1 h2 => h i h1 (by omega))
theorem list_ext_en {a b : List Ent} (hl : a.length = b.length) (h : ∀ i, i < a.length → en a i = en b i) : a = b := by
  refine List.ext_getElem hl (fun i h1 h2 => ?_)
  have := h i h1
  unfold en at this
  rw [List.getD_eq_getElem?_getD, List.getD_eq_getElem?_getD, List.getElem?_eq_getElem h1, List.getElem?_eq_getElem h2] at this
  exact this
theorem yen_map {es : List Ent} {f : Ent → Ent} {i : Nat} (hi : i < es.length) : en (es.map f) i = f (en es i) := by
  unfold en
  rw [List.getD_eq_getElem?_getD, List.getD_eq_getElem?_getD, List.getElem?_map, List.getElem?_eq_getElem hi]
  rfl
theorem yen_take {es : List Ent} {n i : Nat} (hi : i < n) : en (es.take n) i = en es i := by
  unfold en
  rw [List.getD_eq_getElem?_getD, List.getD_eq_getElem?_getD, List.getElem?_take_of_lt hi]
theorem gback_cl {P : Pg} {lat : Nat} (hc : yCl P lat) : gback P lat = P := by
  obtain ⟨h1, h2, h3⟩ := hc
  obtain ⟨x1, x2, x3, es⟩ := P
  dsimp only at h1 h2 h3
  show (x1, x2, oback x3 lat, (es.take (gtrim es lat es.length)).map (fun e => (e.1, e.2.1, oback e.2.2.1 lat, e.2.2.2))) = (x1, x2, x3, es)
  have e : (es.take (gtrim es lat es.length)).map (fun e => (e.1, e.2.1, oback e.2.2.1 lat, e.2.2.2)) = es := by
    rw [gtrim_cl es.length (fun i hi => (h3 i hi).1), List.take_length]
    refine list_ext_en (by simp) (fun i hi => ?_)
    rw [List.length_map] at hi
    rw [yen_map hi, oback_cl (h3 i hi).2]
  rw [oback_cl h2, e]
theorem yPs.back {P P' : Pg} {lat : Nat} (h : yPs P P' lat) (hc : yCl P lat) : gback P' lat = P := by
  rcases h with rfl | ⟨rfl, q⟩ | ⟨o1, o2, co, rfl, a1, a2, a3⟩
  · exact gback_cl hc
  · have hb := gback_cl hc
    obtain ⟨x1, x2, x3, es⟩ := P
    dsimp only at q
    subst q
    have e : oback (some (lat + 1)) lat = none := by unfold oback ogt; rw [if_pos (by simp)]
    have : gback (gdie (x1, x2, none, es) (lat + 1)) lat = gback (x1, x2, none, es) lat := by
      show (x1, x2, oback (some (lat + 1)) lat, _) = (x1, x2, oback none lat, _)
      rw [e]; rfl
    rw [this]; exact hb
  · obtain ⟨h1, h2, h3⟩ := hc
    have e : ((tchGo P (lat + 1) o1 o2 co).2.2.2.take (gtrim (tchGo P (lat + 1) o1 o2 co).2.2.2 lat (tchGo P (lat + 1) o1 o2 co).2.2.2.length)).map (fun e => (e.1, e.2.1, oback e.2.2.1 lat, e.2.2.2)) = P.2.2.2 := by
      rw [go_len, gtrim_dead P.2.2.2.length co.length (fun i i1 i2 => by rw [en_go2 i i1 i2]; exact Nat.lt_succ_self _), gtrim_cl P.2.2.2.length (fun i hi => by
        rw [en_go a1.1 a2.1 i hi]
        split
        · exact (h3 i hi).1
        · exact (h3 i hi).1)]
      have hl : ((tchGo P (lat + 1) o1 o2 co).2.2.2.take P.2.2.2.length).length = P.2.2.2.length := by rw [List.length_take, go_len]; omega
      refine list_ext_en (by rw [List.length_map, hl]) (fun i hi => ?_)
      rw [List.length_map, hl] at hi
      rw [yen_map (by rw [hl]; exact hi), yen_take hi, en_go a1.1 a2.1 i hi]
      split
      · rename_i hq
        have hal : alv (en P.2.2.2 i) lat = true := by
          rcases hq with z | z
          · exact a1.2 i z.symm
          · exact a2.2 i z.symm
        have hn := alv_cl hal (h3 i hi).2
        have e2 : oback (some (lat + 1)) lat = none := by unfold oback ogt; rw [if_pos (by simp)]
        show ((en P.2.2.2 i).1, (en P.2.2.2 i).2.1, oback (some (lat + 1)) lat, (en P.2.2.2 i).2.2.2) = en P.2.2.2 i
        rw [e2, ← hn]
      · rw [oback_cl (h3 i hi).2]
    show (P.1, P.2.1, oback P.2.2.1 lat, _) = P
    rw [oback_cl h2, e]
