/-! versions in a chain: the next one is good, going back gives the earlier ones, the same beginnings give the same ends -/
theorem yNw.cl {P : Pg} {lat : Nat} (h : yNw P (lat + 1)) : yCl P (lat + 1) ∧ P.2.2.2.length ≤ 16 := by
  obtain ⟨h1, h2, h3, h4⟩ := h
  exact ⟨⟨by omega, by rw [h2]; exact fun t ht => (nomatch ht), fun i hi => ⟨by have := (h4 i hi).1; omega, by rw [(h4 i hi).2]; exact fun t ht => (nomatch ht)⟩⟩, h3⟩
theorem yNw.later {P : Pg} {lat u : Nat} (h : yNw P (lat + 1)) (hu : u ≤ lat) : gserves P u = false := by
  obtain ⟨h1, -⟩ := h
  unfold gserves
  rw [h1]
  simp [show ¬ lat + 1 ≤ u by omega]
theorem yFin.ps {pg : Nat → Pg} {made lat : Nat} {ro : Nat → Nat} {U : TU} (h : yFin pg made lat ro U) {p : Nat} (hp : p < made) : yPs (pg p) (U.1 p) lat := h.2.2.1 p hp
theorem yGd.same {pg pg' : Nat → Pg} {made made' r w : Nat} (hm : made ≤ made') (hV : ∀ c, c < made → yVw pg' w c = yVw pg w c) (h : yGd pg made r w) : yGd pg' made' r w := by
  obtain ⟨l, n, h1, h2, h3, h4, h5, h6⟩ := h
  have e := hV r h1
  have e1 : (pg' r).1 = (pg r).1 := congrArg (fun z : Nat × Bool × qRw => z.1) e
  have e2 : gserves (pg' r) w = gserves (pg r) w := congrArg (fun z : Nat × Bool × qRw => z.2.1) e
  have e3 : yal (pg' r).2.2.2 w = yal (pg r).2.2.2 w := congrArg (fun z : Nat × Bool × qRw => z.2.2) e
  exact ⟨l, n, by omega, by rw [e1]; exact h2, by rw [e2]; exact h3, by rw [e3]; exact h4, by rw [e3]; exact yNB_same hm hV h5, h6⟩
theorem yFin.inv {pg : Nat → Pg} {made lat : Nat} {ro : Nat → Nat} {U : TU} (h : yFin pg made lat ro U) (hi : yInv pg made lat ro) : yInv U.1 U.2.1 (lat + 1) U.2.2.1 := by
  obtain ⟨h1, h2, h3, h4, h5, h6, h7⟩ := id h
  obtain ⟨i1, i2, i3, i4, i5⟩ := hi
  have hV : ∀ u, u ≤ lat → ∀ c, c < made → yVw U.1 u c = yVw pg u c := by
    intro u hu c hc
    obtain ⟨a, b, d⟩ := (h.ps hc).old (i3 c hc).1 hu
    unfold yVw
    rw [a, b, d]
  refine ⟨by omega, h2, fun p hp => ?_, fun u hu => ?_, fun u hu => ?_⟩
  · rcases Nat.lt_or_ge p made with q | q
    · exact (h.ps q).cl (i3 p q).1 (i3 p q).2
    · exact (h4 p q hp).cl
  · by_cases q : u = lat + 1
    · subst q; exact h6
    · rw [h5 u (by omega)]
      exact (i4 u (by omega)).same h1 (hV u (by omega))
  · by_cases q : u = lat + 1
    · subst q; exact h7
    · rw [h5 u (by omega)]
      intro p hp hs
      rcases Nat.lt_or_ge p made with z | z
      · have e := hV u (by omega) p z
        have e2 : gserves (U.1 p) u = gserves (pg p) u := congrArg (fun z : Nat × Bool × qRw => z.2.1) e
        have e3 : yal (U.1 p).2.2.2 u = yal (pg p).2.2.2 u := congrArg (fun z : Nat × Bool × qRw => z.2.2) e
        rw [e2] at hs
        rw [e3]
        exact i5 u (by omega) p z hs
      · rw [(h4 p z hp).later (by omega)] at hs; cases hs
/-- the same as far as it counts -/
def yAg (pg : Nat → Pg) (made lat : Nat) (ro : Nat → Nat) (pg' : Nat → Pg) (made' : Nat) (ro' : Nat → Nat) : Prop := made = made' ∧ (∀ p, p < made → pg p = pg' p) ∧ ∀ w, w ≤ lat → ro w = ro' w
theorem yAg.symm {pg pg' : Nat → Pg} {made made' lat : Nat} {ro ro' : Nat → Nat} (h : yAg pg made lat ro pg' made' ro') : yAg pg' made' lat ro' pg made ro := ⟨h.1.symm, fun p hp => (h.2.1 p (by have := h.1; omega)).symm, fun w hw => (h.2.2 w hw).symm⟩
theorem yAg.trans {pg pg' pg'' : Nat → Pg} {made made' made'' lat : Nat} {ro ro' ro'' : Nat → Nat} (h : yAg pg made lat ro pg' made' ro') (h' : yAg pg' made' lat ro' pg'' made'' ro'') : yAg pg made lat ro pg'' made'' ro'' :=
  ⟨h.1.trans h'.1, fun p hp => (h.2.1 p hp).trans (h'.2.1 p (by have := h.1; omega)), fun w hw => (h.2.2 w hw).trans (h'.2.2 w hw)⟩
theorem yAg.rfl' {pg : Nat → Pg} {made lat : Nat} {ro : Nat → Nat} : yAg pg made lat ro pg made ro := ⟨rfl, fun _ _ => rfl, fun _ _ => rfl⟩
theorem yAg.inv {pg pg' : Nat → Pg} {made made' lat : Nat} {ro ro' : Nat → Nat} (h : yAg pg made lat ro pg' made' ro') (hi : yInv pg made lat ro) : yInv pg' made' lat ro' := by
  obtain ⟨rfl, h2, h3⟩ := h
  obtain ⟨i1, i2, i3, i4, i5⟩ := hi
  have hV : ∀ u c, c < made → yVw pg' u c = yVw pg u c := fun u c hc => yVw_eq (h2 c hc).symm u
  refine ⟨i1, i2, fun p hp => by rw [← h2 p hp]; exact i3 p hp, fun u hu => ?_, fun u hu p hp hs => ?_⟩
  · rw [← h3 u hu]; exact (i4 u hu).same (Nat.le_refl _) (hV u)
  · rw [← h2 p hp] at hs ⊢
    rw [← h3 u hu]; exact i5 u hu p hp hs
theorem tdesc_ag {pg pg' : Nat → Pg} {made : Nat} (hm : 1 ≤ made) (h : ∀ p, p < made → pg p = pg' p) (v : Nat) (k : Int32) : ∀ (n p : Nat) (f : Int64) (q : Nat → Option Nat), p < made → tdesc pg made v k n p f q = tdesc pg' made v k n p f q
  | 0, p, f, q, hp => by rw [tdesc, tdesc, h p hp]
  | n + 1, p, f, q, hp => by
    rw [tdesc, tdesc, h p hp]
    split
    · rfl
    · exact tdesc_ag hm h v k n _ _ _ (tpn_lt hm _)
theorem tdes_ag {pg pg' : Nat → Pg} {made lat : Nat} {ro ro' : Nat → Nat} (hm : 1 ≤ made) (h : yAg pg made lat ro pg' made ro') {v : Nat} (hv : v ≤ lat) (k : Int32) (q : Nat → Option Nat) : tdes pg made ro q v k = tdes pg' made ro' q v k := by
  unfold tdes
  rw [h.2.2 v hv]
  exact tdesc_ag hm h.2.1 v k 16 _ _ _ (tpn_lt hm _)
theorem tdesc_lt {pg : Nat → Pg} {made : Nat} (hm : 1 ≤ made) (v : Nat) (k : Int32) : ∀ (n p : Nat) (f : Int64) (q : Nat → Option Nat), p < made → (tdesc pg made v k n p f q).1 < made
  | 0, p, f, q, hp => hp
  | n + 1, p, f, q, hp => by
    rw [tdesc]
    split
    · exact hp
    · exact tdesc_lt hm v k n _ _ _ (tpn_lt hm _)
/-- two runs of an update, side by side -/
def yAS (v : Nat) (s s' : TU) : Prop := s.2.1 = s'.2.1 ∧ (∀ p, p < s.2.1 → s.1 p = s'.1 p) ∧ (∀ w, w ≤ v → s.2.2.1 w = s'.2.2.1 w) ∧ s.2.2.2 = s'.2.2.2
theorem up_ag {f g : Nat → Pg} {n a : Nat} {x y : Pg} (h : ∀ p, p < n → f p = g p) (hx : x = y) : ∀ p, p < n → va_up f a x p = va_up g a y p := by
  intro p hp
  by_cases q : p = a
  · subst q; rw [va_up_self, va_up_self]; exact hx
  · rw [va_up_ne _ _ q, va_up_ne _ _ q]; exact h p hp
theorem up_ag' {f g : Nat → Pg} {n : Nat} {x y : Pg} (h : ∀ p, p < n → f p = g p) (hx : x = y) : ∀ p, p < n + 1 → va_up f n x p = va_up g n y p := by
  intro p hp
  by_cases q : p = n
  · subst q; rw [va_up_self, va_up_self]; exact hx
  · rw [va_up_ne _ _ q, va_up_ne _ _ q]; exact h p (by omega)
theorem tmkP_ag {f g : Nat → Pg} {made : Nat} (h : ∀ p, p < made → f p = g p) (li : qRw) (lev v : Nat) : ∀ p, p < tmkN made li → tmkP f made li lev v p = tmkP g made li lev v p := by
  unfold tmkP tmkN
  split
  · exact up_ag' (up_ag' h rfl) rfl
  · exact up_ag' h rfl
theorem tch_ag {pn : Nat → Option Nat} {lat : Nat} {k : Int32} {lev : Nat} {s s' : TU} (h : yAS (lat + 1) s s') (hp : tps pn lev < s.2.1) (hq : ¬ tps pn lev = s.2.2.1 (lat + 1) → tps pn (lev + 1) < s.2.1) :
    (tch pn lat (lat + 1) k lev s).1 = (tch pn lat (lat + 1) k lev s').1 ∧ yAS (lat + 1) (tch pn lat (lat + 1) k lev s).2 (tch pn lat (lat + 1) k lev s').2 := by
  obtain ⟨pg, made, ro, o1, o2, co⟩ := s
  obtain ⟨pg', made', ro', o1', o2', co'⟩ := s'
  obtain ⟨h1, h2, h3, h4⟩ := h
  dsimp only at h1 h2 h3 h4 hp hq
  subst h1
  cases h4
  have eL : tchL pn lat lev (pg, made, ro, o1, o2, co) = tchL pn lat lev (pg', made, ro', o1, o2, co) := by unfold tchL; dsimp only; rw [h2 _ hp]
  have er := h3 (lat + 1) (Nat.le_refl _)
  have eA : tchA pn lat (lat + 1) lev (pg, made, ro, o1, o2, co) ↔ tchA pn lat (lat + 1) lev (pg', made, ro', o1, o2, co) := by unfold tchA; rw [eL]; dsimp only; rw [er]
  have eB : tchB pn lat (lat + 1) lev (pg, made, ro, o1, o2, co) ↔ tchB pn lat (lat + 1) lev (pg', made, ro', o1, o2, co) := by unfold tchB; rw [eL]; dsimp only; rw [er, h2 _ hp]
  have eP : ∀ p, p < made → tchP1 pn (lat + 1) lev (pg, made, ro, o1, o2, co) p = tchP1 pn (lat + 1) lev (pg', made, ro', o1, o2, co) p := by
    unfold tchP1; dsimp only
    exact up_ag h2 (by rw [h2 _ hp])
  have upro : ∀ x w, w ≤ lat + 1 → va_up ro (lat + 1) x w = va_up ro' (lat + 1) x w := by
    intro x w hw
    by_cases q : w = lat + 1
    · subst q; rw [va_up_self, va_up_self]
    · rw [va_up_ne _ _ q, va_up_ne _ _ q]; exact h3 w hw
  unfold tch
  by_cases a1 : tchA pn lat (lat + 1) lev (pg, made, ro, o1, o2, co)
  · rw [if_pos a1, if_pos (eA.mp a1), eL]
    exact ⟨rfl, rfl, eP, upro _, rfl⟩
  · rw [if_neg a1, if_neg (fun q => a1 (eA.mpr q))]
    by_cases a2 : tchB pn lat (lat + 1) lev (pg, made, ro, o1, o2, co)
    · rw [if_pos a2, if_pos (eB.mp a2)]
      exact ⟨rfl, rfl, up_ag h2 (by dsimp only; rw [h2 _ hp]), h3, rfl⟩
    · rw [if_neg a2, if_neg (fun q => a2 (eB.mpr q))]
      by_cases a3 : tps pn lev = ro (lat + 1)
      · rw [if_pos a3, if_pos (show tps pn lev = ro' (lat + 1) by rw [← er]; exact a3)]
        unfold tchC
        rw [eL]
        refine ⟨rfl, rfl, ?_, upro _, rfl⟩
        dsimp only
        unfold trrP trrN
        have hN := tmkP_ag eP (tchL pn lat lev (pg', made, ro', o1, o2, co)) lev (lat + 1)
        split
        · rename_i ht
          have eN : tmkN made (tchL pn lat lev (pg', made, ro', o1, o2, co)) = made + 2 := by unfold tmkN; rw [if_pos ht]
          rw [eN] at hN
          exact up_ag' hN rfl
        · rename_i ht
          have eN : tmkN made (tchL pn lat lev (pg', made, ro', o1, o2, co)) = made + 1 := by unfold tmkN; rw [if_neg ht]
          rw [eN] at hN
          exact hN
      · rw [if_neg a3, if_neg (show ¬ tps pn lev = ro' (lat + 1) by rw [← er]; exact a3)]
        have hq' := hq a3
        have e1 : trbO1 (tchP1 pn (lat + 1) lev (pg, made, ro, o1, o2, co)) (tps pn (lev + 1)) k lat = trbO1 (tchP1 pn (lat + 1) lev (pg', made, ro', o1, o2, co)) (tps pn (lev + 1)) k lat := by unfold trbO1; rw [eP _ hq']
        have e2 : ∀ L, trbO2 (tchP1 pn (lat + 1) lev (pg, made, ro, o1, o2, co)) (tps pn (lev + 1)) k lat L = trbO2 (tchP1 pn (lat + 1) lev (pg', made, ro', o1, o2, co)) (tps pn (lev + 1)) k lat L := by intro L; unfold trbO2; rw [e1, eP _ hq']
        have e3 : ∀ L, trbK (tchP1 pn (lat + 1) lev (pg, made, ro, o1, o2, co)) (tps pn (lev + 1)) k lat L = trbK (tchP1 pn (lat + 1) lev (pg', made, ro', o1, o2, co)) (tps pn (lev + 1)) k lat L := by intro L; unfold trbK; rw [e1, e2, eP _ hq']
        have e4 : ∀ L, trbN (tchP1 pn (lat + 1) lev (pg, made, ro, o1, o2, co)) made (tps pn (lev + 1)) k lat L = trbN (tchP1 pn (lat + 1) lev (pg', made, ro', o1, o2, co)) made (tps pn (lev + 1)) k lat L := by intro L; unfold trbN; rw [e2, eP _ hq']
        have hn : ∀ L, trbN (tchP1 pn (lat + 1) lev (pg', made, ro', o1, o2, co)) made (tps pn (lev + 1)) k lat L < made := fun L => tpn_lt (by omega) _
        have e5 : ∀ L, trbL (tchP1 pn (lat + 1) lev (pg, made, ro, o1, o2, co)) made (tps pn (lev + 1)) k lat L = trbL (tchP1 pn (lat + 1) lev (pg', made, ro', o1, o2, co)) made (tps pn (lev + 1)) k lat L := by intro L; unfold trbL; rw [e4, eP _ (hn L)]
        have e6 : ∀ L p, p < made → trbP (tchP1 pn (lat + 1) lev (pg, made, ro, o1, o2, co)) made (tps pn (lev + 1)) k lat (lat + 1) L p = trbP (tchP1 pn (lat + 1) lev (pg', made, ro', o1, o2, co)) made (tps pn (lev + 1)) k lat (lat + 1) L p := by
          intro L p hp
          unfold trbP
          rw [e4]
          split
          · exact up_ag eP (by rw [eP _ (hn L)]) p hp
          · exact eP p hp
        unfold tchD
        dsimp only
        rw [eL, e1, e2, e3, e5]
        exact ⟨rfl, rfl, tmkP_ag (e6 _) _ _ _, h3, rfl⟩
theorem tup_ag {pg : Nat → Pg} {made lat : Nat} {ro : Nat → Nat} {k : Int32} {l : Nat} {pp : Nat → Nat} {lo hi : Nat → Int} {nn : Nat → Nat} {pn : Nat → Option Nat} (hc : yCx pg made lat ro k l pp lo hi nn pn) : ∀ (n lev : Nat) (s s' : TU), yLI pg made lat ro l pp lo hi nn lev s → yAS (lat + 1) s s' → yAS (lat + 1) (tup pn lat (lat + 1) k n lev s) (tup pn lat (lat + 1) k n lev s')
  | 0, _, _, _, _, h => h
  | n + 1, lev, s, s', hl, h => by
    have h2 := hl.2.1
    have p1 := (hc.2.2.2.1.1 lev hl.1).1
    obtain ⟨e1, e2⟩ := tch_ag (k := k) h (by rw [hc.tp hl.1]; omega) (fun hnr => by
      have hlt : lev < l := by
        rcases Nat.lt_or_ge lev l with z | z
        · exact z
        · exact absurd ((hl.isRoot hc).mpr (by have := hl.1; omega)) hnr
      rw [hc.tp (j := lev + 1) hlt]
      have := (hc.2.2.2.1.1 (lev + 1) hlt).1
      omega)
    rw [tup, tup, ← e1]
    by_cases ht : (tch pn lat (lat + 1) k lev s).1 = true
    · rw [if_pos ht, if_pos ht]
      exact tup_ag hc n (lev + 1) _ _ ((ystep hc hl).2.2.1 ht).2 e2
    · rw [if_neg ht, if_neg ht]; exact e2
abbrev yU (pg : Nat → Pg) (made lat : Nat) (ro : Nat → Nat) (o : Int32 × Int64 × Bool) : TU := tupd pg made lat ro (fun _ => none) o.1 o.2.1 o.2.2
theorem tref_ag {pg pg' : Nat → Pg} {made made' lat : Nat} {ro ro' : Nat → Nat} (hm : 1 ≤ made) (h : yAg pg made lat ro pg' made' ro') : tref pg made lat ro = tref pg' made' lat ro' := by
  obtain ⟨rfl, h2, h3⟩ := h
  unfold tref
  rw [h3 lat (Nat.le_refl _), h2 _ (tpn_lt hm _)]
/-- the same beginnings give the same ends -/
theorem yU_ag {pg pg' : Nat → Pg} {made made' lat : Nat} {ro ro' : Nat → Nat} (h : yAg pg made lat ro pg' made' ro') (hi : yInv pg made lat ro) (ht : tref pg made lat ro = false) (o : Int32 × Int64 × Bool) :
    yAg (yU pg made lat ro o).1 (yU pg made lat ro o).2.1 (lat + 1) (yU pg made lat ro o).2.2.1 (yU pg' made' lat ro' o).1 (yU pg' made' lat ro' o).2.1 (yU pg' made' lat ro' o).2.2.1 := by
  obtain ⟨l, pp, lo, hi', nn, H⟩ := ybegin hi ht o.1 o.2.1 o.2.2
  obtain ⟨c0, d0, i0, -⟩ := H (fun _ => none)
  obtain ⟨rfl, h2, h3⟩ := id h
  have ed := tdes_ag hi.1 h (Nat.le_refl lat) o.1 (fun _ => none)
  have hlt : (tdes pg made ro (fun _ => none) lat o.1).1 < made := tdesc_lt hi.1 _ _ _ _ _ _ (tpn_lt hi.1 _)
  have e0 : yAS (lat + 1) (tup0 pg made lat ro (fun _ => none) o.1 o.2.1 o.2.2) (tup0 pg' made lat ro' (fun _ => none) o.1 o.2.1 o.2.2) := by
    refine ⟨rfl, h2, fun w hw => ?_, ?_⟩
    · show va_up ro (lat + 1) (ro lat) w = va_up ro' (lat + 1) (ro' lat) w
      by_cases q : w = lat + 1
      · subst q; rw [va_up_self, va_up_self]; exact h3 lat (Nat.le_refl _)
      · rw [va_up_ne _ _ q, va_up_ne _ _ q]; exact h3 w (by omega)
    · show (gslot (pg (tdes pg made ro (fun _ => none) lat o.1).1) o.1 lat, _) = (gslot (pg' (tdes pg' made ro' (fun _ => none) lat o.1).1) o.1 lat, _)
      rw [← ed, h2 _ hlt]
  have := tup_ag c0 16 0 _ _ i0 e0
  obtain ⟨g1, g2, g3, -⟩ := this
  refine ⟨?_, ?_, ?_⟩
  · unfold yU tupd; rw [← ed]; exact g1
  · unfold yU tupd; rw [← ed]; exact g2
  · unfold yU tupd; rw [← ed]; exact g3
