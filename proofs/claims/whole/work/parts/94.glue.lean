/-! class and reference side by side: what joins them -/
theorem gchg_cl {P : Pg} {lat : Nat} (h : yCl P lat) : gchg P lat = false := by
  obtain ⟨h1, h2, h3⟩ := h
  unfold gchg
  rw [decide_eq_false (by omega), ogt_cl h2, Bool.false_or, Bool.false_or]
  have : ∀ n, n ≤ P.2.2.2.length → gchgE P.2.2.2 lat n = false := by
    intro n
    induction n with
    | zero => intro _; rfl
    | succ n ih =>
      intro hn
      rw [gchgE, ih (by omega), decide_eq_false (by have := (h3 n (by omega)).1; omega), ogt_cl (h3 n (by omega)).2]; rfl
  exact this _ (Nat.le_refl _)
/-- no page stands higher than this -/
def yLw (pg : Nat → Pg) : Prop := ∀ p, (pg p).1 ≤ 16
theorem yLw.up {pg : Nat → Pg} (h : yLw pg) {a : Nat} {P : Pg} (hP : P.1 ≤ 16) : yLw (va_up pg a P) := by
  intro p
  by_cases q : p = a
  · subst q; rw [va_up_self]; exact hP
  · rw [va_up_ne _ _ q]; exact h p
theorem yLw.mk {pg : Nat → Pg} (h : yLw pg) {made lev v : Nat} {li : qRw} (hl : lev ≤ 16) : yLw (tmkP pg made li lev v) := by
  unfold tmkP
  split
  · exact (h.up hl).up hl
  · exact h.up hl
theorem yLw.tch {pn : Nat → Option Nat} {lat v : Nat} {k : Int32} {lev : Nat} {s : TU} (h : yLw s.1) (hl : lev + 1 ≤ 16) : yLw (tch pn lat v k lev s).2.1 := by
  have h1 : yLw (tchP1 pn v lev s) := h.up (h _)
  unfold Jvm.Pilot.CPastTreeLaw_law_r3872_2fa00c.tch
  split
  · exact h1
  · split
    · exact h.up (h _)
    · split
      · show yLw (trrP (tchP1 pn v lev s) s.2.1 (tchL pn lat lev s) lev v)
        unfold trrP
        split
        · exact (h1.mk (by omega)).up hl
        · exact h1.mk (by omega)
      · show yLw (tmkP (trbP (tchP1 pn v lev s) s.2.1 (tps pn (lev + 1)) k lat v (tchL pn lat lev s)) s.2.1 (trbL (tchP1 pn v lev s) s.2.1 (tps pn (lev + 1)) k lat (tchL pn lat lev s)) lev v)
        refine yLw.mk ?_ (by omega)
        unfold trbP
        split
        · exact h1.up (h1 _)
        · exact h1
theorem yLw.tup {pn : Nat → Option Nat} {lat v : Nat} {k : Int32} : ∀ {n lev : Nat} {s : TU}, yLw s.1 → lev + n ≤ 16 → yLw (tup pn lat v k n lev s).1
  | 0, _, _, h, _ => h
  | n + 1, lev, s, h, hl => by
    have h1 := yLw.tch (pn := pn) (lat := lat) (v := v) (k := k) (lev := lev) h (by omega)
    rw [Jvm.Pilot.CPastTreeLaw_law_r3872_2fa00c.tup]
    split
    · exact yLw.tup h1 (by omega)
    · exact h1
theorem yLw.U {pg : Nat → Pg} (h : yLw pg) (made lat : Nat) (ro : Nat → Nat) (o : Int32 × Int64 × Bool) : yLw (yU pg made lat ro o).1 := by
  unfold yU tupd
  exact yLw.tup h (by omega)
theorem yLw.bk {pg : Nat → Pg} (h : yLw pg) (v n : Nat) : yLw (tbk pg v n) := by
  intro p
  unfold tbk
  split
  · exact h p
  · exact h p
/-- what the reference's next update asks -/
theorem yRk_of {pg : Nat → Pg} {made j : Nat} {ro : Nat → Nat} {o : Int32 × Int64 × Bool} (hi : yInv pg made j ro) (hl : yLw pg) (ho : yOn pg made j ro o) : yRk (pg, made, ro) j o := by
  obtain ⟨-, -, u3, u4⟩ := yupd hi ho.1 o.1 o.2.1 o.2.2
  obtain ⟨l, n, h1, -⟩ := hi.2.2.2.1 j (Nat.le_refl _)
  exact ⟨h1, fun p _ => by have := hl p; show (pg p).1 < 17; omega, u3, u4 ho.2⟩
/-- records done again give the version that the class goes back to -/
theorem yR_ag {pg : Nat → Pg} {made lat : Nat} {ro : Nat → Nat} {op : Nat → Int32 × Int64 × Bool} (h : yAll pg made lat ro op) {pgK : Nat → Pg} {madeK kp : Nat} (hk : yAg (yTp pg made kp) (yTm pg made kp) kp ro pgK madeK ro) (hl : yLw pgK) : ∀ t, kp + t ≤ lat →
    yAg (yTp pg made (kp + t)) (yTm pg made (kp + t)) (kp + t) ro (yR pgK madeK kp ro op t).1 (yR pgK madeK kp ro op t).2.1 (yR pgK madeK kp ro op t).2.2 ∧ yLw (yR pgK madeK kp ro op t).1
  | 0, _ => ⟨hk, hl⟩
  | t + 1, ht => by
    obtain ⟨i1, i2⟩ := yR_ag h hk hl t (by omega)
    have hinv := h.2.1 (kp + t) (by omega)
    obtain ⟨o1, o2⟩ := h.2.2 (kp + t) (by omega)
    refine ⟨?_, i2.U _ _ _ _⟩
    exact o2.symm.trans (yU_ag i1 hinv o1.1 _)
theorem yR_rk {pg : Nat → Pg} {made lat : Nat} {ro : Nat → Nat} {op : Nat → Int32 × Int64 × Bool} (h : yAll pg made lat ro op) {pgK : Nat → Pg} {madeK kp : Nat} (hk : yAg (yTp pg made kp) (yTm pg made kp) kp ro pgK madeK ro) (hl : yLw pgK) (t : Nat) (ht : kp + t < lat) : yRk (yR pgK madeK kp ro op t) (kp + t) (op (kp + t)) := by
  obtain ⟨i1, i2⟩ := yR_ag h hk hl t (by omega)
  have hinv := h.2.1 (kp + t) (by omega)
  obtain ⟨o1, o2⟩ := h.2.2 (kp + t) (by omega)
  exact yRk_of (i1.inv hinv) i2 (o1.ag i1 hinv.1)
theorem MR.ag {X : qX} {m : Nat} {cd : Int32} {pg pg' : Nat → Pg} {made made' lat : Nat} {ro ro' : Nat → Nat} {pgK : Nat → Pg} {madeK : Nat} {D : Dk} {op : Nat → Int32 × Int64 × Bool} (h : MR X m cd pg made lat ro pgK madeK D op) (ha : yAg pg made lat ro pg' made' ro') : MR X m cd pg' made' lat ro' pgK madeK D op := by
  obtain ⟨s, I, J, h1, h2, ⟨t1, t2, t3, t4, t5, t6⟩, h4⟩ := h
  obtain ⟨rfl, a2, a3⟩ := ha
  exact ⟨s, I, J, h1, h2, ⟨t1, t2, t3, fun p hp => by rw [← a2 p hp]; exact t4 p hp, fun w hw => by rw [← a3 w hw]; exact t5 w hw, fun p hp => by rw [t6 p hp]; show bI (gchg (pg p) D.2.2.1) = bI (gchg (pg' p) D.2.2.1); rw [a2 p hp]⟩, h4⟩
/-- a new tree -/
theorem yAll_new (op : Nat → Int32 × Int64 × Bool) : yAll (fun _ => (0, 0, none, [])) 1 0 (fun _ => 0) op := by
  have hi : yInv (fun _ => (0, 0, none, [])) 1 0 (fun _ => 0) := by
    refine ⟨by omega, by omega, fun p hp => ⟨⟨Nat.le_refl _, fun t ht => (nomatch ht), fun i hi => absurd hi (Nat.not_lt_zero _)⟩, Nat.zero_le _⟩, fun w hw => ?_, fun w hw p hp hs => Or.inl (by show p = 0; omega)⟩
    obtain rfl : w = 0 := by omega
    exact ⟨0, 0, by show 0 < 1; omega, rfl, rfl, Or.inl rfl, ⟨List.Pairwise.nil, fun e he => (nomatch he), rfl⟩, Nat.le_refl _⟩
  refine ⟨hi, fun j hj => ?_, fun j hj => absurd hj (Nat.not_lt_zero _)⟩
  obtain rfl : j = 0 := by omega
  exact (yTr_cl hi).symm.inv hi
/-- a key that is there: the leaf's slot, and what is gathered -/
theorem ythere {pg : Nat → Pg} {made : Nat} {ro : Nat → Nat} {w : Nat} (hm : made ≤ 256) (hl : ∀ p, p < made → (pg p).2.2.2.length ≤ 16) (h : yGd pg made (ro w) w) (hw : w ≤ 767) (k : Int32) :
    mdOK pg made w k 16 (ro w) ∧ (∀ q, (tdes pg made ro q w k).1 = tlf pg made w k 16 (ro w)) ∧
    ((gslot (pg (tlf pg made w k 16 (ro w))) k w = none ∧ cgat pg made ro w k k 2147483647 = []) ∨ ∃ i, gslot (pg (tlf pg made w k 16 (ro w))) k w = some i ∧ cgat pg made ro w k k 2147483647 = [(k, (en (pg (tlf pg made w k 16 (ro w))).2.2.2 i).2.2.2)]) := by
  obtain ⟨p, a, b, d1, d2, d3, d4, d5, d6, d7, d8, d9, d10⟩ := ydown hm hl h (by omega) k
  obtain ⟨-, hc⟩ := ygatA hm hl h hw k k
  have hK := (yKs_spec hm h).1
  refine ⟨d7, fun q => by rw [d8]; exact (d10 q).1, ?_⟩
  rw [d8, hc]
  have hf : (yKs pg (ro w) w).filter (yBt k k) = (yal (pg p).2.2.2 w).filter (yBt k k) := by
    rw [d6, List.filter_filter]
    refine List.filter_congr (fun e _ => ?_)
    by_cases q : yBt k k e = true
    · have := of_decide_eq_true q
      rw [q, show yIn a b e = true from decide_eq_true (by omega)]; rfl
    · have q' : yBt k k e = false := by cases hq : yBt k k e; rfl; exact absurd hq q
      rw [q']; rfl
  rw [hf]
  have hkey : ∀ e : Int32 × Int64, yBt k k e = true ↔ e.1 = k := by
    intro e
    unfold yBt
    refine ⟨fun q => Int32.toInt_inj.mp (by have := of_decide_eq_true q; omega), fun q => decide_eq_true (by rw [q]; omega)⟩
  rcases yslot (k := k) d3 with ⟨i, e1, e2, e3, e4, e5⟩ | ⟨e1, e2⟩
  · right
    refine ⟨i, e1, ?_⟩
    obtain ⟨A, C, hL⟩ := List.append_of_mem (yal_in e2 e3)
    have hs := d3
    rw [hL] at hs
    rw [hL, List.filter_append, List.filter_cons, if_pos ((hkey _).mpr e4)]
    have hA : A.filter (yBt k k) = [] := filter_none (fun x hx => by
      have hx' : x.1.toInt < (en (pg p).2.2.2 i).1.toInt := (ySS_app.mp hs).2.2 x hx _ List.mem_cons_self
      cases hq : yBt k k x
      · rfl
      · rw [(hkey x).mp hq, e4] at hx'; omega)
    have hC : C.filter (yBt k k) = [] := filter_none (fun x hx => by
      have hx' : (en (pg p).2.2.2 i).1.toInt < x.1.toInt := (List.pairwise_cons.mp (ySS_app.mp hs).2.1).1 x hx
      cases hq : yBt k k x
      · rfl
      · rw [(hkey x).mp hq, e4] at hx'; omega)
    rw [hA, hC, List.nil_append]
    show [yen (pg p).2.2.2 i] = _
    unfold yen
    rw [e4]
  · left
    refine ⟨e1, filter_none (fun x hx => ?_)⟩
    obtain ⟨t, t1, t2, rfl⟩ := yal_mem.mp hx
    cases hq : yBt k k ((en (pg p).2.2.2 t).1, (en (pg p).2.2.2 t).2.2.2)
    · rfl
    · exact absurd ((hkey _).mp hq) (e2 t t1 t2)
/-- always dense -/
theorem ytdns {pg : Nat → Pg} {made r w : Nat} (h : yDn pg made r w) : ∀ n, n ≤ made → tdns pg r w n = true
  | 0, _ => rfl
  | n + 1, hn => by
    rw [tdns, ytdns h n (by omega), Bool.true_and]
    by_cases q : gserves (pg n) w = true
    · rcases h n (by omega) q with z | z
      · rw [decide_eq_true z]; rfl
      · rw [decide_eq_true (show 3 ≤ gliving (pg n).2.2.2 w (pg n).2.2.2.length by rw [gliving_yal]; exact z), Bool.or_true, Bool.or_true]
    · have : gserves (pg n) w = false := by cases hq : gserves (pg n) w; rfl; exact absurd hq q
      rw [this]; simp
theorem ytdb {pg : Nat → Pg} {made lat : Nat} {ro : Nat → Nat} (h : ∀ w, w ≤ lat → yDn pg made (ro w) w) : ∀ (j b : Nat), b ≤ lat + 1 → lat + 1 ≤ b + j → tdb pg ro made lat j b = lat + 1
  | 0, b, h1, h2 => by rw [tdb]; omega
  | j + 1, b, h1, h2 => by
    rw [tdb]
    by_cases q : b ≤ lat
    · rw [if_pos ⟨q, ytdns (h b q) made (Nat.le_refl _)⟩]
      exact ytdb h j (b + 1) (by omega) (by omega)
    · rw [if_neg (fun z => q z.1)]; omega
