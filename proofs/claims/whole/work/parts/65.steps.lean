/-! an update, level by level -/
def yNw (P : Pg) (v : Nat) : Prop := P.2.1 = v ∧ P.2.2.1 = none ∧ P.2.2.2.length ≤ 16 ∧ ∀ i, i < P.2.2.2.length → (en P.2.2.2 i).2.1 = v ∧ (en P.2.2.2 i).2.2.1 = none
theorem yNw_gtk (lev v : Nat) (R : qRw) (lo n : Nat) (hn : n ≤ 16) : yNw (lev, v, none, gtk R v lo n) v := by
  refine ⟨rfl, rfl, by show (gtk R v lo n).length ≤ 16; rw [gtk_len]; exact hn, fun i hi => ?_⟩
  have hi' : i < n := by have : i < (gtk R v lo n).length := hi; rw [gtk_len] at this; exact this
  show (en (gtk R v lo n) i).2.1 = v ∧ (en (gtk R v lo n) i).2.2.1 = none
  rw [en_gtk hi']; exact ⟨rfl, rfl⟩
theorem ytps {pn : Nat → Option Nat} {j i : Nat} (h : pn j = some i) (hj : j < 16) : tps pn j = i := by
  unfold tps
  rw [if_pos hj, h]; rfl
/-- a place of an entry that is alive, or none -/
def yoA (o : Option Nat) (es : List Ent) (v : Nat) : Prop := oLt o es.length ∧ ∀ i, o = some i → alv (en es i) v = true
/-- a version's tree is good -/
def yGd (pg : Nat → Pg) (made r w : Nat) : Prop := ∃ l n, r < made ∧ (pg r).1 = l ∧ gserves (pg r) w = true ∧ (l = 0 ∨ 2 ≤ (yal (pg r).2.2.2 w).length) ∧ yNB (yVw pg w) made l (yal (pg r).2.2.2 w) yMn yMx n ∧ n ≤ w
def yDn (pg : Nat → Pg) (made r w : Nat) : Prop := ∀ p, p < made → gserves (pg p) w = true → p = r ∨ 3 ≤ (yal (pg p).2.2.2 w).length
/-- the tree that an update begins with, and its way down -/
def yCx (pg0 : Nat → Pg) (made0 lat : Nat) (ro0 : Nat → Nat) (k : Int32) (l : Nat) (pp : Nat → Nat) (lo hi : Nat → Int) (nn : Nat → Nat) (pn : Nat → Option Nat) : Prop :=
  made0 + 2 * (l + 1) + 1 ≤ 256 ∧ l + 1 < 16 ∧ (∀ p, p < made0 → yCl (pg0 p) lat ∧ (pg0 p).2.2.2.length ≤ 16) ∧ yPth pg0 made0 lat k l pp lo hi nn ∧ pp l = ro0 lat ∧ lo l = yMn ∧ hi l = yMx ∧ nn l ≤ lat ∧ (∀ j, j ≤ l → pn j = some (pp j)) ∧
  (0 < l → 2 ≤ (yal (pg0 (pp l)).2.2.2 lat).length) ∧ yDn pg0 made0 (ro0 lat) lat
/-- what holds before a level's turn -/
def yLI (pg0 : Nat → Pg) (made0 lat : Nat) (ro0 : Nat → Nat) (l : Nat) (pp : Nat → Nat) (lo hi : Nat → Int) (nn : Nat → Nat) (lev : Nat) (s : TU) : Prop :=
  lev ≤ l ∧ made0 ≤ s.2.1 ∧ s.2.1 ≤ made0 + 2 * lev ∧ s.2.2.1 = va_up ro0 (lat + 1) (ro0 lat) ∧
  (∀ p, p < made0 → s.1 p = pg0 p ∨ s.1 p = gdie (pg0 p) (lat + 1) ∧ (pg0 p).1 < lev ∧ (pg0 p).2.2.1 = none ∧ yal (pg0 p).2.2.2 lat ≠ [] ∧ yRng (yal (pg0 p).2.2.2 lat) (lo lev) (hi lev)) ∧
  (∀ p, made0 ≤ p → p < s.2.1 → yNw (s.1 p) (lat + 1) ∧ 3 ≤ (yal (s.1 p).2.2.2 (lat + 1)).length) ∧
  yoA s.2.2.2.1 (pg0 (pp lev)).2.2.2 lat ∧ yoA s.2.2.2.2.1 (pg0 (pp lev)).2.2.2 lat ∧ s.2.2.2.2.2.length ≤ 2 ∧ (lev = 0 ∨ 0 < s.2.2.2.2.2.length) ∧
  ∃ n, yNB (yVw s.1 (lat + 1)) s.2.1 lev (tlist (pg0 (pp lev)) lat (vO s.2.2.2.1) (vO s.2.2.2.2.1) s.2.2.2.2.2) (lo lev) (hi lev) n ∧ n ≤ nn lev + 1 ∧ (lev < l → 2 ≤ (tlist (pg0 (pp lev)) lat (vO s.2.2.2.1) (vO s.2.2.2.2.1) s.2.2.2.2.2).length)
/-- what an update leaves -/
def yFin (pg0 : Nat → Pg) (made0 lat : Nat) (ro0 : Nat → Nat) (s : TU) : Prop :=
  made0 ≤ s.2.1 ∧ s.2.1 ≤ 256 ∧
  (∀ p, p < made0 → s.1 p = pg0 p ∨ s.1 p = gdie (pg0 p) (lat + 1) ∧ (pg0 p).2.2.1 = none ∨ ∃ o1 o2 co, s.1 p = tchGo (pg0 p) (lat + 1) o1 o2 co ∧ yoA o1 (pg0 p).2.2.2 lat ∧ yoA o2 (pg0 p).2.2.2 lat ∧ (pg0 p).2.2.2.length + co.length ≤ 16) ∧
  (∀ p, made0 ≤ p → p < s.2.1 → yNw (s.1 p) (lat + 1)) ∧ (∀ w, w ≤ lat → s.2.2.1 w = ro0 w) ∧
  yGd s.1 s.2.1 (s.2.2.1 (lat + 1)) (lat + 1) ∧ yDn s.1 s.2.1 (s.2.2.1 (lat + 1)) (lat + 1)
theorem yVw_up (pg : Nat → Pg) (p : Nat) (P : Pg) (w c : Nat) : yVw (va_up pg p P) w c = if c = p then (P.1, gserves P w, yal P.2.2.2 w) else yVw pg w c := by
  unfold yVw va_up
  by_cases h : c = p
  · rw [if_pos h, if_pos h]
  · rw [if_neg h, if_neg h]
theorem yVw_eq {pg pg' : Nat → Pg} {p : Nat} (h : pg' p = pg p) (w : Nat) : yVw pg' w p = yVw pg w p := by unfold yVw; rw [h]
section YS
variable {pg0 : Nat → Pg} {made0 lat : Nat} {ro0 : Nat → Nat} {k : Int32} {l : Nat} {pp : Nat → Nat} {lo hi : Nat → Int} {nn : Nat → Nat} {pn : Nat → Option Nat} {lev : Nat} {s : TU}
theorem yLI.view (hc : yCx pg0 made0 lat ro0 k l pp lo hi nn pn) (h : yLI pg0 made0 lat ro0 l pp lo hi nn lev s) {c : Nat} (hcm : c < made0) :
    yVw s.1 (lat + 1) c = yVw pg0 lat c ∨ (((yVw pg0 lat c).2.2 ≠ [] ∧ yRng (yVw pg0 lat c).2.2 (lo lev) (hi lev)) ∧ (yVw pg0 lat c).1 < lev) := by
  rcases h.2.2.2.2.1 c hcm with q | ⟨-, q2, -, q4, q5⟩
  · left
    rw [yVw_eq q, yVw_next (hc.2.2.1 c hcm).1]
  · right; exact ⟨⟨q4, q5⟩, q2⟩
theorem yLI.page (hc : yCx pg0 made0 lat ro0 k l pp lo hi nn pn) (h : yLI pg0 made0 lat ro0 l pp lo hi nn lev s) {j : Nat} (hj : j ≤ l) (hl : lev ≤ j) : s.1 (pp j) = pg0 (pp j) := by
  obtain ⟨q1, q2, -⟩ := hc.2.2.2.1.1 j hj
  rcases h.2.2.2.2.1 _ q1 with q | ⟨-, q, -⟩
  · exact q
  · omega
theorem yLI.tcL (hc : yCx pg0 made0 lat ro0 k l pp lo hi nn pn) (h : yLI pg0 made0 lat ro0 l pp lo hi nn lev s) : tchL pn lat lev s = tlist (pg0 (pp lev)) lat (vO s.2.2.2.1) (vO s.2.2.2.2.1) s.2.2.2.2.2 := by
  unfold tchL
  rw [ytps (hc.2.2.2.2.2.2.2.2.1 lev h.1) (by have := hc.2.1; have := h.1; omega), h.page hc h.1 (Nat.le_refl _)]
theorem yCx.tp (hc : yCx pg0 made0 lat ro0 k l pp lo hi nn pn) {j : Nat} (hj : j ≤ l) : tps pn j = pp j := ytps (hc.2.2.2.2.2.2.2.2.1 j hj) (by have := hc.2.1; omega)
theorem yCx.root (hc : yCx pg0 made0 lat ro0 k l pp lo hi nn pn) {j : Nat} (hj : j ≤ l) : pp j = ro0 lat ↔ j = l := by
  constructor
  · intro q
    have e1 := (hc.2.2.2.1.1 j hj).2.1
    have e2 := (hc.2.2.2.1.1 l (Nat.le_refl _)).2.1
    rw [hc.2.2.2.2.1] at e2
    rw [q, e2] at e1
    exact e1.symm
  · intro q; rw [q]; exact hc.2.2.2.2.1
theorem yLI.isRoot (hc : yCx pg0 made0 lat ro0 k l pp lo hi nn pn) (h : yLI pg0 made0 lat ro0 l pp lo hi nn lev s) : tps pn lev = s.2.2.1 (lat + 1) ↔ lev = l := by
  rw [hc.tp h.1, h.2.2.2.1, va_up_self]
  exact hc.root h.1
theorem yLI.ss {n : Nat} {V : yV} {m : Nat} {L : qRw} {a b : Int} (h : yNB V m lev L a b n) : ySS L := h.ss
/-- the page's entries are let go and come -/
theorem yB (hc : yCx pg0 made0 lat ro0 k l pp lo hi nn pn) (h : yLI pg0 made0 lat ro0 l pp lo hi nn lev s) (hA : ¬ (lev = l ∧ 0 < lev ∧ (tlist (pg0 (pp lev)) lat (vO s.2.2.2.1) (vO s.2.2.2.2.1) s.2.2.2.2.2).length = 1))
    (hB1 : lev = l ∨ 3 ≤ (tlist (pg0 (pp lev)) lat (vO s.2.2.2.1) (vO s.2.2.2.2.1) s.2.2.2.2.2).length) (hB2 : (pg0 (pp lev)).2.2.2.length + s.2.2.2.2.2.length ≤ 16) :
    yFin pg0 made0 lat ro0 (va_up s.1 (pp lev) (tchGo (s.1 (pp lev)) (lat + 1) s.2.2.2.1 s.2.2.2.2.1 s.2.2.2.2.2), s.2) := by
  obtain ⟨c1, c2, c3, c4, c5, c6, c7, c8, c9, c10, c11⟩ := id hc
  obtain ⟨h1, h2, h3, h4, h5, h6, h7, h8, h9, h10, n, h11, h12, h13⟩ := id h
  obtain ⟨p1, p2, p3, p4, p5, p6, p7⟩ := c4.1 lev h1
  have epp := h.page hc h1 (Nat.le_refl _)
  have hcl := c3 _ p1
  have eal := yal_go hcl.1 h7.1 h8.1 hcl.2 (co := s.2.2.2.2.2) h11.ss
  rw [epp]
  have hV : ∀ c, yVw (va_up s.1 (pp lev) (tchGo (pg0 (pp lev)) (lat + 1) s.2.2.2.1 s.2.2.2.2.1 s.2.2.2.2.2)) (lat + 1) c = if c = pp lev then (lev, true, tlist (pg0 (pp lev)) lat (vO s.2.2.2.1) (vO s.2.2.2.2.1) s.2.2.2.2.2) else yVw s.1 (lat + 1) c := by
    intro c
    rw [yVw_up, eal]
    by_cases hcp : c = pp lev
    · rw [if_pos hcp, if_pos hcp]
      have e1 : (tchGo (pg0 (pp lev)) (lat + 1) s.2.2.2.1 s.2.2.2.2.1 s.2.2.2.2.2).1 = lev := p2
      have e2 : gserves (tchGo (pg0 (pp lev)) (lat + 1) s.2.2.2.1 s.2.2.2.2.1 s.2.2.2.2.2) (lat + 1) = true := by
        have : gserves (tchGo (pg0 (pp lev)) (lat + 1) s.2.2.2.1 s.2.2.2.2.1 s.2.2.2.2.2) (lat + 1) = gserves (pg0 (pp lev)) (lat + 1) := rfl
        rw [this, gserves_next hcl.1]; exact p3
      rw [e1, e2]
    · rw [if_neg hcp, if_neg hcp]
  have hz : ∀ c, c < made0 → yVw (va_up s.1 (pp lev) (tchGo (pg0 (pp lev)) (lat + 1) s.2.2.2.1 s.2.2.2.2.1 s.2.2.2.2.2)) (lat + 1) c = yVw pg0 lat c ∨ (c = pp lev ∨ (yVw pg0 lat c).2.2 ≠ [] ∧ yRng (yVw pg0 lat c).2.2 (lo lev) (hi lev)) ∧ (yVw pg0 lat c).1 ≤ lev := by
    intro c hcm
    rw [hV]
    by_cases hcp : c = pp lev
    · right; subst hcp; exact ⟨Or.inl rfl, by show (pg0 (pp lev)).1 ≤ lev; omega⟩
    · rw [if_neg hcp]
      rcases h.view hc hcm with q | ⟨q1, q2⟩
      · exact Or.inl q
      · exact Or.inr ⟨Or.inr q1, by omega⟩
  have hVp := hV (pp lev)
  rw [if_pos rfl] at hVp
  have hNB : yNB (yVw (va_up s.1 (pp lev) (tchGo (pg0 (pp lev)) (lat + 1) s.2.2.2.1 s.2.2.2.2.1 s.2.2.2.2.2)) (lat + 1)) s.2.1 lev (tlist (pg0 (pp lev)) lat (vO s.2.2.2.1) (vO s.2.2.2.2.1) s.2.2.2.2.2) (lo lev) (hi lev) n := by
    refine yNB_frame (Nat.le_refl _) (fun c hcm => ?_) h11
    rw [hV]
    by_cases hcp : c = pp lev
    · right; left
      subst hcp
      show lev ≤ (s.1 (pp lev)).1
      rw [epp]; omega
    · rw [if_neg hcp]; exact Or.inl rfl
  have rootv : s.2.2.1 (lat + 1) = pp l := by rw [h4, va_up_self, c5]
  refine ⟨h2, by show s.2.1 ≤ 256; omega, fun p hp => ?_, fun p hp1 hp2 => ?_, fun w hw => ?_, ?_, ?_⟩
  · by_cases hpp : p = pp lev
    · subst hpp
      right; right
      exact ⟨_, _, _, va_up_self _ _ _, h7, h8, hB2⟩
    · have e : va_up s.1 (pp lev) (tchGo (pg0 (pp lev)) (lat + 1) s.2.2.2.1 s.2.2.2.2.1 s.2.2.2.2.2) p = s.1 p := va_up_ne _ _ hpp
      rcases h5 p hp with q | ⟨q1, -, q2, -⟩
      · exact Or.inl (e.trans q)
      · exact Or.inr (Or.inl ⟨e.trans q1, q2⟩)
  · show yNw (va_up s.1 _ _ p) _
    rw [va_up_ne _ _ (by omega)]
    exact (h6 p hp1 hp2).1
  · show s.2.2.1 w = ro0 w
    rw [h4, va_up_ne _ _ (by omega)]
  · show yGd _ s.2.1 (s.2.2.1 (lat + 1)) _
    rw [rootv]
    by_cases hll : lev = l
    · subst hll
      refine ⟨lev, n, by show pp lev < s.2.1; omega, ?_, ?_, ?_, ?_, by omega⟩
      · exact congrArg Prod.fst hVp
      · exact congrArg (fun z : Nat × Bool × qRw => z.2.1) hVp
      · have e : yal (va_up s.1 (pp lev) (tchGo (pg0 (pp lev)) (lat + 1) s.2.2.2.1 s.2.2.2.2.1 s.2.2.2.2.2) (pp lev)).2.2.2 (lat + 1) = tlist (pg0 (pp lev)) lat (vO s.2.2.2.1) (vO s.2.2.2.2.1) s.2.2.2.2.2 := congrArg (fun z : Nat × Bool × qRw => z.2.2) hVp
        show lev = 0 ∨ 2 ≤ (yal (va_up s.1 (pp lev) (tchGo (pg0 (pp lev)) (lat + 1) s.2.2.2.1 s.2.2.2.2.1 s.2.2.2.2.2) (pp lev)).2.2.2 (lat + 1)).length
        rw [e]
        rcases Nat.eq_zero_or_pos lev with q | q
        · exact Or.inl q
        · right
          obtain ⟨l', rfl⟩ : ∃ l', lev = l' + 1 := ⟨lev - 1, by omega⟩
          have hne := yNB_ne h11 (by omega)
          have : 0 < (tlist (pg0 (pp (l' + 1))) lat (vO s.2.2.2.1) (vO s.2.2.2.2.1) s.2.2.2.2.2).length := List.length_pos_iff.mpr hne
          have : ¬ (tlist (pg0 (pp (l' + 1))) lat (vO s.2.2.2.1) (vO s.2.2.2.2.1) s.2.2.2.2.2).length = 1 := fun z => hA ⟨rfl, q, z⟩
          omega
      · have e : yal (va_up s.1 (pp lev) (tchGo (pg0 (pp lev)) (lat + 1) s.2.2.2.1 s.2.2.2.2.1 s.2.2.2.2.2) (pp lev)).2.2.2 (lat + 1) = tlist (pg0 (pp lev)) lat (vO s.2.2.2.1) (vO s.2.2.2.2.1) s.2.2.2.2.2 := congrArg (fun z : Nat × Bool × qRw => z.2.2) hVp
        show yNB _ s.2.1 lev (yal (va_up s.1 (pp lev) (tchGo (pg0 (pp lev)) (lat + 1) s.2.2.2.1 s.2.2.2.2.1 s.2.2.2.2.2) (pp lev)).2.2.2 (lat + 1)) yMn yMx n
        rw [e, ← c6, ← c7]; exact hNB
    · have hlt : lev < l := by omega
      have p3' := (c4.2 lev hlt).1
      obtain ⟨n', t1, t2, t3, t4, t5⟩ := yFill (made1 := s.2.1) c4 h2 (by omega) (V1 := yVw (va_up s.1 (pp lev) (tchGo (pg0 (pp lev)) (lat + 1) s.2.2.2.1 s.2.2.2.2.1 s.2.2.2.2.2)) (lat + 1)) (l - lev) lev (by omega) (fun c hcm => by
        rcases hz c hcm with q | ⟨q | q, q'⟩
        · exact Or.inl q
        · right
          refine ⟨⟨?_, ?_⟩, q'⟩
          · subst q
            intro z
            have z' : yal (pg0 (pp lev)).2.2.2 lat = [] := z
            rw [z'] at p3'; simp at p3'
          · subst q; exact p4.rng
        · exact Or.inr ⟨q, q'⟩) n (by rw [hVp]; exact hNB) h12 (by rw [hVp]) (by rw [hVp]) (fun _ => by
          rw [hVp]
          rcases hB1 with q | q
          · omega
          · exact q)
      have e5 := t5 hlt
      refine ⟨l, n', by show pp l < s.2.1; have := (c4.1 l (Nat.le_refl _)).1; omega, t3, t4, ?_, ?_, by omega⟩
      · right
        have e : yal (va_up s.1 (pp lev) (tchGo (pg0 (pp lev)) (lat + 1) s.2.2.2.1 s.2.2.2.2.1 s.2.2.2.2.2) (pp l)).2.2.2 (lat + 1) = yal (pg0 (pp l)).2.2.2 lat := congrArg (fun z : Nat × Bool × qRw => z.2.2) e5
        show 2 ≤ (yal (va_up s.1 (pp lev) (tchGo (pg0 (pp lev)) (lat + 1) s.2.2.2.1 s.2.2.2.2.1 s.2.2.2.2.2) (pp l)).2.2.2 (lat + 1)).length
        rw [e]; exact c10 (by omega)
      · rw [← c6, ← c7]; exact t1
  · intro p hp hsv
    rw [show (va_up s.1 (pp lev) (tchGo (pg0 (pp lev)) (lat + 1) s.2.2.2.1 s.2.2.2.2.1 s.2.2.2.2.2), s.2).2.2.1 (lat + 1) = pp l from rootv]
    have hsv' : (yVw (va_up s.1 (pp lev) (tchGo (pg0 (pp lev)) (lat + 1) s.2.2.2.1 s.2.2.2.2.1 s.2.2.2.2.2)) (lat + 1) p).2.1 = true := hsv
    show p = pp l ∨ 3 ≤ (yVw (va_up s.1 (pp lev) (tchGo (pg0 (pp lev)) (lat + 1) s.2.2.2.1 s.2.2.2.2.1 s.2.2.2.2.2)) (lat + 1) p).2.2.length
    rw [hV] at hsv' ⊢
    by_cases hpp : p = pp lev
    · rw [if_pos hpp]
      rcases hB1 with q | q
      · left; rw [hpp, q]
      · exact Or.inr q
    · rw [if_neg hpp] at hsv' ⊢
      rcases Nat.lt_or_ge p made0 with q | q
      · rcases h5 p q with z | ⟨z, -⟩
        · rw [yVw_eq z, yVw_next (c3 p q).1] at hsv' ⊢
          rw [c5]; exact c11 p q hsv'
        · have : gserves (s.1 p) (lat + 1) = true := hsv'
          rw [z, gserves_die] at this; cases this
      · exact Or.inr (h6 p q hp).2
end YS
