/-! the root's turn -/
section YR
variable {pg0 : Nat → Pg} {made0 lat : Nat} {ro0 : Nat → Nat} {k : Int32} {l : Nat} {pp : Nat → Nat} {lo hi : Nat → Int} {nn : Nat → Nat} {pn : Nat → Option Nat} {lev : Nat} {s : TU}
/-- the root has died: what is left to show -/
theorem yFinR (hc : yCx pg0 made0 lat ro0 k l pp lo hi nn pn) (h : yLI pg0 made0 lat ro0 l pp lo hi nn l s) {pg1 : Nat → Pg} {made1 r : Nat} (z : Option Nat × Option Nat × qRw)
    (e1 : ∀ p, p < s.2.1 → pg1 p = va_up s.1 (pp l) (gdie (s.1 (pp l)) (lat + 1)) p) (e2 : s.2.1 ≤ made1) (e3 : made1 ≤ 256)
    (e4 : ∀ p, s.2.1 ≤ p → p < made1 → yNw (pg1 p) (lat + 1) ∧ (p = r ∨ 3 ≤ (yal (pg1 p).2.2.2 (lat + 1)).length)) (e5 : yGd pg1 made1 r (lat + 1)) :
    yFin pg0 made0 lat ro0 (pg1, made1, va_up s.2.2.1 (lat + 1) r, z) := by
  obtain ⟨c1, c2, c3, c4, c5, c6, c7, c8, c9, c10, c11⟩ := id hc
  obtain ⟨h1, h2, h3, h4, h5, h6, h7, h8, h9, h10, n, h11, h12, h13⟩ := id h
  obtain ⟨p1, p2, p3, p4, p5, p6, p7⟩ := c4.1 l (Nat.le_refl _)
  have epp := h.page hc (Nat.le_refl _) (Nat.le_refl _)
  refine ⟨by show made0 ≤ made1; omega, e3, fun p hp => ?_, fun p hp1 hp2 => ?_, fun w hw => ?_, ?_, ?_⟩
  · have e := e1 p (by omega)
    by_cases hpp : p = pp l
    · subst hpp
      rw [va_up_self, epp] at e
      exact Or.inr (Or.inl ⟨e, gserves_cl (c3 _ p1).1 p3⟩)
    · rw [va_up_ne _ _ hpp] at e
      rcases h5 p hp with q | ⟨q1, -, q2, -⟩
      · exact Or.inl (e.trans q)
      · exact Or.inr (Or.inl ⟨e.trans q1, q2⟩)
  · rcases Nat.lt_or_ge p s.2.1 with q | q
    · have e := e1 p q
      rw [va_up_ne _ _ (by omega)] at e
      show yNw (pg1 p) _
      rw [e]; exact (h6 p hp1 q).1
    · exact (e4 p q hp2).1
  · show va_up s.2.2.1 (lat + 1) r w = ro0 w
    rw [va_up_ne _ _ (by omega), h4, va_up_ne _ _ (by omega)]
  · show yGd pg1 made1 (va_up s.2.2.1 (lat + 1) r (lat + 1)) (lat + 1)
    rw [va_up_self]; exact e5
  · show yDn pg1 made1 (va_up s.2.2.1 (lat + 1) r (lat + 1)) (lat + 1)
    rw [va_up_self]
    intro p hp hsv
    rcases Nat.lt_or_ge p s.2.1 with q | q
    · have e := e1 p q
      by_cases hpp : p = pp l
      · rw [e, hpp, va_up_self, gserves_die] at hsv; cases hsv
      · rw [va_up_ne _ _ hpp] at e
        rw [e] at hsv ⊢
        rcases Nat.lt_or_ge p made0 with t | t
        · rcases h5 p t with y | ⟨y, -⟩
          · rw [y] at hsv ⊢
            rw [gserves_next (c3 p t).1] at hsv
            rw [yal_next (c3 p t).1]
            rcases c11 p t hsv with x | x
            · exact absurd (x.trans c5.symm) hpp
            · exact Or.inr x
          · rw [y, gserves_die] at hsv; cases hsv
        · exact Or.inr (h6 p t q).2
    · exact (e4 p q hp).2
theorem yV_die (hc : yCx pg0 made0 lat ro0 k l pp lo hi nn pn) (h : yLI pg0 made0 lat ro0 l pp lo hi nn lev s) {pg1 : Nat → Pg} (e1 : ∀ p, p < s.2.1 → pg1 p = va_up s.1 (pp lev) (gdie (s.1 (pp lev)) (lat + 1)) p) {c : Nat} (hcm : c < s.2.1) :
    yVw pg1 (lat + 1) c = yVw s.1 (lat + 1) c ∨ c = pp lev ∧ (yVw s.1 (lat + 1) c).1 = lev := by
  by_cases hcp : c = pp lev
  · right
    refine ⟨hcp, ?_⟩
    show (s.1 c).1 = lev
    rw [hcp, h.page hc h.1 (Nat.le_refl _)]
    exact (hc.2.2.2.1.1 lev h.1).2.1
  · left
    refine yVw_eq ?_ _
    rw [e1 c hcm, va_up_ne _ _ hcp]
/-- the root has one page below it -/
theorem yA (hc : yCx pg0 made0 lat ro0 k l pp lo hi nn pn) (h : yLI pg0 made0 lat ro0 l pp lo hi nn l s) (hl : 0 < l) (h1 : (tlist (pg0 (pp l)) lat (vO s.2.2.2.1) (vO s.2.2.2.2.1) s.2.2.2.2.2).length = 1) :
    ∃ c, c < s.2.1 ∧ rv (tlist (pg0 (pp l)) lat (vO s.2.2.2.1) (vO s.2.2.2.2.1) s.2.2.2.2.2) 0 = lN c ∧ yFin pg0 made0 lat ro0 (va_up s.1 (pp l) (gdie (s.1 (pp l)) (lat + 1)), s.2.1, va_up s.2.2.1 (lat + 1) c, s.2.2.2) := by
  obtain ⟨c1, c2, c3, c4, c5, c6, c7, c8, c9, c10, c11⟩ := id hc
  obtain ⟨-, g2, g3, -, -, -, -, -, -, -, n, g11, g12, -⟩ := id h
  obtain ⟨l', rfl⟩ : ∃ l', l = l' + 1 := ⟨l - 1, by omega⟩
  generalize hL : tlist (pg0 (pp (l' + 1))) lat (vO s.2.2.2.1) (vO s.2.2.2.2.1) s.2.2.2.2.2 = L at h1 g11 ⊢
  match L, h1 with
  | [x], _ =>
    obtain ⟨c, x1, x2⟩ := ySg_one g11.2.2.2
    obtain ⟨d1, d2, d3, d4, d5⟩ := x2
    refine ⟨c, d1, x1, yFinR hc h _ (fun p _ => rfl) (Nat.le_refl _) (by omega) (fun p q1 q2 => by omega) ?_⟩
    have hcp : c ≠ pp (l' + 1) := by
      intro q
      have e : (s.1 c).1 = l' := d2
      rw [q, h.page hc (Nat.le_refl _) (Nat.le_refl _), (c4.1 (l' + 1) (Nat.le_refl _)).2.1] at e
      omega
    have ev : va_up s.1 (pp (l' + 1)) (gdie (s.1 (pp (l' + 1))) (lat + 1)) c = s.1 c := va_up_ne _ _ hcp
    refine ⟨l', n, d1, by rw [ev]; exact d2, by rw [ev]; exact d3, Or.inr (by rw [ev]; have : 3 ≤ (yal (s.1 c).2.2.2 (lat + 1)).length := d4; omega), ?_, by omega⟩
    rw [ev, ← c6, ← c7]
    refine yNB_frame (Nat.le_refl _) (fun c' hc' => ?_) d5
    rcases yV_die hc h (pg1 := va_up s.1 (pp (l' + 1)) (gdie (s.1 (pp (l' + 1))) (lat + 1))) (fun p _ => rfl) hc' with q | ⟨q1, q2⟩
    · exact Or.inl q
    · exact Or.inr (Or.inl (by omega))
/-- the root is remade -/
theorem yC (hc : yCx pg0 made0 lat ro0 k l pp lo hi nn pn) (h : yLI pg0 made0 lat ro0 l pp lo hi nn l s) (hA : ¬ (0 < l ∧ (tlist (pg0 (pp l)) lat (vO s.2.2.2.1) (vO s.2.2.2.2.1) s.2.2.2.2.2).length = 1)) (z : Option Nat × Option Nat × qRw)
    (hB : ¬ (pg0 (pp l)).2.2.2.length + s.2.2.2.2.2.length ≤ 16) :
    yFin pg0 made0 lat ro0 (trrP (va_up s.1 (pp l) (gdie (s.1 (pp l)) (lat + 1))) s.2.1 (tlist (pg0 (pp l)) lat (vO s.2.2.2.1) (vO s.2.2.2.2.1) s.2.2.2.2.2) l (lat + 1), trrN s.2.1 (tlist (pg0 (pp l)) lat (vO s.2.2.2.1) (vO s.2.2.2.2.1) s.2.2.2.2.2), va_up s.2.2.1 (lat + 1) (trrR s.2.1 (tlist (pg0 (pp l)) lat (vO s.2.2.2.1) (vO s.2.2.2.2.1) s.2.2.2.2.2)), z) := by
  obtain ⟨c1, c2, c3, c4, c5, c6, c7, c8, c9, c10, c11⟩ := id hc
  obtain ⟨-, g2, g3, -, -, -, g7, g8, g9, -, n, g11, g12, -⟩ := id h
  obtain ⟨p1, p2, p3, p4, p5, p6, p7⟩ := c4.1 l (Nat.le_refl _)
  have hlen : (tlist (pg0 (pp l)) lat (vO s.2.2.2.1) (vO s.2.2.2.2.1) s.2.2.2.2.2).length ≤ 18 := by
    unfold tlist
    rw [tlc_len]
    have := tls_len (pg0 (pp l)).2.2.2 lat (vO s.2.2.2.1) (vO s.2.2.2.2.1) (pg0 (pp l)).2.2.2.length
    have := (c3 _ p1).2
    omega
  generalize hL : tlist (pg0 (pp l)) lat (vO s.2.2.2.1) (vO s.2.2.2.2.1) s.2.2.2.2.2 = L at g11 hlen hA ⊢
  have fr : ∀ {pg1 : Nat → Pg} {m1 : Nat}, s.2.1 ≤ m1 → (∀ p, p < s.2.1 → pg1 p = va_up s.1 (pp l) (gdie (s.1 (pp l)) (lat + 1)) p) → yNB (yVw pg1 (lat + 1)) m1 l L (lo l) (hi l) n := by
    intro pg1 m1 hm1 e1
    refine yNB_frame hm1 (fun c' hc' => ?_) g11
    rcases yV_die hc h e1 hc' with q | ⟨q1, q2⟩
    · exact Or.inl q
    · exact Or.inr (Or.inl (by omega))
  by_cases h2 : thalf L.length < L.length
  · obtain ⟨t1, t2, t3, t4⟩ := thalf_two h2
    have eN : trrN s.2.1 L = s.2.1 + 3 := by unfold trrN; rw [if_pos h2]
    have eR : trrR s.2.1 L = s.2.1 + 2 := by unfold trrR; rw [if_pos h2]
    have eN2 : tmkN s.2.1 L = s.2.1 + 2 := by unfold tmkN; rw [if_pos h2]
    have eP : trrP (va_up s.1 (pp l) (gdie (s.1 (pp l)) (lat + 1))) s.2.1 L l (lat + 1) = va_up (tmkP (va_up s.1 (pp l) (gdie (s.1 (pp l)) (lat + 1))) s.2.1 L l (lat + 1)) (s.2.1 + 2) (l + 1, lat + 1, none, gtk (tmkC s.2.1 L l (lat + 1)) (lat + 1) 0 2) := by unfold trrP; rw [if_pos h2]
    rw [eN, eR, eP]
    have hM0 := fr (pg1 := va_up s.1 (pp l) (gdie (s.1 (pp l)) (lat + 1))) (Nat.le_refl _) (fun p _ => rfl)
    obtain ⟨m1, m2, m3, T, m4, m5, m6⟩ := yMake hM0 (by omega) (by omega) (by omega) p7
    have hs := g11.ss
    have hrk : lo l ≤ (rk L 0).toInt := (g11.rng _ (rk_mem (M := L) (i := 0) (by omega))).1
    have hco := m6 (rk L 0) hrk (Int.le_refl _) (Or.inl c6)
    rw [← m4] at hco
    have hcl : (tmkC s.2.1 L l (lat + 1)).length = 2 := by rw [tmkC_len, if_pos h2]
    have eal : yal (gtk (tmkC s.2.1 L l (lat + 1)) (lat + 1) 0 2) (lat + 1) = tmkC s.2.1 L l (lat + 1) := by
      rw [yal_gtk hco.ss (by omega), List.drop_zero]
      exact List.take_of_length_le (by omega)
    refine yFinR hc h z (fun p hp => ?_) (by omega) (by omega) (fun p q1 q2 => ?_) ?_
    · rw [va_up_ne _ _ (by omega), tmkP_lo _ _ _ _ _ hp]
    · by_cases hp : p = s.2.1 + 2
      · subst hp
        rw [va_up_self]
        exact ⟨yNw_gtk _ _ _ _ _ (by omega), Or.inl rfl⟩
      · rw [va_up_ne _ _ hp]
        have := m3 p q1 (by omega)
        exact ⟨this.1, Or.inr this.2⟩
    · refine ⟨l + 1, n, by omega, by rw [va_up_self], by rw [va_up_self]; exact gserves_new _ _ _, Or.inr ?_, ?_, by omega⟩
      · rw [va_up_self]; show 2 ≤ (yal (gtk (tmkC s.2.1 L l (lat + 1)) (lat + 1) 0 2) (lat + 1)).length
        rw [eal]; omega
      · rw [va_up_self]; show yNB _ _ _ (yal (gtk (tmkC s.2.1 L l (lat + 1)) (lat + 1) 0 2) (lat + 1)) _ _ _
        rw [eal, ← c6, ← c7]
        refine yNB_frame (by omega) (fun c' hc' => Or.inl (yVw_eq ?_ _)) hco
        rw [va_up_ne _ _ (by omega)]
  · obtain ⟨t1, t2⟩ := thalf_one h2
    have eN : trrN s.2.1 L = s.2.1 + 1 := by unfold trrN; rw [if_neg h2]
    have eR : trrR s.2.1 L = s.2.1 := by unfold trrR; rw [if_neg h2]
    have eP : trrP (va_up s.1 (pp l) (gdie (s.1 (pp l)) (lat + 1))) s.2.1 L l (lat + 1) = va_up (va_up s.1 (pp l) (gdie (s.1 (pp l)) (lat + 1))) s.2.1 (l, lat + 1, none, gtk L (lat + 1) 0 (thalf L.length)) := by unfold trrP tmkP; rw [if_neg h2, if_neg h2]
    rw [eN, eR, eP]
    have l1 : yal (gtk L (lat + 1) 0 (thalf L.length)) (lat + 1) = L := by
      rw [yal_gtk g11.ss (by omega), List.drop_zero]
      exact List.take_of_length_le (by omega)
    have e1 : ∀ p, p < s.2.1 → va_up (va_up s.1 (pp l) (gdie (s.1 (pp l)) (lat + 1))) s.2.1 (l, lat + 1, none, gtk L (lat + 1) 0 (thalf L.length)) p = va_up s.1 (pp l) (gdie (s.1 (pp l)) (lat + 1)) p := fun p hp => va_up_ne _ _ (by omega)
    refine yFinR hc h z e1 (by omega) (by omega) (fun p q1 q2 => ?_) ?_
    · obtain rfl : p = s.2.1 := by omega
      rw [va_up_self]
      exact ⟨yNw_gtk _ _ _ _ _ (by omega), Or.inl rfl⟩
    · refine ⟨l, n, by omega, by rw [va_up_self], by rw [va_up_self]; exact gserves_new _ _ _, ?_, ?_, by omega⟩
      · rw [va_up_self]; show l = 0 ∨ 2 ≤ (yal (gtk L (lat + 1) 0 (thalf L.length)) (lat + 1)).length
        rw [l1]
        rcases Nat.eq_zero_or_pos l with q | q
        · exact Or.inl q
        · right
          obtain ⟨l', rfl⟩ : ∃ l', l = l' + 1 := ⟨l - 1, by omega⟩
          have hne := yNB_ne g11 (by omega)
          have := List.length_pos_iff.mpr hne
          have : ¬ L.length = 1 := fun z => hA ⟨q, z⟩
          omega
      · rw [va_up_self]; show yNB _ _ _ (yal (gtk L (lat + 1) 0 (thalf L.length)) (lat + 1)) _ _ _
        rw [l1, ← c6, ← c7]
        exact fr (by omega) e1
end YR
