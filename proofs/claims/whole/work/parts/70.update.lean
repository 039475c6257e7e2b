/-! an update: all levels -/
section YU
variable {pg0 : Nat → Pg} {made0 lat : Nat} {ro0 : Nat → Nat} {k : Int32} {l : Nat} {pp : Nat → Nat} {lo hi : Nat → Int} {nn : Nat → Nat} {pn : Nat → Option Nat} {lev : Nat} {s : TU}
theorem ystep (hc : yCx pg0 made0 lat ro0 k l pp lo hi nn pn) (h : yLI pg0 made0 lat ro0 l pp lo hi nn lev s) :
    tchOK pn lat (lat + 1) lev s ∧ ((0 < s.2.2.2.2.2.length ∨ ∃ i, s.2.2.2.1 = some i) → mchOK pn lat (lat + 1) k lev s) ∧
    ((tch pn lat (lat + 1) k lev s).1 = true → lev < l ∧ yLI pg0 made0 lat ro0 l pp lo hi nn (lev + 1) (tch pn lat (lat + 1) k lev s).2) ∧
    ((tch pn lat (lat + 1) k lev s).1 = false → yFin pg0 made0 lat ro0 (tch pn lat (lat + 1) k lev s).2) := by
  obtain ⟨c1, c2, c3, c4, c5, c6, c7, c8, c9, c10, c11⟩ := id hc
  obtain ⟨h1, h2, h3, h4, h5, h6, h7, h8, h9, h10, n, h11, h12, h13⟩ := id h
  obtain ⟨p1, p2, p3, p4, p5, p6, p7⟩ := c4.1 lev h1
  have ep : s.1 (pp lev) = pg0 (pp lev) := h.page hc h1 (Nat.le_refl _)
  have etL := h.tcL hc
  have et0 := hc.tp h1
  have hroot := h.isRoot hc
  have rA : tchA pn lat (lat + 1) lev s ↔ lev = l ∧ 0 < lev ∧ (tlist (pg0 (pp lev)) lat (vO s.2.2.2.1) (vO s.2.2.2.2.1) s.2.2.2.2.2).length = 1 := by
    unfold tchA; rw [etL, hroot]
  have rB : tchB pn lat (lat + 1) lev s ↔ (lev = l ∨ 3 ≤ (tlist (pg0 (pp lev)) lat (vO s.2.2.2.1) (vO s.2.2.2.2.1) s.2.2.2.2.2).length) ∧ (pg0 (pp lev)).2.2.2.length + s.2.2.2.2.2.length ≤ 16 := by
    unfold tchB; rw [etL, hroot, et0, ep]
  have hA : tchA pn lat (lat + 1) lev s → ∃ c, c < s.2.1 ∧ rv (tchL pn lat lev s) 0 = lN c ∧ yFin pg0 made0 lat ro0 (va_up s.1 (pp l) (gdie (s.1 (pp l)) (lat + 1)), s.2.1, va_up s.2.2.1 (lat + 1) c, s.2.2.2) := by
    intro q
    obtain ⟨q1, q2, q3⟩ := rA.mp q
    subst q1
    rw [etL]
    exact yA hc h q2 q3
  have hok : tchOK pn lat (lat + 1) lev s := by
    refine ⟨by rw [et0]; omega, by omega, by rw [et0, ep]; exact p2, by rw [et0, ep]; exact h7.1, by rw [et0, ep]; exact h8.1, fun q => ?_, fun q1 q2 q3 => ?_, fun q1 q2 q3 => ?_⟩
    · obtain ⟨c, q1, q2, -⟩ := hA q; exact ⟨c, q1, q2⟩
    · have := hroot.mp q3; omega
    · have hlt : lev < l := by
        rcases Nat.lt_or_ge lev l with z | z
        · exact z
        · exact absurd (hroot.mpr (by omega)) q3
      rw [hc.tp (j := lev + 1) hlt]
      have := (c4.1 (lev + 1) hlt).1
      omega
  refine ⟨hok, fun hch => ⟨hok, hch, fun q1 q2 q3 => ?_⟩, fun q => ?_, fun q => ?_⟩
  · have hlt : lev < l := by
      rcases Nat.lt_or_ge lev l with z | z
      · exact z
      · exact absurd (hroot.mpr (by omega)) q3
    exact (yDs hc h hlt).2
  · unfold tch at q ⊢
    by_cases a1 : tchA pn lat (lat + 1) lev s
    · rw [if_pos a1] at q; cases q
    · rw [if_neg a1] at q ⊢
      by_cases a2 : tchB pn lat (lat + 1) lev s
      · rw [if_pos a2] at q; cases q
      · rw [if_neg a2] at q ⊢
        by_cases a3 : tps pn lev = s.2.2.1 (lat + 1)
        · rw [if_pos a3] at q; cases q
        · rw [if_neg a3]
          have hlt : lev < l := by
            rcases Nat.lt_or_ge lev l with z | z
            · exact z
            · exact absurd (hroot.mpr (by omega)) a3
          exact ⟨hlt, (yDs hc h hlt).1⟩
  · unfold tch at q ⊢
    by_cases a1 : tchA pn lat (lat + 1) lev s
    · rw [if_pos a1]
      obtain ⟨c, q1, q2, q3⟩ := hA a1
      have hl := (rA.mp a1).1
      subst hl
      have e : tchP1 pn (lat + 1) lev s = va_up s.1 (pp lev) (gdie (s.1 (pp lev)) (lat + 1)) := by unfold tchP1; rw [et0]
      rw [q2, tpn_lN (by omega), e]
      exact q3
    · rw [if_neg a1] at q ⊢
      by_cases a2 : tchB pn lat (lat + 1) lev s
      · rw [if_pos a2]
        have := rB.mp a2
        rw [et0]
        exact yB hc h (fun z => a1 (rA.mpr z)) this.1 this.2
      · rw [if_neg a2] at q ⊢
        by_cases a3 : tps pn lev = s.2.2.1 (lat + 1)
        · rw [if_pos a3]
          have hl := hroot.mp a3
          subst hl
          have e : tchP1 pn (lat + 1) lev s = va_up s.1 (pp lev) (gdie (s.1 (pp lev)) (lat + 1)) := by unfold tchP1; rw [et0]
          unfold tchC
          rw [etL, e]
          exact yC hc h (fun z => a1 (rA.mpr ⟨rfl, z.1, z.2⟩)) _ (fun z => a2 (rB.mpr ⟨Or.inl rfl, z⟩))
        · rw [if_neg a3] at q; cases q
theorem yloop (hc : yCx pg0 made0 lat ro0 k l pp lo hi nn pn) : ∀ (n lev : Nat) (s : TU), l < lev + n → yLI pg0 made0 lat ro0 l pp lo hi nn lev s →
    tupOK pn lat (lat + 1) k n lev s ∧ ((0 < s.2.2.2.2.2.length ∨ ∃ i, s.2.2.2.1 = some i) → mupOK pn lat (lat + 1) k n lev s) ∧ yFin pg0 made0 lat ro0 (tup pn lat (lat + 1) k n lev s)
  | 0, lev, s, hl, h => by have := h.1; omega
  | n + 1, lev, s, hl, h => by
    obtain ⟨g1, g2, g3, g4⟩ := ystep hc h
    by_cases ht : (tch pn lat (lat + 1) k lev s).1 = true
    · obtain ⟨q1, q2⟩ := g3 ht
      obtain ⟨i1, i2, i3⟩ := yloop hc n (lev + 1) _ (by omega) q2
      have hco : 0 < (tch pn lat (lat + 1) k lev s).2.2.2.2.2.2.length := by
        rcases q2.2.2.2.2.2.2.2.2.2.1 with z | z
        · omega
        · exact z
      refine ⟨⟨g1, fun _ => i1⟩, fun hch => ⟨g2 hch, ⟨_, hc.2.2.2.2.2.2.2.2.1 lev h.1⟩, fun _ => ⟨by have := hc.2.1; omega, _, hc.2.2.2.2.2.2.2.2.1 (lev + 1) q1⟩, fun _ => i2 (Or.inl hco)⟩, ?_⟩
      rw [tup, if_pos ht]; exact i3
    · refine ⟨⟨g1, fun q => absurd q ht⟩, fun hch => ⟨g2 hch, ⟨_, hc.2.2.2.2.2.2.2.2.1 lev h.1⟩, fun hnr => ?_, fun q => absurd q ht⟩, ?_⟩
      · have hlt : lev < l := by
          rcases Nat.lt_or_ge lev l with z | z
          · exact z
          · exact absurd ((h.isRoot hc).mpr (by have := h.1; omega)) hnr
        exact ⟨by have := hc.2.1; omega, _, hc.2.2.2.2.2.2.2.2.1 (lev + 1) hlt⟩
      · rw [tup, if_neg ht]; exact g4 (by cases hq : (tch pn lat (lat + 1) k lev s).1; rfl; exact absurd hq ht)
end YU
theorem ySS_of_ne {L : qRw} (h : yWS L) (hn : L.Pairwise (fun a b => a.1 ≠ b.1)) : ySS L := by
  unfold ySS
  refine List.Pairwise.imp₂ ?_ h hn
  intro a b h1 h2
  have h1' : a.1.toInt ≤ b.1.toInt := h1
  have h3 : a.1.toInt ≠ b.1.toInt := fun q => h2 (Int32.toInt_inj.mp q)
  show a.1.toInt < b.1.toInt
  omega
theorem yF_sub {es : List Ent} {v : Nat} {o1 o2 : Option Nat} : ∀ n, (yF es v o1 o2 n).Sublist (yF es v none none n)
  | 0 => List.Sublist.refl _
  | n + 1 => by
    have ih := yF_sub (es := es) (v := v) (o1 := o1) (o2 := o2) n
    rw [yF, yF]
    by_cases hc : alv (en es n) v = true
    · rw [if_pos (show alv (en es n) v = true ∧ ¬ some n = none ∧ ¬ some n = none from ⟨hc, Option.some_ne_none _, Option.some_ne_none _⟩)]
      split
      · exact List.Sublist.append ih (List.Sublist.refl _)
      · exact ih.trans (List.sublist_append_left _ _)
    · rw [if_neg (fun q => hc q.1), if_neg (fun q => hc q.1)]; exact ih
/-- what the entry of a key is: found or not -/
theorem yslot {P : Pg} {k : Int32} {v : Nat} (hs : ySS (yal P.2.2.2 v)) :
    (∃ i, gslot P k v = some i ∧ i < P.2.2.2.length ∧ alv (en P.2.2.2 i) v = true ∧ (en P.2.2.2 i).1 = k ∧ ∀ t, t < P.2.2.2.length → alv (en P.2.2.2 t) v = true → (en P.2.2.2 t).1 = k → t = i) ∨
    (gslot P k v = none ∧ ∀ t, t < P.2.2.2.length → alv (en P.2.2.2 t) v = true → (en P.2.2.2 t).1 ≠ k) := by
  by_cases h : ∃ t, t < P.2.2.2.length ∧ alv (en P.2.2.2 t) v = true ∧ (en P.2.2.2 t).1 = k
  · obtain ⟨i, i1, i2, i3⟩ := h
    left
    have hu : ∀ t, t < P.2.2.2.length → alv (en P.2.2.2 t) v = true → (en P.2.2.2 t).1 = k → t = i := fun t t1 t2 t3 => yidx hs t1 i1 t2 i2 (t3.trans i3.symm)
    refine ⟨i, gslot_some i1 i2 i3 (fun t ht q => ?_), i1, i2, i3, hu⟩
    have := hu t (by omega) q.1 q.2
    omega
  · right
    refine ⟨gslot_none (fun t t1 q => h ⟨t, t1, q.1, q.2⟩), fun t t1 t2 t3 => h ⟨t, t1, t2, t3⟩⟩
