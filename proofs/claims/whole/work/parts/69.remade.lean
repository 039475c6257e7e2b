/-! a page below the root is remade: alone, or with its neighbour -/
section YE
variable {pg0 : Nat → Pg} {made0 lat : Nat} {ro0 : Nat → Nat} {k : Int32} {l : Nat} {pp : Nat → Nat} {lo hi : Nat → Int} {nn : Nat → Nat} {pn : Nat → Option Nat} {lev : Nat} {s : TU}
theorem yNbr (hc : yCx pg0 made0 lat ro0 k l pp lo hi nn pn) (h : yLI pg0 made0 lat ro0 l pp lo hi nn lev s) (hlt : lev < l) {nb : Nat} {a b : Int} {n n2 : Nat} {L : qRw} (hnb : yCh (yVw pg0 lat) made0 lev nb a b n2) (hd : hi lev ≤ a ∨ b ≤ lo lev)
    (h11 : yNB (yVw s.1 (lat + 1)) s.2.1 lev L (lo lev) (hi lev) n) :
    va_up s.1 (pp lev) (gdie (s.1 (pp lev)) (lat + 1)) nb = pg0 nb ∧
    yNB (yVw (va_up (va_up s.1 (pp lev) (gdie (s.1 (pp lev)) (lat + 1))) nb (gdie (pg0 nb) (lat + 1))) (lat + 1)) s.2.1 lev L (lo lev) (hi lev) n ∧
    yNB (yVw (va_up (va_up s.1 (pp lev) (gdie (s.1 (pp lev)) (lat + 1))) nb (gdie (pg0 nb) (lat + 1))) (lat + 1)) s.2.1 lev (yal (pg0 nb).2.2.2 lat) a b n2 ∧
    (∀ c, c < made0 → va_up (va_up s.1 (pp lev) (gdie (s.1 (pp lev)) (lat + 1))) nb (gdie (pg0 nb) (lat + 1)) c = pg0 c ∨ va_up (va_up s.1 (pp lev) (gdie (s.1 (pp lev)) (lat + 1))) nb (gdie (pg0 nb) (lat + 1)) c = gdie (pg0 c) (lat + 1) ∧ (pg0 c).1 < lev + 1 ∧ (pg0 c).2.2.1 = none ∧ yal (pg0 c).2.2.2 lat ≠ [] ∧ (yRng (yal (pg0 c).2.2.2 lat) (lo lev) (hi lev) ∨ yRng (yal (pg0 c).2.2.2 lat) a b)) ∧
    (∀ c, made0 ≤ c → c < s.2.1 → va_up (va_up s.1 (pp lev) (gdie (s.1 (pp lev)) (lat + 1))) nb (gdie (pg0 nb) (lat + 1)) c = s.1 c) := by
  obtain ⟨c1, c2, c3, c4, c5, c6, c7, c8, c9, c10, c11⟩ := id hc
  obtain ⟨h1, h2, h3, h4, h5, -⟩ := id h
  obtain ⟨p1, p2, p3, p4, p5, p6, p7⟩ := c4.1 lev (by omega)
  have p3' := (c4.2 lev hlt).1
  obtain ⟨d1, d2, d3, d4, d5⟩ := id hnb
  have hch : yCh (yVw pg0 lat) made0 lev (pp lev) (lo lev) (hi lev) (nn lev) := ⟨p1, p2, p3, p3', p4⟩
  have hne : nb ≠ pp lev := by
    intro q
    subst q
    rcases hd with q | q
    · exact hch.apart hnb q
    · exact hnb.apart hch q
  have ep : s.1 (pp lev) = pg0 (pp lev) := h.page hc h1 (Nat.le_refl _)
  have d2' : (pg0 nb).1 = lev := d2
  have en : s.1 nb = pg0 nb := by
    rcases h5 nb d1 with q | ⟨-, q, -⟩
    · exact q
    · omega
  have ev : ∀ c, c ≠ pp lev → c ≠ nb → va_up (va_up s.1 (pp lev) (gdie (s.1 (pp lev)) (lat + 1))) nb (gdie (pg0 nb) (lat + 1)) c = s.1 c := fun c q1 q2 => by rw [va_up_ne _ _ q2, va_up_ne _ _ q1]
  refine ⟨by rw [va_up_ne _ _ hne, en], ?_, ?_, fun c hcm => ?_, fun c q1 q2 => ev c (by omega) (by omega)⟩
  · refine yNB_frame (Nat.le_refl _) (fun c hcm => ?_) h11
    by_cases q1 : c = pp lev
    · right; left; show lev ≤ (s.1 c).1; rw [q1, ep, p2]; exact Nat.le_refl _
    · by_cases q2 : c = nb
      · right; left; show lev ≤ (s.1 c).1; rw [q2, en, d2']; exact Nat.le_refl _
      · exact Or.inl (yVw_eq (ev c q1 q2) _)
  · refine yNB_frame h2 (fun c hcm => ?_) d5
    by_cases q1 : c = pp lev
    · right; left; show lev ≤ (pg0 c).1; rw [q1, p2]; exact Nat.le_refl _
    · by_cases q2 : c = nb
      · right; left; show lev ≤ (pg0 c).1; rw [q2, d2']; exact Nat.le_refl _
      · rw [yVw_eq (ev c q1 q2)]
        rcases h.view hc hcm with q | ⟨⟨q3, q4⟩, q5⟩
        · exact Or.inl q
        · right; right
          cases hL : (yVw pg0 lat c).2.2 with
          | nil => exact absurd hL q3
          | cons e t =>
            rw [hL] at q4
            have := q4 e List.mem_cons_self
            exact ⟨e, List.mem_cons_self, by omega⟩
  · by_cases q1 : c = pp lev
    · subst q1
      right
      rw [va_up_ne _ _ (Ne.symm hne), va_up_self, ep]
      refine ⟨rfl, by omega, gserves_cl (c3 _ p1).1 p3, ?_, Or.inl p4.rng⟩
      intro q; rw [q] at p3'; simp at p3'
    · by_cases q2 : c = nb
      · subst q2
        right
        rw [va_up_self]
        refine ⟨rfl, by omega, gserves_cl (c3 _ d1).1 d3, ?_, Or.inr d5.rng⟩
        intro q
        have d4' : 3 ≤ (yal (pg0 c).2.2.2 lat).length := d4
        rw [q] at d4'; simp at d4'
      · rw [ev c q1 q2]
        rcases h5 c hcm with q | ⟨q3, q4, q5, q6, q7⟩
        · exact Or.inl q
        · exact Or.inr ⟨q3, by omega, q5, q6, Or.inl q7⟩
theorem yDs (hc : yCx pg0 made0 lat ro0 k l pp lo hi nn pn) (h : yLI pg0 made0 lat ro0 l pp lo hi nn lev s) (hlt : lev < l) :
    yLI pg0 made0 lat ro0 l pp lo hi nn (lev + 1) (tchD pn lat (lat + 1) k lev s) ∧
    (∃ i, trbO1 (tchP1 pn (lat + 1) lev s) (tps pn (lev + 1)) k lat = some i ∧ mentry (s.1 (tps pn (lev + 1))).2.2.2 lat (tps pn lev) (s.1 (tps pn (lev + 1))).2.2.2.length = some i) ∧
    ((tchL pn lat lev s).length < 5 → ∃ j c, trbO2 (tchP1 pn (lat + 1) lev s) (tps pn (lev + 1)) k lat (tchL pn lat lev s) = some j ∧ c < s.2.1 ∧ (en (s.1 (tps pn (lev + 1))).2.2.2 j).2.2.2 = lN c) ∧
    0 < (trbL (tchP1 pn (lat + 1) lev s) s.2.1 (tps pn (lev + 1)) k lat (tchL pn lat lev s)).length := by
  obtain ⟨c1, c2, c3, c4, c5, c6, c7, c8, c9, c10, c11⟩ := id hc
  obtain ⟨h1, h2, h3, h4, h5, h6, h7, h8, h9, h10, n, h11, h12, h13⟩ := id h
  obtain ⟨p1, p2, p3, p4, p5, p6, p7⟩ := c4.1 lev (by omega)
  obtain ⟨u1, u2, u3, u4, u5, u6, u7⟩ := c4.1 (lev + 1) (by omega)
  obtain ⟨p3', i, A, C, g1, g2, g3, g4, g5, g6, g7⟩ := c4.2 lev hlt
  have hlen := (c3 _ u1).2
  have ep : s.1 (pp lev) = pg0 (pp lev) := h.page hc h1 (Nat.le_refl _)
  have eq0 : s.1 (pp (lev + 1)) = pg0 (pp (lev + 1)) := h.page hc hlt (by omega)
  have hqp : pp (lev + 1) ≠ pp lev := by intro q; rw [q, p2] at u2; omega
  have eq1 : va_up s.1 (pp lev) (gdie (s.1 (pp lev)) (lat + 1)) (pp (lev + 1)) = pg0 (pp (lev + 1)) := by rw [va_up_ne _ _ hqp, eq0]
  have hL18 : (tlist (pg0 (pp lev)) lat (vO s.2.2.2.1) (vO s.2.2.2.2.1) s.2.2.2.2.2).length ≤ 18 := by
    unfold tlist
    rw [tlc_len]
    have := tls_len (pg0 (pp lev)).2.2.2 lat (vO s.2.2.2.1) (vO s.2.2.2.2.1) (pg0 (pp lev)).2.2.2.length
    have := (c3 _ p1).2
    omega
  have h13 := h13 hlt
  have etL := h.tcL hc
  have et0 := hc.tp h1
  have et1 : tps pn (lev + 1) = pp (lev + 1) := hc.tp hlt
  unfold tchD tchP1
  rw [etL, et0, et1, eq0]
  generalize hLL : tlist (pg0 (pp lev)) lat (vO s.2.2.2.1) (vO s.2.2.2.2.1) s.2.2.2.2.2 = L at h11 h13 hL18 ⊢
  have eO1 : trbO1 (va_up s.1 (pp lev) (gdie (s.1 (pp lev)) (lat + 1))) (pp (lev + 1)) k lat = some i := by unfold trbO1; rw [eq1]; exact g1
  have hsq : ySS (yal (pg0 (pp (lev + 1))).2.2.2 lat) := u4.ss
  have honce := ySg_once (made := made0) (by omega) u4.2.2.2
  have hment : mentry (pg0 (pp (lev + 1))).2.2.2 lat (pp lev) (pg0 (pp (lev + 1))).2.2.2.length = some i := by
    refine ymentry g3 g5 _ g2 (fun t t1 t2 t3 => ?_)
    have e := yonce_mem honce (yal_in t1 t2) (yal_in g2 g3) (by show (en _ t).2.2.2 = (en _ i).2.2.2; rw [t3, g5])
    exact yidx hsq t1 g2 t2 g3 (congrArg (fun z : Int32 × Int64 => z.1) e)
  have hdel : (yF (pg0 (pp (lev + 1))).2.2.2 lat (some i) none (pg0 (pp (lev + 1))).2.2.2.length).Perm (A ++ C) := by
    have e1 := (yF_del1 g3 g2).symm.trans (yal_perm (pg0 (pp (lev + 1))).2.2.2 lat).symm
    rw [g4] at e1
    exact List.Perm.cons_inv (e1.trans List.perm_middle)
  have hch : yCh (yVw pg0 lat) made0 lev (pp lev) (lo lev) (hi lev) (nn lev) := ⟨p1, p2, p3, p3', p4⟩
  have hnbr : ∃ j nb, gneigh (pg0 (pp (lev + 1))) (nI i) lat = some j ∧ nb < made0 ∧ (en (pg0 (pp (lev + 1))).2.2.2 j).2.2.2 = lN nb := by
    have fin : ∀ j, gneigh (pg0 (pp (lev + 1))) (nI i) lat = some j → j < (pg0 (pp (lev + 1))).2.2.2.length → alv (en (pg0 (pp (lev + 1))).2.2.2 j) lat = true → ∃ j nb, gneigh (pg0 (pp (lev + 1))) (nI i) lat = some j ∧ nb < made0 ∧ (en (pg0 (pp (lev + 1))).2.2.2 j).2.2.2 = lN nb := by
      intro j j1 j2 j3
      obtain ⟨c, a, b, n', t1, t2, -, -⟩ := ySg_mem (Bp := yCh (yVw pg0 lat) made0 lev) yCh.lt u4.2.2.2 (yal_in j2 j3)
      exact ⟨j, c, j1, t2.1, t1⟩
    cases C with
    | cons y C' =>
      obtain ⟨j, j1, j2, j3, j4⟩ := ynext hsq hlen g2 g4
      exact fin j (by unfold gneigh; rw [j1]) j2 j3
    | nil =>
      have hA : A ≠ [] := by
        intro q
        have h2' : 2 ≤ (yal (pg0 (pp (lev + 1))).2.2.2 lat).length := by
          by_cases z : lev + 1 < l
          · have := (c4.2 (lev + 1) z).1; omega
          · obtain rfl : lev + 1 = l := by omega
            exact c10 (by omega)
        rw [g4, q] at h2'; simp at h2'
      obtain ⟨A', z, rfl⟩ : ∃ A' z, A = A' ++ [z] := ⟨A.dropLast, A.getLast hA, (List.dropLast_concat_getLast hA).symm⟩
      obtain ⟨j, j1, j2, j3, j4⟩ := yprev hsq hlen g2 (A := A') (z := z) (by rw [g4])
      exact fin j j1 j2 j3
  refine ⟨?_, ⟨i, eO1, hment⟩, fun q5 => ?_, ?_⟩
  · -- the next level's turn
    by_cases hL5 : L.length < 5
    · -- with a neighbour
      have main : ∀ {A0 R0 C0 : qRw} {x0 : Int32 × Int64} {j nb : Nat} {a2 b2 : Int} {n2 : Nat} (M : qRw), gneigh (pg0 (pp (lev + 1))) (nI i) lat = some j → j < (pg0 (pp (lev + 1))).2.2.2.length → alv (en (pg0 (pp (lev + 1))).2.2.2 j) lat = true → j ≠ i →
          (en (pg0 (pp (lev + 1))).2.2.2 j).2.2.2 = lN nb → yCh (yVw pg0 lat) made0 lev nb a2 b2 n2 →
          yal (pg0 (pp (lev + 1))).2.2.2 lat = A0 ++ (x0 :: R0) ++ C0 → R0.length ≤ 1 → (yen (pg0 (pp (lev + 1))).2.2.2 i ∈ x0 :: R0) → (yen (pg0 (pp (lev + 1))).2.2.2 j ∈ x0 :: R0) → (∀ e ∈ x0 :: R0, e = yen (pg0 (pp (lev + 1))).2.2.2 i ∨ e = yen (pg0 (pp (lev + 1))).2.2.2 j) →
          (hi lev = a2 ∧ yLo A0 x0 (lo (lev + 1)) = lo lev ∧ yHi C0 (hi (lev + 1)) = b2 ∧ M = L ++ yal (pg0 nb).2.2.2 lat ∨ b2 = lo lev ∧ yLo A0 x0 (lo (lev + 1)) = a2 ∧ yHi C0 (hi (lev + 1)) = hi lev ∧ M = yal (pg0 nb).2.2.2 lat ++ L) →
          (∀ nR, yNB (yVw pg0 lat) made0 (lev + 1) (x0 :: R0) (yLo A0 x0 (lo (lev + 1))) (yHi C0 (hi (lev + 1))) nR → nR = nn lev + n2) →
          (A ++ C).Perm (yen (pg0 (pp (lev + 1))).2.2.2 j :: (A0 ++ C0)) → yMn ≤ a2 →
          yLI pg0 made0 lat ro0 l pp lo hi nn (lev + 1) (tmkP (trbP (va_up s.1 (pp lev) (gdie (s.1 (pp lev)) (lat + 1))) s.2.1 (pp (lev + 1)) k lat (lat + 1) L) s.2.1 (trbL (va_up s.1 (pp lev) (gdie (s.1 (pp lev)) (lat + 1))) s.2.1 (pp (lev + 1)) k lat L) lev (lat + 1), tmkN s.2.1 (trbL (va_up s.1 (pp lev) (gdie (s.1 (pp lev)) (lat + 1))) s.2.1 (pp (lev + 1)) k lat L), s.2.2.1, trbO1 (va_up s.1 (pp lev) (gdie (s.1 (pp lev)) (lat + 1))) (pp (lev + 1)) k lat, trbO2 (va_up s.1 (pp lev) (gdie (s.1 (pp lev)) (lat + 1))) (pp (lev + 1)) k lat L, rlow (tmkC s.2.1 (trbL (va_up s.1 (pp lev) (gdie (s.1 (pp lev)) (lat + 1))) s.2.1 (pp (lev + 1)) k lat L) lev (lat + 1)) (trbK (va_up s.1 (pp lev) (gdie (s.1 (pp lev)) (lat + 1))) (pp (lev + 1)) k lat L)) := by
        intro A0 R0 C0 x0 j nb a2 b2 n2 M j1 j2 j3 j4 j5 j6 j7 j8 j9 j10 j11 j12 j13 j14 j15
        have eO2 : trbO2 (va_up s.1 (pp lev) (gdie (s.1 (pp lev)) (lat + 1))) (pp (lev + 1)) k lat L = some j := by
          unfold trbO2
          rw [if_pos hL5, eO1, eq1]; exact j1
        have hlt2 := hch.lt
        have hd : hi lev ≤ a2 ∨ b2 ≤ lo lev := by
          rcases j12 with ⟨q, -⟩ | ⟨q, -⟩
          · exact Or.inl (by omega)
          · exact Or.inr (by omega)
        obtain ⟨b1, b2', b3, b4, b5⟩ := yNbr hc h hlt j6 hd h11
        have eN : trbN (va_up s.1 (pp lev) (gdie (s.1 (pp lev)) (lat + 1))) s.2.1 (pp (lev + 1)) k lat L = nb := by
          unfold trbN
          rw [eO2, eq1, show vO (some j) = nI j from rfl, gwhatAt_nI j2 hlen, j5, tpn_of (by have := j6.1; omega) (by omega)]
        have eP : trbP (va_up s.1 (pp lev) (gdie (s.1 (pp lev)) (lat + 1))) s.2.1 (pp (lev + 1)) k lat (lat + 1) L = va_up (va_up s.1 (pp lev) (gdie (s.1 (pp lev)) (lat + 1))) nb (gdie (pg0 nb) (lat + 1)) := by
          unfold trbP
          rw [if_pos hL5, eN, b1]
        have hlt3 := j6.lt
        have hMN : ∃ nM, yNB (yVw (va_up (va_up s.1 (pp lev) (gdie (s.1 (pp lev)) (lat + 1))) nb (gdie (pg0 nb) (lat + 1))) (lat + 1)) s.2.1 lev M (yLo A0 x0 (lo (lev + 1))) (yHi C0 (hi (lev + 1))) nM ∧ nM = n + n2 ∧ M.Perm (L ++ yal (pg0 nb).2.2.2 lat) := by
          rcases j12 with ⟨q1, q2, q3, q4⟩ | ⟨q1, q2, q3, q4⟩
          · refine ⟨n + n2, ?_, rfl, by rw [q4]⟩
            rw [q2, q3, q4]
            refine yNB_merge b2' (by rw [q1]; exact b3) ?_ p7 (by omega) (by omega)
            intro z; rw [z] at h13; simp at h13
          · refine ⟨n2 + n, ?_, by omega, by rw [q4]; exact List.perm_append_comm⟩
            rw [q2, q3, q4]
            refine yNB_merge b3 (by rw [q1]; exact b2') ?_ j15 (by omega) (by omega)
            intro z
            have d4 : 3 ≤ (yal (pg0 nb).2.2.2 lat).length := j6.2.2.2.1
            rw [z] at d4; simp at d4
        obtain ⟨nM, hM1, hM2, hM3⟩ := hMN
        have eL : trbL (va_up s.1 (pp lev) (gdie (s.1 (pp lev)) (lat + 1))) s.2.1 (pp (lev + 1)) k lat L = M := by
          unfold trbL
          rw [if_pos hL5, eN, b1]
          exact yWS_eq (ycopy_ws h11.ss.ws) hM1.ss ((ycopy_perm _ _ _).trans hM3.symm)
        have eK : trbK (va_up s.1 (pp lev) (gdie (s.1 (pp lev)) (lat + 1))) (pp (lev + 1)) k lat L = imin (en (pg0 (pp (lev + 1))).2.2.2 i).1 (en (pg0 (pp (lev + 1))).2.2.2 j).1 := by
          unfold trbK
          rw [if_pos hL5, eO2, eO1, eq1, show vO (some i) = nI i from rfl, show vO (some j) = nI j from rfl, gkeyAt_nI g2 hlen, gkeyAt_nI j2 hlen]
        have hMl : M.length = L.length + (yal (pg0 nb).2.2.2 lat).length := by rw [hM3.length_eq, List.length_append]
        have hnbl : (yal (pg0 nb).2.2.2 lat).length ≤ 16 := by
          have := mls_len (pg0 nb).2.2.2 lat none none [] (pg0 nb).2.2.2.length
          have := (c3 _ j6.1).2
          unfold yal
          simp only [List.length_nil] at *
          omega
        have d4 : 3 ≤ (yal (pg0 nb).2.2.2 lat).length := j6.2.2.2.1
        have hin : yLo A0 x0 (lo (lev + 1)) ≤ lo lev ∧ hi lev ≤ yHi C0 (hi (lev + 1)) ∧ yLo A0 x0 (lo (lev + 1)) ≤ a2 ∧ b2 ≤ yHi C0 (hi (lev + 1)) := by
          rcases j12 with ⟨q1, q2, q3, -⟩ | ⟨q1, q2, q3, -⟩
          · omega
          · omega
        have q4 := u4
        rw [j7] at q4
        obtain ⟨nA', nR', nC', -, -, kR, -⟩ := yNB_parts q4
        have im : (imin (en (pg0 (pp (lev + 1))).2.2.2 i).1 (en (pg0 (pp (lev + 1))).2.2.2 j).1).toInt ≤ (en (pg0 (pp (lev + 1))).2.2.2 i).1.toInt ∧ (imin (en (pg0 (pp (lev + 1))).2.2.2 i).1 (en (pg0 (pp (lev + 1))).2.2.2 j).1).toInt ≤ (en (pg0 (pp (lev + 1))).2.2.2 j).1.toInt ∧ yLo A0 x0 (lo (lev + 1)) ≤ (imin (en (pg0 (pp (lev + 1))).2.2.2 i).1 (en (pg0 (pp (lev + 1))).2.2.2 j).1).toInt := by
          have r1 : yLo A0 x0 (lo (lev + 1)) ≤ (en (pg0 (pp (lev + 1))).2.2.2 i).1.toInt := (kR.2.1 _ j9).1
          have r2 : yLo A0 x0 (lo (lev + 1)) ≤ (en (pg0 (pp (lev + 1))).2.2.2 j).1.toInt := (kR.2.1 _ j10).1
          unfold imin
          split
          · rename_i q
            have := Int32.lt_iff_toInt_lt.mp q
            omega
          · rename_i q
            have : ¬ (en (pg0 (pp (lev + 1))).2.2.2 j).1.toInt < (en (pg0 (pp (lev + 1))).2.2.2 i).1.toInt := fun z => q (Int32.lt_iff_toInt_lt.mpr z)
            omega
        rw [eP, eL, eO1, eO2, eK]
        refine yD0 hc h hlt j7 j8 hM1 (fun nR hnR => by rw [j13 nR hnR]; omega) (by omega) (by omega) (fun c hcm => ?_) b5 im.2.2 ?_ ⟨fun t ht => by cases ht; exact g2, fun t ht => by cases ht; exact g3⟩ ⟨fun t ht => by cases ht; exact j2, fun t ht => by cases ht; exact j3⟩ ?_
        · rcases b4 c hcm with q | ⟨q1, q2, q3, q4, q5⟩
          · exact Or.inl q
          · refine Or.inr ⟨q1, q2, q3, q4, ?_⟩
            rcases q5 with q | q
            · exact yRng_mono q hin.1 hin.2.1
            · exact yRng_mono q hin.2.2.1 hin.2.2.2
        · rcases kR.2.2.1 with q | q
          · exact Or.inl q
          · right
            have hx0 := q x0 R0 rfl
            rcases j11 x0 List.mem_cons_self with w | w
            · have : (en (pg0 (pp (lev + 1))).2.2.2 i).1.toInt = x0.1.toInt := by rw [w]
              omega
            · have : (en (pg0 (pp (lev + 1))).2.2.2 j).1.toInt = x0.1.toInt := by rw [w]
              omega
        · have e2 := (yF_del2 (o := some i) j3 (fun z => j4 (Option.some.inj z)) j2).symm.trans (hdel.trans j14)
          exact List.Perm.cons_inv e2
      -- the neighbour is behind, or before
      have hq4 := u4
      cases C with
      | cons y C' =>
        obtain ⟨j, j1, j2, j3, j4⟩ := ynext hsq hlen g2 g4
        have jn : gneigh (pg0 (pp (lev + 1))) (nI i) lat = some j := by unfold gneigh; rw [j1]
        have hL2 : yal (pg0 (pp (lev + 1))).2.2.2 lat = A ++ (yen (pg0 (pp (lev + 1))).2.2.2 i :: [y]) ++ C' := by rw [g4]; simp
        rw [hL2] at hq4
        obtain ⟨nA', nR', nC', -, -, kR, -, -, -, k7, k8, k9⟩ := yNB_parts hq4
        obtain ⟨ca, m, n1, n2, s1, s2, s3, s4, s5⟩ := kR.2.2.2
        obtain ⟨cb, s6, s7⟩ := ySg_one s4
        have hm : y.1.toInt = m := s3 y [] rfl
        have hca : ca = pp lev := (lN_eq (by have := s2.1; omega) (by omega)).mp (s1.symm.trans g5)
        subst hca
        have hhi : hi lev = m := by rw [g7]; exact hm
        refine main (L ++ yal (pg0 cb).2.2.2 lat) jn j2 j3 ?_ ?_ s7 hL2 (by simp) List.mem_cons_self (by rw [j4]; simp) ?_ (Or.inl ⟨hhi, g6.symm, rfl, rfl⟩) ?_ ?_ (by omega)
        · intro q
          subst q
          rw [g4] at hsq
          have := (List.pairwise_cons.mp (ySS_app.mp hsq).2.1).1 y List.mem_cons_self
          rw [← j4] at this
          exact absurd this (Int.lt_irrefl _)
        · have : (yen (pg0 (pp (lev + 1))).2.2.2 j).2 = lN cb := by rw [j4]; exact s6
          exact this
        · intro e he
          rcases List.mem_cons.mp he with q | q
          · exact Or.inl q
          · rw [List.mem_singleton] at q; right; rw [q, j4]
        · intro nR hnR
          obtain ⟨ca', m', n1', n2', t1, t2, t3, t4, t5⟩ := hnR.2.2.2
          obtain ⟨cb', t6, t7⟩ := ySg_one t4
          have e1 : ca' = pp lev := (lN_eq (by have := t2.1; omega) (by omega)).mp (t1.symm.trans g5)
          have e2 : cb' = cb := (lN_eq (by have := t7.1; omega) (by have := s7.1; omega)).mp (t6.symm.trans s6)
          subst e1 e2
          have := yNB_count (by omega) t2.2.2.2.2 p4
          have := yNB_count (by omega) t7.2.2.2.2 s7.2.2.2.2
          omega
        · rw [j4]; exact List.perm_middle
      | nil =>
        have hA : A ≠ [] := by
          intro q
          have h2' : 2 ≤ (yal (pg0 (pp (lev + 1))).2.2.2 lat).length := by
            by_cases z : lev + 1 < l
            · have := (c4.2 (lev + 1) z).1; omega
            · obtain rfl : lev + 1 = l := by omega
              exact c10 (by omega)
          rw [g4, q] at h2'; simp at h2'
        obtain ⟨A', z, rfl⟩ : ∃ A' z, A = A' ++ [z] := ⟨A.dropLast, A.getLast hA, (List.dropLast_concat_getLast hA).symm⟩
        obtain ⟨j, j1, j2, j3, j4⟩ := yprev hsq hlen g2 (A := A') (z := z) (by rw [g4])
        have hL2 : yal (pg0 (pp (lev + 1))).2.2.2 lat = A' ++ (z :: [yen (pg0 (pp (lev + 1))).2.2.2 i]) ++ [] := by rw [g4]; simp
        rw [hL2] at hq4
        obtain ⟨nA', nR', nC', -, -, kR, -, -, -, k7, k8, k9⟩ := yNB_parts hq4
        obtain ⟨cb, m, n1, n2, s1, s2, s3, s4, s5⟩ := kR.2.2.2
        obtain ⟨ca, s6, s7⟩ := ySg_one s4
        have hm : (en (pg0 (pp (lev + 1))).2.2.2 i).1.toInt = m := s3 _ [] rfl
        have hca : ca = pp lev := (lN_eq (by have := s7.1; omega) (by omega)).mp (s6.symm.trans g5)
        subst hca
        have hlo : m = lo lev := by
          rw [g6, ← hm]
          cases A' with
          | nil => rfl
          | cons w A' => rfl
        refine main (yal (pg0 cb).2.2.2 lat ++ L) j1 j2 j3 ?_ ?_ s2 hL2 (by simp) (by simp) (by rw [j4]; simp) ?_ (Or.inr ⟨hlo, rfl, g7.symm, rfl⟩) ?_ ?_ (by omega)
        · intro q
          subst q
          rw [g4] at hsq
          have : ylt z (yen (pg0 (pp (lev + 1))).2.2.2 j) := (ySS_app.mp hsq).2.2 _ (List.mem_append_right _ List.mem_cons_self) _ List.mem_cons_self
          rw [← j4] at this
          exact absurd this (Int.lt_irrefl _)
        · have : (yen (pg0 (pp (lev + 1))).2.2.2 j).2 = lN cb := by rw [j4]; exact s1
          exact this
        · intro e he
          rcases List.mem_cons.mp he with q | q
          · right; rw [q, j4]
          · rw [List.mem_singleton] at q; exact Or.inl q
        · intro nR hnR
          obtain ⟨cb', m', n1', n2', t1, t2, t3, t4, t5⟩ := hnR.2.2.2
          obtain ⟨ca', t6, t7⟩ := ySg_one t4
          have e1 : ca' = pp lev := (lN_eq (by have := t7.1; omega) (by omega)).mp (t6.symm.trans g5)
          have e2 : cb' = cb := (lN_eq (by have := t2.1; omega) (by have := s2.1; omega)).mp (t1.symm.trans s1)
          subst e1 e2
          have := yNB_count (by omega) t7.2.2.2.2 p4
          have := yNB_count (by omega) t2.2.2.2.2 s2.2.2.2.2
          omega
        · rw [j4, List.append_nil, List.append_nil]; exact List.perm_append_singleton _ _
    · -- alone
      have eO2 : trbO2 (va_up s.1 (pp lev) (gdie (s.1 (pp lev)) (lat + 1))) (pp (lev + 1)) k lat L = none := by unfold trbO2; rw [if_neg hL5]
      have eP : trbP (va_up s.1 (pp lev) (gdie (s.1 (pp lev)) (lat + 1))) s.2.1 (pp (lev + 1)) k lat (lat + 1) L = va_up s.1 (pp lev) (gdie (s.1 (pp lev)) (lat + 1)) := by unfold trbP; rw [if_neg hL5]
      have eL : trbL (va_up s.1 (pp lev) (gdie (s.1 (pp lev)) (lat + 1))) s.2.1 (pp (lev + 1)) k lat L = L := by unfold trbL; rw [if_neg hL5]
      have eK : trbK (va_up s.1 (pp lev) (gdie (s.1 (pp lev)) (lat + 1))) (pp (lev + 1)) k lat L = (en (pg0 (pp (lev + 1))).2.2.2 i).1 := by
        unfold trbK
        rw [if_neg hL5, eO1, eq1, show vO (some i) = nI i from rfl, gkeyAt_nI g2 hlen]
      have hL2 : yal (pg0 (pp (lev + 1))).2.2.2 lat = A ++ (yen (pg0 (pp (lev + 1))).2.2.2 i :: []) ++ C := by rw [g4]; simp
      have q4 := u4
      rw [hL2] at q4
      obtain ⟨nA', nR', nC', -, -, kR, -⟩ := yNB_parts q4
      rw [eP, eL, eO1, eO2, eK]
      have hfr : yNB (yVw (va_up s.1 (pp lev) (gdie (s.1 (pp lev)) (lat + 1))) (lat + 1)) s.2.1 lev L (lo lev) (hi lev) n := by
        refine yNB_frame (Nat.le_refl _) (fun c hcm => ?_) h11
        rcases yV_die hc h (fun p _ => rfl) hcm with q | ⟨q1, q2⟩
        · exact Or.inl q
        · exact Or.inr (Or.inl (by omega))
      refine yD0 hc h hlt hL2 (by simp) (by rw [← g6, ← g7]; exact hfr) (fun nR hnR => ?_) (by omega) (by omega) (fun c hcm => ?_) (fun c q1 q2 => va_up_ne _ _ (by omega)) (kR.2.1 _ List.mem_cons_self).1 ?_ ⟨fun t ht => by cases ht; exact g2, fun t ht => by cases ht; exact g3⟩ ⟨fun t ht => (nomatch ht), fun t ht => (nomatch ht)⟩ hdel
      · obtain ⟨ca', t6, t7⟩ := ySg_one hnR.2.2.2
        have e1 : ca' = pp lev := (lN_eq (by have := t7.1; omega) (by omega)).mp (t6.symm.trans g5)
        subst e1
        have := yNB_count (by omega) t7.2.2.2.2 p4
        omega
      · by_cases q1 : c = pp lev
        · subst q1
          right
          rw [va_up_self, ep, ← g6, ← g7]
          refine ⟨rfl, by omega, gserves_cl (c3 _ p1).1 p3, ?_, p4.rng⟩
          intro q; rw [q] at p3'; simp at p3'
        · rw [va_up_ne _ _ q1, ← g6, ← g7]
          rcases h5 c hcm with q | ⟨q3, q4, q5, q6, q7⟩
          · exact Or.inl q
          · exact Or.inr ⟨q3, by omega, q5, q6, q7⟩
      · rcases kR.2.2.1 with q | q
        · exact Or.inl q
        · right
          have : (en (pg0 (pp (lev + 1))).2.2.2 i).1.toInt = yLo A (yen (pg0 (pp (lev + 1))).2.2.2 i) (lo (lev + 1)) := q _ [] rfl
          omega
  · obtain ⟨j, nb, j1, j2, j3⟩ := hnbr
    refine ⟨j, nb, ?_, by omega, j3⟩
    unfold trbO2
    rw [if_pos q5, eO1, eq1]; exact j1
  · unfold trbL
    split
    · have := (ycopy_perm (va_up s.1 (pp lev) (gdie (s.1 (pp lev)) (lat + 1)) (trbN (va_up s.1 (pp lev) (gdie (s.1 (pp lev)) (lat + 1))) s.2.1 (pp (lev + 1)) k lat L)).2.2.2 lat L).length_eq
      rw [List.length_append] at this
      omega
    · omega
end YE
