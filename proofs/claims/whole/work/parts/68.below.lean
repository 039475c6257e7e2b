/-! a page below the root is remade -/
section YD
variable {pg0 : Nat → Pg} {made0 lat : Nat} {ro0 : Nat → Nat} {k : Int32} {l : Nat} {pp : Nat → Nat} {lo hi : Nat → Int} {nn : Nat → Nat} {pn : Nat → Option Nat} {lev : Nat} {s : TU}
theorem yD0 (hc : yCx pg0 made0 lat ro0 k l pp lo hi nn pn) (h : yLI pg0 made0 lat ro0 l pp lo hi nn lev s) (hlt : lev < l) {A0 R0 C0 M : qRw} {x0 : Int32 × Int64} {pgx : Nat → Pg} {nM : Nat} {kt : Int32} {o1 o2 : Option Nat}
    (hq : yal (pg0 (pp (lev + 1))).2.2.2 lat = A0 ++ (x0 :: R0) ++ C0) (hR : R0.length ≤ 1)
    (hM : yNB (yVw pgx (lat + 1)) s.2.1 lev M (yLo A0 x0 (lo (lev + 1))) (yHi C0 (hi (lev + 1))) nM)
    (hn : ∀ nR, yNB (yVw pg0 lat) made0 (lev + 1) (x0 :: R0) (yLo A0 x0 (lo (lev + 1))) (yHi C0 (hi (lev + 1))) nR → nM ≤ nR + 1)
    (h5 : 5 ≤ M.length) (h20 : M.length ≤ 20)
    (hx : ∀ c, c < made0 → pgx c = pg0 c ∨ pgx c = gdie (pg0 c) (lat + 1) ∧ (pg0 c).1 < lev + 1 ∧ (pg0 c).2.2.1 = none ∧ yal (pg0 c).2.2.2 lat ≠ [] ∧ yRng (yal (pg0 c).2.2.2 lat) (yLo A0 x0 (lo (lev + 1))) (yHi C0 (hi (lev + 1))))
    (hx2 : ∀ c, made0 ≤ c → c < s.2.1 → pgx c = s.1 c)
    (hk1 : yLo A0 x0 (lo (lev + 1)) ≤ kt.toInt) (hk2 : yLo A0 x0 (lo (lev + 1)) = yMn ∨ kt.toInt ≤ yLo A0 x0 (lo (lev + 1)))
    (ho1 : yoA o1 (pg0 (pp (lev + 1))).2.2.2 lat) (ho2 : yoA o2 (pg0 (pp (lev + 1))).2.2.2 lat)
    (hF : (yF (pg0 (pp (lev + 1))).2.2.2 lat o1 o2 (pg0 (pp (lev + 1))).2.2.2.length).Perm (A0 ++ C0)) :
    yLI pg0 made0 lat ro0 l pp lo hi nn (lev + 1) (tmkP pgx s.2.1 M lev (lat + 1), tmkN s.2.1 M, s.2.2.1, o1, o2, rlow (tmkC s.2.1 M lev (lat + 1)) kt) := by
  obtain ⟨c1, c2, c3, c4, c5, c6, c7, c8, c9, c10, c11⟩ := id hc
  obtain ⟨h1, h2, h3, h4, h5', h6, h7, h8, h9, h10, n, h11, h12, h13⟩ := id h
  obtain ⟨p1, p2, p3, p4, p5, p6, p7⟩ := c4.1 (lev + 1) (by omega)
  have q4 := p4
  rw [hq] at q4
  obtain ⟨nA, nR, nC, -, -, k3, -, -, k6, k7, k8, k9⟩ := yNB_parts q4
  obtain ⟨m1, m2, m3, T, m4, m5, m6⟩ := yMake hM h5 h20 (by omega) (by omega)
  have hM0 := (hM.rng _ (rk_mem (M := M) (i := 0) (by omega))).1
  have hM0' : yLo A0 x0 (lo (lev + 1)) ≤ (rk M 0).toInt := hM0
  have hkf : ∃ kf : Int32, rlow (tmkC s.2.1 M lev (lat + 1)) kt = (kf, lN s.2.1) :: T ∧ yLo A0 x0 (lo (lev + 1)) ≤ kf.toInt ∧ kf.toInt ≤ (rk M 0).toInt ∧ (yLo A0 x0 (lo (lev + 1)) = yMn ∨ kf.toInt = yLo A0 x0 (lo (lev + 1))) := by
    rw [m4]
    refine ⟨if kt < rk M 0 then kt else rk M 0, rfl, ?_, ?_, ?_⟩
    · split
      · exact hk1
      · exact hM0'
    · split
      · rename_i q; exact Int.le_of_lt (Int32.lt_iff_toInt_lt.mp q)
      · exact Int.le_refl _
    · rcases hk2 with q | q
      · exact Or.inl q
      · right
        split
        · omega
        · rename_i w
          have : ¬ kt.toInt < (rk M 0).toInt := fun z => w (Int32.lt_iff_toInt_lt.mpr z)
          omega
  obtain ⟨kf, f1, f2, f3, f4⟩ := hkf
  have hT := m6 kf f2 f3 f4
  have hz : ∀ c, c < made0 → yVw (tmkP pgx s.2.1 M lev (lat + 1)) (lat + 1) c = yVw pg0 lat c ∨ (yVw pg0 lat c).2.2 ≠ [] ∧ yRng (yVw pg0 lat c).2.2 (yLo A0 x0 (lo (lev + 1))) (yHi C0 (hi (lev + 1))) := by
    intro c hcm
    rcases hx c hcm with q | ⟨-, -, -, q4, q5⟩
    · left
      rw [yVw_eq ((tmkP_lo pgx s.2.1 M lev (lat + 1) (by omega)).trans q), yVw_next (c3 c hcm).1]
    · exact Or.inr ⟨q4, q5⟩
  obtain ⟨nR', r1, n', r2, r3⟩ := yNB_put (V1 := yVw (tmkP pgx s.2.1 M lev (lat + 1)) (lat + 1)) (made1 := tmkN s.2.1 M) (by omega) q4 p7 hz hT (List.cons_ne_nil _ _)
  have hnR := hn nR' r1
  have hperm : (tlist (pg0 (pp (lev + 1))) lat (vO o1) (vO o2) ((kf, lN s.2.1) :: T)).Perm (A0 ++ ((kf, lN s.2.1) :: T) ++ C0) := by
    refine (ytlist_perm ho1.1 ho2.1 (c3 _ p1).2 _).trans ?_
    refine (List.Perm.append_right _ hF).trans ?_
    rw [List.append_assoc, List.append_assoc]
    exact List.Perm.append_left _ List.perm_append_comm
  have htl : tlist (pg0 (pp (lev + 1))) lat (vO o1) (vO o2) ((kf, lN s.2.1) :: T) = A0 ++ ((kf, lN s.2.1) :: T) ++ C0 := yWS_eq (ytlist_ws ho1.1 ho2.1 (c3 _ p1).2 _) r2.ss hperm
  have hpn := (c3 _ p1).2
  refine ⟨by omega, by show made0 ≤ tmkN s.2.1 M; omega, by show tmkN s.2.1 M ≤ _; omega, h4, fun c hcm => ?_, fun c q1 q2 => ?_, ho1, ho2, ?_, Or.inr ?_, n', ?_, by omega, fun hl2 => ?_⟩
  · show tmkP pgx s.2.1 M lev (lat + 1) c = _ ∨ tmkP pgx s.2.1 M lev (lat + 1) c = _ ∧ _
    rw [tmkP_lo pgx s.2.1 M lev (lat + 1) (by omega)]
    rcases hx c hcm with q | ⟨q1, q2, q3, q4, q5⟩
    · exact Or.inl q
    · exact Or.inr ⟨q1, q2, q3, q4, yRng_mono q5 k7 k9⟩
  · rcases Nat.lt_or_ge c s.2.1 with q | q
    · show yNw (tmkP pgx s.2.1 M lev (lat + 1) c) _ ∧ 3 ≤ (yal (tmkP pgx s.2.1 M lev (lat + 1) c).2.2.2 _).length
      rw [tmkP_lo pgx s.2.1 M lev (lat + 1) q, hx2 c q1 q]
      exact h6 c q1 q
    · exact m3 c q q2
  · show (rlow (tmkC s.2.1 M lev (lat + 1)) kt).length ≤ 2
    rw [f1, List.length_cons]; omega
  · show 0 < (rlow (tmkC s.2.1 M lev (lat + 1)) kt).length
    rw [f1, List.length_cons]; omega
  · show yNB _ _ _ (tlist (pg0 (pp (lev + 1))) lat (vO o1) (vO o2) (rlow (tmkC s.2.1 M lev (lat + 1)) kt)) _ _ _
    rw [f1, htl]; exact r2
  · show 2 ≤ (tlist (pg0 (pp (lev + 1))) lat (vO o1) (vO o2) (rlow (tmkC s.2.1 M lev (lat + 1)) kt)).length
    rw [f1, htl]
    have h3' := (c4.2 (lev + 1) hl2).1
    rw [hq] at h3'
    simp only [List.length_append, List.length_cons] at h3' ⊢
    omega
end YD
