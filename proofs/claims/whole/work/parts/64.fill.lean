/-! one version behind another: what stays -/
theorem gserves_next {P : Pg} {lat : Nat} (h : yCl P lat) : gserves P (lat + 1) = gserves P lat := by
  obtain ⟨h1, h2, -⟩ := h
  obtain ⟨a, b, d, es⟩ := P
  dsimp only at h1 h2
  unfold gserves
  cases d with
  | none => simp [h1, show b ≤ lat + 1 by omega]
  | some t =>
    have := h2 t rfl
    simp [show ¬ lat < t by omega, show ¬ lat + 1 < t by omega]
theorem gserves_cl {P : Pg} {lat : Nat} (h : yCl P lat) (hs : gserves P lat = true) : P.2.2.1 = none := by
  obtain ⟨h1, h2, -⟩ := h
  obtain ⟨a, b, d, es⟩ := P
  dsimp only at h1 h2
  unfold gserves at hs
  cases d with
  | none => rfl
  | some t =>
    have := h2 t rfl
    simp [show ¬ lat < t by omega] at hs
theorem gserves_die (P : Pg) (v : Nat) : gserves (gdie P v) v = false := by simp [gserves, gdie]
theorem yVw_next {pg : Nat → Pg} {lat p : Nat} (h : yCl (pg p) lat) : yVw pg (lat + 1) p = yVw pg lat p := by
  unfold yVw
  rw [gserves_next h, yal_next h]
/-- how many keys stand below, it does not hang on intervals -/
theorem yNB_count {V : yV} {made : Nat} (hm : made ≤ 256) : ∀ {l : Nat} {L : qRw} {lo hi lo' hi' : Int} {n n' : Nat}, yNB V made l L lo hi n → yNB V made l L lo' hi' n' → n = n'
  | 0, L, _, _, _, _, n, n', h, h' => by rw [h.2.2, h'.2.2]
  | l + 1, L, lo, hi, lo', hi', n, n', h, h' => by
    have a := (yNB_succ.mp h).2.2.2
    have a' := (yNB_succ.mp h').2.2.2
    clear h h'
    revert lo lo' n n'
    induction L with
    | nil => intro lo lo' n n' a a'; rw [a.2, a'.2]
    | cons e t ih =>
      intro lo lo' n n' a a'
      obtain ⟨c, m, n1, n2, h1, h2, h3, h4, rfl⟩ := a
      obtain ⟨c', m', n1', n2', h1', h2', h3', h4', rfl⟩ := a'
      have : c = c' := (lN_eq (by have := h2.1; omega) (by have := h2'.1; omega)).mp (h1.symm.trans h1')
      subst this
      rw [ih _ _ _ _ h4 h4', yNB_count hm h2.2.2.2.2 h2'.2.2.2.2]
theorem yLo_hd {A : qRw} {x : Int32 × Int64} {lo : Int} : A = [] → yLo A x lo = lo := fun q => by rw [q]; rfl
theorem yHi_hd {C : qRw} {hi : Int} : C = [] → yHi C hi = hi := fun q => by rw [q]; rfl
/-- an entry list with a part put in the place of another, in a view where only pages inside that part's interval have changed -/
theorem yNB_put {V V1 : yV} {made made1 l : Nat} (hm : made ≤ made1) {A R C T : qRw} {x : Int32 × Int64} {lo hi : Int} {n n1 : Nat} (h : yNB V made (l + 1) (A ++ (x :: R) ++ C) lo hi n) (hlo : yMn ≤ lo)
    (hz : ∀ c, c < made → V1 c = V c ∨ (V c).2.2 ≠ [] ∧ yRng (V c).2.2 (yLo A x lo) (yHi C hi))
    (hT : yNB V1 made1 (l + 1) T (yLo A x lo) (yHi C hi) n1) (hT0 : T ≠ []) :
    ∃ nR, yNB V made (l + 1) (x :: R) (yLo A x lo) (yHi C hi) nR ∧ ∃ n', yNB V1 made1 (l + 1) (A ++ T ++ C) lo hi n' ∧ n' + nR = n + n1 := by
  obtain ⟨nA, nR, nC, g1, g2, g3, g4, g5, g6, g7, g8, g9⟩ := yNB_parts h
  refine ⟨nR, g3, nA + n1 + nC, yNB_join (fun q => yNB_frame hm (fun c hc => ?_) (g1 q)) (fun q => ⟨g2 q, yLo_hd q⟩) hT hT0 (fun q => yNB_frame hm (fun c hc => ?_) (g4 q)) (fun q => ⟨g5 q, yHi_hd q⟩) hlo g7 (by omega) g9, by omega⟩
  · rcases hz c hc with q | ⟨q1, q2⟩
    · exact Or.inl q
    · refine Or.inr (Or.inr ?_)
      cases hL : (V c).2.2 with
      | nil => exact absurd hL q1
      | cons e t =>
        rw [hL] at q2
        have := q2 e List.mem_cons_self
        exact ⟨e, List.mem_cons_self, by omega⟩
  · rcases hz c hc with q | ⟨q1, q2⟩
    · exact Or.inl q
    · refine Or.inr (Or.inr ?_)
      cases hL : (V c).2.2 with
      | nil => exact absurd hL q1
      | cons e t =>
        rw [hL] at q2
        have := q2 e List.mem_cons_self
        exact ⟨e, List.mem_cons_self, by omega⟩
theorem yPth.inner {pg : Nat → Pg} {made lat : Nat} {k : Int32} {l : Nat} {pp : Nat → Nat} {lo hi : Nat → Int} {nn : Nat → Nat} (h : yPth pg made lat k l pp lo hi nn) {j : Nat} (hj : j < l) : lo (j + 1) ≤ lo j ∧ hi j ≤ hi (j + 1) ∧ lo j < hi j := by
  obtain ⟨-, i, A, C, -, -, -, g4, -, g6, g7⟩ := h.2 j hj
  have hn := (h.1 (j + 1) (by omega)).2.2.2.1
  rw [g4, show A ++ yen (pg (pp (j + 1))).2.2.2 i :: C = A ++ (yen (pg (pp (j + 1))).2.2.2 i :: []) ++ C by simp] at hn
  obtain ⟨nA, nR, nC, -, -, -, -, -, -, k7, k8, k9⟩ := yNB_parts hn
  rw [g6, g7]
  exact ⟨k7, k9, k8⟩
/-- upwards, where nothing else changes -/
theorem yFill {pg : Nat → Pg} {made made1 lat : Nat} {k : Int32} {l : Nat} {pp : Nat → Nat} {lo hi : Nat → Int} {nn : Nat → Nat} (hP : yPth pg made lat k l pp lo hi nn) (hm : made ≤ made1) (hm2 : made ≤ 256) {V1 : yV} : ∀ (d lev : Nat), lev + d = l →
    (∀ c, c < made → V1 c = yVw pg lat c ∨ ((yVw pg lat c).2.2 ≠ [] ∧ yRng (yVw pg lat c).2.2 (lo lev) (hi lev)) ∧ (yVw pg lat c).1 ≤ lev) →
    ∀ n1, yNB V1 made1 lev (V1 (pp lev)).2.2 (lo lev) (hi lev) n1 → n1 ≤ nn lev + 1 → (V1 (pp lev)).1 = lev → (V1 (pp lev)).2.1 = true → (lev < l → 3 ≤ (V1 (pp lev)).2.2.length) →
    ∃ n, yNB V1 made1 l (V1 (pp l)).2.2 (lo l) (hi l) n ∧ n ≤ nn l + 1 ∧ (V1 (pp l)).1 = l ∧ (V1 (pp l)).2.1 = true ∧ (lev < l → V1 (pp l) = yVw pg lat (pp l))
  | 0, lev, hd, _, n1, h1, h2, h3, h4, _ => by
    obtain rfl : lev = l := by omega
    exact ⟨n1, h1, h2, h3, h4, fun q => absurd q (by omega)⟩
  | d + 1, lev, hd, hz, n1, h1, h2, h3, h4, h5 => by
    have hlt : lev < l := by omega
    obtain ⟨-, i, A, C, -, g2, -, g4, g5, g6, g7⟩ := hP.2 lev hlt
    obtain ⟨p1, p2, p3, p4, p5, p6, p7⟩ := hP.1 (lev + 1) (by omega)
    obtain ⟨q1, q2, q3, q4, q5, q6, q7⟩ := hP.1 lev (by omega)
    have up : V1 (pp (lev + 1)) = yVw pg lat (pp (lev + 1)) := by
      rcases hz _ p1 with q | ⟨-, q⟩
      · exact q
      · have : (yVw pg lat (pp (lev + 1))).1 = lev + 1 := p2
        omega
    have p4' := p4
    rw [g4, show A ++ yen (pg (pp (lev + 1))).2.2.2 i :: C = A ++ (yen (pg (pp (lev + 1))).2.2.2 i :: []) ++ C by simp] at p4'
    obtain ⟨nA, nR, nC, -, -, k3, -, -, -, -, k8, -⟩ := yNB_parts p4'
    have inn := hP.inner hlt
    have hT : yNB V1 made1 (lev + 1) [yen (pg (pp (lev + 1))).2.2.2 i] (yLo A (yen (pg (pp (lev + 1))).2.2.2 i) (lo (lev + 1))) (yHi C (hi (lev + 1))) n1 := by
      refine ⟨k3.1, k3.2.1, k3.2.2.1, pp lev, yHi C (hi (lev + 1)), n1, 0, g5, ?_, (fun e t q => (nomatch q)), ⟨rfl, rfl⟩, rfl⟩
      rw [← g6, ← g7]
      exact ⟨by omega, h3, h4, h5 hlt, h1⟩
    obtain ⟨nR', r1, n', r2, r3⟩ := yNB_put hm p4' p7 (fun c hc => by
      rcases hz c hc with q | ⟨q, -⟩
      · exact Or.inl q
      · rw [g6, g7] at q; exact Or.inr q) hT (List.cons_ne_nil _ _)
    obtain ⟨c, c1, c2⟩ := ySg_one r1.2.2.2
    have hc : c = pp lev := (lN_eq (by have := c2.1; omega) (by omega)).mp (c1.symm.trans g5)
    subst hc
    have hcnt : nR' = nn lev := yNB_count hm2 c2.2.2.2.2 q4
    have eL : (V1 (pp (lev + 1))).2.2 = A ++ [yen (pg (pp (lev + 1))).2.2.2 i] ++ C := by
      rw [up]; show yal (pg (pp (lev + 1))).2.2.2 lat = _; rw [g4]; simp
    obtain ⟨n, t1, t2, t3, t4, t5⟩ := yFill hP hm hm2 d (lev + 1) (by omega) (fun c hc => by
      rcases hz c hc with q | ⟨⟨q1, q2⟩, q3⟩
      · exact Or.inl q
      · exact Or.inr ⟨⟨q1, yRng_mono q2 inn.1 inn.2.1⟩, by omega⟩) n' (by rw [eL]; exact r2) (by omega) (by rw [up]; exact p2) (by rw [up]; exact p3) (fun q => by rw [up]; exact (hP.2 (lev + 1) q).1)
    refine ⟨n, t1, t2, t3, t4, fun _ => ?_⟩
    by_cases hq : lev + 1 < l
    · exact t5 hq
    · obtain rfl : lev + 1 = l := by omega
      exact up
theorem yF_del1 {es : List Ent} {v i : Nat} (ai : alv (en es i) v = true) : ∀ {n : Nat}, i < n → (yF es v none none n).Perm (yen es i :: yF es v (some i) none n)
  | 0, h => by omega
  | n + 1, h => by
    rw [yF, yF]
    by_cases hi : i = n
    · subst hi
      rw [if_pos ⟨ai, Option.some_ne_none _, Option.some_ne_none _⟩, if_neg (fun q => q.2.1 rfl)]
      have e : yF es v none none i = yF es v (some i) none i := yF_congr (fun j hj => ⟨⟨fun q => ⟨q.1, fun z => by cases z; omega, q.2.2⟩, fun q => ⟨q.1, Option.some_ne_none _, q.2.2⟩⟩, rfl, rfl⟩)
      rw [e]
      exact List.perm_append_singleton _ _
    · have ih := yF_del1 ai (n := n) (by omega)
      by_cases hc : alv (en es n) v = true
      · rw [if_pos ⟨hc, Option.some_ne_none _, Option.some_ne_none _⟩, if_pos ⟨hc, fun z => hi (Option.some.inj z).symm, Option.some_ne_none _⟩]
        exact List.Perm.append_right _ ih
      · rw [if_neg (fun q => hc q.1), if_neg (fun q => hc q.1)]; exact ih
theorem yF_del2 {es : List Ent} {v i : Nat} {o : Option Nat} (ai : alv (en es i) v = true) (ho : ¬ some i = o) : ∀ {n : Nat}, i < n → (yF es v o none n).Perm (yen es i :: yF es v o (some i) n)
  | 0, h => by omega
  | n + 1, h => by
    rw [yF, yF]
    by_cases hi : i = n
    · subst hi
      rw [if_pos ⟨ai, ho, Option.some_ne_none _⟩, if_neg (fun q => q.2.2 rfl)]
      have e : yF es v o none i = yF es v o (some i) i := yF_congr (fun j hj => ⟨⟨fun q => ⟨q.1, q.2.1, fun z => by cases z; omega⟩, fun q => ⟨q.1, q.2.1, Option.some_ne_none _⟩⟩, rfl, rfl⟩)
      rw [e]
      exact List.perm_append_singleton _ _
    · have ih := yF_del2 ai ho (n := n) (by omega)
      by_cases hc : alv (en es n) v = true ∧ ¬ some n = o
      · rw [if_pos ⟨hc.1, hc.2, Option.some_ne_none _⟩, if_pos ⟨hc.1, hc.2, fun z => hi (Option.some.inj z).symm⟩]
        exact List.Perm.append_right _ ih
      · rw [if_neg (fun q => hc ⟨q.1, q.2.1⟩), if_neg (fun q => hc ⟨q.1, q.2.1⟩)]; exact ih
theorem gliving_yal (es : List Ent) (v : Nat) : gliving es v es.length = (yal es v).length := by
  rw [(yal_perm es v).length_eq]
  have : ∀ n, gliving es v n = (yF es v none none n).length := by
    intro n
    induction n with
    | zero => rfl
    | succ n ih =>
      rw [gliving, yF, ih]
      by_cases hc : alv (en es n) v = true
      · rw [if_pos hc, if_pos ⟨hc, Option.some_ne_none _, Option.some_ne_none _⟩, List.length_append]; rfl
      · rw [if_neg hc, if_neg (fun q => hc q.1)]; rfl
  exact this _
