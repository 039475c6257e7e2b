/-! pages that are made of a list; the root's turn -/
theorem gserves_new (lev v : Nat) (es : List Ent) : gserves (lev, v, none, es) v = true := by simp [gserves]
theorem nI_lN {n : Nat} (h : n < 256) : (nI n).toInt64 = lN n := nI_l (by omega)
theorem rk_0 {M : qRw} {x : Int32 × Int64} {t : qRw} (h : M = x :: t) : rk M 0 = x.1 := by rw [h]; rfl
theorem rk_mem {M : qRw} {i : Nat} (h : i < M.length) : (rk M i, rv M i) ∈ M := by
  have e : (rk M i, rv M i) = M[i] := by
    unfold rk rv
    rw [List.getD_eq_getElem?_getD, List.getElem?_eq_getElem h]
    rfl
  rw [e]; exact List.getElem_mem h
theorem rk_lt {M : qRw} (hs : ySS M) {i j : Nat} (hij : i < j) (hj : j < M.length) : (rk M i).toInt < (rk M j).toInt := by
  have := List.pairwise_iff_getElem.mp hs i j (by omega) hj hij
  unfold rk
  rw [List.getD_eq_getElem?_getD, List.getD_eq_getElem?_getD, List.getElem?_eq_getElem hj, List.getElem?_eq_getElem (show i < M.length by omega)]
  exact this
theorem rk_app {A C : qRw} {x : Int32 × Int64} : rk (A ++ x :: C) A.length = x.1 := by
  unfold rk
  rw [List.getD_eq_getElem?_getD, List.getElem?_append_right (Nat.le_refl _), Nat.sub_self]
  rfl
theorem thalf_two {n : Nat} (h : thalf n < n) : 10 < n ∧ 5 < thalf n ∧ 5 ≤ n - thalf n ∧ thalf n = (n + 1) / 2 := by
  unfold thalf at h ⊢
  split at h
  · rename_i q; rw [if_pos q]; omega
  · omega
theorem thalf_one {n : Nat} (h : ¬ thalf n < n) : n ≤ 10 ∧ thalf n = n := by
  unfold thalf at h ⊢
  split at h
  · omega
  · rename_i q; rw [if_neg q]; omega
theorem tmkP_lo (pg : Nat → Pg) (made : Nat) (M : qRw) (lev v : Nat) {p : Nat} (h : p < made) : tmkP pg made M lev v p = pg p := by
  unfold tmkP
  split
  · rw [va_up_ne _ _ (by omega), va_up_ne _ _ (by omega)]
  · rw [va_up_ne _ _ (by omega)]
theorem yMake {pgx : Nat → Pg} {made lev v : Nat} {M : qRw} {a b : Int} {n : Nat} (hM : yNB (yVw pgx v) made lev M a b n) (h5 : 5 ≤ M.length) (h20 : M.length ≤ 20) (hm : made + 2 ≤ 256) (ha : yMn ≤ a) :
    made < tmkN made M ∧ tmkN made M ≤ made + 2 ∧
    (∀ p, made ≤ p → p < tmkN made M → yNw (tmkP pgx made M lev v p) v ∧ 3 ≤ (yal (tmkP pgx made M lev v p).2.2.2 v).length) ∧
    ∃ T, tmkC made M lev v = (rk M 0, lN made) :: T ∧ T.length ≤ 1 ∧ ∀ kf : Int32, a ≤ kf.toInt → kf.toInt ≤ (rk M 0).toInt → (a = yMn ∨ kf.toInt = a) → yNB (yVw (tmkP pgx made M lev v) v) (tmkN made M) (lev + 1) ((kf, lN made) :: T) a b n := by
  have hs := hM.ss
  have hws := ysrt_of_WS hs.ws
  have hr := hM.rng
  have hfr : yNB (yVw (tmkP pgx made M lev v) v) (tmkN made M) lev M a b n := by
    refine yNB_frame (by unfold tmkN; split <;> omega) (fun c hc => Or.inl ?_) hM
    exact yVw_eq (tmkP_lo pgx made M lev v hc) v
  by_cases h2 : thalf M.length < M.length
  · obtain ⟨t1, t2, t3, t4⟩ := thalf_two h2
    have eN : tmkN made M = made + 2 := by unfold tmkN; rw [if_pos h2]
    have eP : tmkP pgx made M lev v = va_up (va_up pgx made (lev, v, none, gtk M v 0 (thalf M.length))) (made + 1) (lev, v, none, gtk M v (thalf M.length) (M.length - thalf M.length)) := by unfold tmkP; rw [if_pos h2]
    have e1 : tmkP pgx made M lev v made = (lev, v, none, gtk M v 0 (thalf M.length)) := by rw [eP, va_up_ne _ _ (by omega), va_up_self]
    have e2 : tmkP pgx made M lev v (made + 1) = (lev, v, none, gtk M v (thalf M.length) (M.length - thalf M.length)) := by rw [eP, va_up_self]
    have l1 : yal (gtk M v 0 (thalf M.length)) v = M.take (thalf M.length) := by rw [yal_gtk hs (by omega), List.drop_zero]
    have l2 : yal (gtk M v (thalf M.length) (M.length - thalf M.length)) v = M.drop (thalf M.length) := by
      rw [yal_gtk hs (by omega)]
      exact List.take_of_length_le (by rw [List.length_drop]; omega)
    have ll1 : (M.take (thalf M.length)).length = thalf M.length := by rw [List.length_take]; omega
    have ll2 : (M.drop (thalf M.length)).length = M.length - thalf M.length := List.length_drop
    refine ⟨by omega, by omega, fun p hp1 hp2 => ?_, [(rk M (thalf M.length), lN (made + 1))], ?_, by simp, fun kf k1 k2 k3 => ?_⟩
    · rcases (by omega : p = made ∨ p = made + 1) with q | q
      · rw [q, e1]
        refine ⟨yNw_gtk _ _ _ _ _ (by omega), ?_⟩
        show 3 ≤ (yal (gtk M v 0 (thalf M.length)) v).length
        rw [l1, ll1]; omega
      · rw [q, e2]
        refine ⟨yNw_gtk _ _ _ _ _ (by omega), ?_⟩
        show 3 ≤ (yal (gtk M v (thalf M.length) (M.length - thalf M.length)) v).length
        rw [l2, ll2]; omega
    · rw [tmkC_two made M lev v h2 hws h20, nI_lN (by omega), nI_lN (by omega)]
    · have hsplit : ∃ x C, M.drop (thalf M.length) = x :: C := by
        cases hd : M.drop (thalf M.length) with
        | nil => rw [hd] at ll2; simp at ll2; omega
        | cons x C => exact ⟨x, C, rfl⟩
      obtain ⟨x, C, hxC⟩ := hsplit
      have hMA : M = M.take (thalf M.length) ++ x :: C := by rw [← hxC, List.take_append_drop]
      have hne : M.take (thalf M.length) ≠ [] := by intro q; rw [q] at ll1; simp at ll1; omega
      have hkx : rk M (thalf M.length) = x.1 := by
        have := rk_app (A := M.take (thalf M.length)) (x := x) (C := C)
        rw [← hMA, ll1] at this; exact this
      have h := hfr
      rw [hMA] at h
      obtain ⟨n1, n2, s1, s2, s3⟩ := yNB_split h hne
      rw [← hMA] at s1 s2
      have kx : kf.toInt < x.1.toInt := by
        have := rk_lt hs (i := 0) (j := thalf M.length) (by omega) h2
        rw [hkx] at this; omega
      have xb : x.1.toInt < b := (s2.rng x List.mem_cons_self).2
      rw [hkx]
      refine ⟨?_, ?_, ?_, made, x.1.toInt, n1, n2, rfl, ?_, fun e t q => by cases q; rfl, ⟨made + 1, b, n2, 0, rfl, ?_, (fun e t q => (nomatch q)), ⟨rfl, rfl⟩, rfl⟩, s3⟩
      · refine List.pairwise_cons.mpr ⟨fun y hy => ?_, List.pairwise_singleton _ _⟩
        rw [List.mem_singleton] at hy; subst hy; exact kx
      · intro e he
        rcases List.mem_cons.mp he with q | q
        · rw [q]; exact ⟨k1, by show kf.toInt < b; omega⟩
        · rw [List.mem_singleton] at q; rw [q]; exact ⟨by show a ≤ x.1.toInt; omega, xb⟩
      · rcases k3 with q | q
        · exact Or.inl q
        · exact Or.inr (fun e t z => by cases z; exact q)
      · refine ⟨by omega, ?_, ?_, ?_, ?_⟩
        · show (tmkP pgx made M lev v made).1 = lev; rw [e1]
        · show gserves (tmkP pgx made M lev v made) v = true; rw [e1]; exact gserves_new _ _ _
        · show 3 ≤ (yal (tmkP pgx made M lev v made).2.2.2 v).length
          rw [e1]; show 3 ≤ (yal (gtk M v 0 (thalf M.length)) v).length
          rw [l1, ll1]; omega
        · show yNB _ _ lev (yal (tmkP pgx made M lev v made).2.2.2 v) a x.1.toInt n1
          rw [e1]; show yNB _ _ lev (yal (gtk M v 0 (thalf M.length)) v) a x.1.toInt n1
          rw [l1]; exact s1
      · refine ⟨by omega, ?_, ?_, ?_, ?_⟩
        · show (tmkP pgx made M lev v (made + 1)).1 = lev; rw [e2]
        · show gserves (tmkP pgx made M lev v (made + 1)) v = true; rw [e2]; exact gserves_new _ _ _
        · show 3 ≤ (yal (tmkP pgx made M lev v (made + 1)).2.2.2 v).length
          rw [e2]; show 3 ≤ (yal (gtk M v (thalf M.length) (M.length - thalf M.length)) v).length
          rw [l2, ll2]; omega
        · show yNB _ _ lev (yal (tmkP pgx made M lev v (made + 1)).2.2.2 v) x.1.toInt b n2
          rw [e2]; show yNB _ _ lev (yal (gtk M v (thalf M.length) (M.length - thalf M.length)) v) x.1.toInt b n2
          rw [l2, hxC]; exact s2
  · obtain ⟨t1, t2⟩ := thalf_one h2
    have eN : tmkN made M = made + 1 := by unfold tmkN; rw [if_neg h2]
    have eP : tmkP pgx made M lev v = va_up pgx made (lev, v, none, gtk M v 0 (thalf M.length)) := by unfold tmkP; rw [if_neg h2]
    have e1 : tmkP pgx made M lev v made = (lev, v, none, gtk M v 0 (thalf M.length)) := by rw [eP, va_up_self]
    have l1 : yal (gtk M v 0 (thalf M.length)) v = M := by
      rw [yal_gtk hs (by omega), List.drop_zero]
      exact List.take_of_length_le (by omega)
    refine ⟨by omega, by omega, fun p hp1 hp2 => ?_, [], ?_, by simp, fun kf k1 k2 k3 => ?_⟩
    · obtain rfl : p = made := by omega
      rw [e1]
      refine ⟨yNw_gtk _ _ _ _ _ (by omega), ?_⟩
      show 3 ≤ (yal (gtk M v 0 (thalf M.length)) v).length
      rw [l1]; omega
    · rw [tmkC_one made M lev v h2 (by omega), nI_lN (by omega)]
    · have hb := hr _ (rk_mem (M := M) (i := 0) (by omega))
      refine ⟨List.pairwise_singleton _ _, ?_, ?_, made, b, n, 0, rfl, ?_, (fun e t q => (nomatch q)), ⟨rfl, rfl⟩, rfl⟩
      · intro e he
        rw [List.mem_singleton] at he; rw [he]
        exact ⟨k1, by show kf.toInt < b; have : (rk M 0).toInt < b := hb.2; omega⟩
      · rcases k3 with q | q
        · exact Or.inl q
        · exact Or.inr (fun e t z => by cases z; exact q)
      · refine ⟨by omega, ?_, ?_, ?_, ?_⟩
        · show (tmkP pgx made M lev v made).1 = lev; rw [e1]
        · show gserves (tmkP pgx made M lev v made) v = true; rw [e1]; exact gserves_new _ _ _
        · show 3 ≤ (yal (tmkP pgx made M lev v made).2.2.2 v).length
          rw [e1]; show 3 ≤ (yal (gtk M v 0 (thalf M.length)) v).length
          rw [l1]; omega
        · show yNB _ _ lev (yal (tmkP pgx made M lev v made).2.2.2 v) a b n
          rw [e1]; show yNB _ _ lev (yal (gtk M v 0 (thalf M.length)) v) a b n
          rw [l1]; exact hfr
