/-! the tree at a version: good; the way down -/
def yVw (pg : Nat → Pg) (w : Nat) : yV := fun p => ((pg p).1, gserves (pg p) w, yal (pg p).2.2.2 w)
/-- the way down to the leaf that stands for a key -/
def yPth (pg : Nat → Pg) (made lat : Nat) (k : Int32) (l : Nat) (pp : Nat → Nat) (lo hi : Nat → Int) (nn : Nat → Nat) : Prop :=
  (∀ j, j ≤ l → pp j < made ∧ (pg (pp j)).1 = j ∧ gserves (pg (pp j)) lat = true ∧ yNB (yVw pg lat) made j (yal (pg (pp j)).2.2.2 lat) (lo j) (hi j) (nn j) ∧ lo j ≤ k.toInt ∧ k.toInt < hi j ∧ yMn ≤ lo j) ∧
  (∀ j, j < l → 3 ≤ (yal (pg (pp j)).2.2.2 lat).length ∧ ∃ i A C, gstand (pg (pp (j + 1))) k lat = some i ∧ i < (pg (pp (j + 1))).2.2.2.length ∧ alv (en (pg (pp (j + 1))).2.2.2 i) lat = true ∧
    yal (pg (pp (j + 1))).2.2.2 lat = A ++ yen (pg (pp (j + 1))).2.2.2 i :: C ∧ (en (pg (pp (j + 1))).2.2.2 i).2.2.2 = lN (pp j) ∧ lo j = yLo A (yen (pg (pp (j + 1))).2.2.2 i) (lo (j + 1)) ∧ hi j = yHi C (hi (j + 1)))
theorem ySg_one {Bp : Nat → Int → Int → Nat → Prop} {x : Int32 × Int64} {a b : Int} {n : Nat} (h : ySg Bp [x] a b n) : ∃ c, x.2 = lN c ∧ Bp c a b n := by
  obtain ⟨c, m, n1, n2, h1, h2, h3, ⟨rfl, rfl⟩, rfl⟩ := h
  exact ⟨c, h1, h2⟩
theorem yNB_ne {V : yV} {made l : Nat} {L : qRw} {lo hi : Int} {n : Nat} (h : yNB V made (l + 1) L lo hi n) (hlt : lo < hi) : L ≠ [] := by
  intro q
  subst q
  have := h.2.2.2.1
  omega
/-- where the leaf's interval ends, as the walk tells it -/
def yFe (f : Int64) (h : Int) : Prop := f.toInt = h ∧ h < yMx ∨ f = 9223372036854775807 ∧ h = yMx
theorem ypath {pg : Nat → Pg} {made lat : Nat} {k : Int32} (hm : made ≤ 256) (hlen : ∀ p, p < made → (pg p).2.2.2.length ≤ 16) : ∀ {l p : Nat} {lo0 hi0 : Int} {n : Nat}, p < made → (pg p).1 = l → gserves (pg p) lat = true → l < 16 → yNB (yVw pg lat) made l (yal (pg p).2.2.2 lat) lo0 hi0 n → lo0 ≤ k.toInt → k.toInt < hi0 → yMn ≤ lo0 →
    ∃ pp lo hi nn, yPth pg made lat k l pp lo hi nn ∧ pp l = p ∧ lo l = lo0 ∧ hi l = hi0 ∧ nn l = n ∧
      ∀ fuel, l ≤ fuel → mdOK pg made lat k fuel p ∧ ∀ f q, (tdesc pg made lat k fuel p f q).1 = pp 0 ∧ (∀ j, j ≤ l → (tdesc pg made lat k fuel p f q).2.2 j = some (pp j)) ∧ (∀ j, l < j → (tdesc pg made lat k fuel p f q).2.2 j = q j) ∧ (yFe f hi0 → yFe (tdesc pg made lat k fuel p f q).2.1 (hi 0))
  | 0, p, lo0, hi0, n, h1, h2, h3, _, h4, h5, h6, h7 => by
    refine ⟨fun _ => p, fun _ => lo0, fun _ => hi0, fun _ => n, ⟨fun j hj => ?_, fun j hj => by omega⟩, rfl, rfl, rfl, rfl, fun fuel _ => ?_⟩
    · obtain rfl : j = 0 := by omega
      exact ⟨h1, h2, h3, h4, h5, h6, h7⟩
    · have e : ∀ f q, tdesc pg made lat k fuel p f q = (p, f, va_up q 0 (some p)) := by
        intro f q
        cases fuel with
        | zero => rw [tdesc, h2, if_pos (by omega)]
        | succ fuel => rw [tdesc, if_pos h2, h2, if_pos (by omega)]
      refine ⟨?_, fun f q => ?_⟩
      · cases fuel with
        | zero => exact ⟨h1, h2⟩
        | succ fuel => exact ⟨h1, Or.inl h2⟩
      · rw [e]
        refine ⟨rfl, fun j hj => ?_, fun j hj => va_up_ne _ _ (by omega), fun w => w⟩
        obtain rfl : j = 0 := by omega
        show va_up q 0 (some p) 0 = some p
        exact va_up_self _ _ _
  | l + 1, p, lo0, hi0, n, h1, h2, h3, h16, h4, h5, h6, h7 => by
    have hs := h4.ss
    have hne := yNB_ne h4 (by omega)
    obtain ⟨i, A, C, g1, g2, g3, g4, g5, g6⟩ := ystand (P := pg p) (k := k) (v := lat) hs hne
    have h4' := h4
    rw [g4, show A ++ yen (pg p).2.2.2 i :: C = A ++ (yen (pg p).2.2.2 i :: []) ++ C by simp] at h4'
    obtain ⟨nA, nR, nC, -, -, k3, -, -, -, k7, k8, k9⟩ := yNB_parts h4'
    obtain ⟨c, c1, c2⟩ := ySg_one k3.2.2.2
    obtain ⟨d1, d2, d3, d4, d5⟩ := c2
    have c1' : (en (pg p).2.2.2 i).2.2.2 = lN c := c1
    have b1 : yLo A (yen (pg p).2.2.2 i) lo0 ≤ k.toInt := by
      cases A with
      | nil => exact h5
      | cons y A => exact g5 (List.cons_ne_nil _ _)
    have b2 : k.toInt < yHi C hi0 := by
      cases C with
      | nil => exact h6
      | cons y C => exact g6 y List.mem_cons_self
    obtain ⟨pp, lo, hi, nn, ⟨r1, r2⟩, r3, r4, r5, r6, r7⟩ := ypath hm hlen d1 d2 d3 (by omega) d5 b1 b2 (by omega)
    refine ⟨va_up pp (l + 1) p, va_up lo (l + 1) lo0, va_up hi (l + 1) hi0, va_up nn (l + 1) n, ⟨fun j hj => ?_, fun j hj => ?_⟩, va_up_self _ _ _, va_up_self _ _ _, va_up_self _ _ _, va_up_self _ _ _, fun fuel hf => ?_⟩
    · by_cases hjl : j = l + 1
      · subst hjl
        rw [va_up_self, va_up_self, va_up_self, va_up_self]
        exact ⟨h1, h2, h3, h4, h5, h6, h7⟩
      · rw [va_up_ne _ _ hjl, va_up_ne _ _ hjl, va_up_ne _ _ hjl, va_up_ne _ _ hjl]
        exact r1 j (by omega)
    · have e0 : j ≠ l + 1 := by omega
      by_cases hjl : j = l
      · subst hjl
        rw [va_up_ne _ _ e0, va_up_ne _ _ e0, va_up_ne _ _ e0, va_up_self, va_up_self, va_up_self, r3, r4, r5]
        exact ⟨d4, i, A, C, g1, g2, g3, g4, c1', rfl, rfl⟩
      · have e1 : j + 1 ≠ l + 1 := by omega
        rw [va_up_ne _ _ e0, va_up_ne _ _ e0, va_up_ne _ _ e0, va_up_ne _ _ e1, va_up_ne _ _ e1, va_up_ne _ _ e1]
        exact r2 j (by omega)
    · obtain ⟨fuel, rfl⟩ : ∃ f, fuel = f + 1 := ⟨fuel - 1, by omega⟩
      obtain ⟨s1, s2⟩ := r7 fuel (by omega)
      refine ⟨⟨h1, Or.inr ⟨by omega, i, c, g1, d1, c1', s1⟩⟩, fun f q => ?_⟩
      have e : ∃ f', tdesc pg made lat k (fuel + 1) p f q = tdesc pg made lat k fuel c f' (va_up q (l + 1) (some p)) ∧ (yFe f hi0 → yFe f' (yHi C hi0)) := by
        rw [tdesc, if_neg (by omega), g1, show vO (some i) = nI i from rfl, gwhatAt_nI g2 (hlen p h1), c1', tpn_of d1 hm, h2, if_pos (by omega)]
        refine ⟨_, rfl, fun w => ?_⟩
        have hx := ynext hs (hlen p h1) g2 g4
        cases C with
        | nil =>
          have hx' : gnext (pg p) (nI i) lat = none := hx
          rw [hx']; exact w
        | cons y C =>
          obtain ⟨j, j1, j2, j3, j4⟩ := hx
          rw [j1]
          show yFe (gkeyAt (pg p) (nI j)).toInt64 y.1.toInt
          have jk : (en (pg p).2.2.2 j).1 = y.1 := congrArg (fun z : Int32 × Int64 => z.1) j4
          rw [gkeyAt_nI j2 (hlen p h1), jk]
          left
          refine ⟨Int32.toInt_toInt64 _, ?_⟩
          have := Int32.toInt_lt y.1
          exact this
      obtain ⟨f', e, e'⟩ := e
      rw [e]
      obtain ⟨t1, t2, t3, t4⟩ := s2 f' (va_up q (l + 1) (some p))
      refine ⟨by rw [t1, va_up_ne _ _ (by omega)], fun j hj => ?_, fun j hj => ?_, fun w => by rw [va_up_ne _ _ (by omega)]; exact t4 (e' w)⟩
      · by_cases hjl : j = l + 1
        · subst hjl
          rw [t3 _ (by omega), va_up_self, va_up_self]
        · rw [va_up_ne _ _ hjl]; exact t2 j (by omega)
      · rw [t3 j (by omega), va_up_ne _ _ (by omega)]
