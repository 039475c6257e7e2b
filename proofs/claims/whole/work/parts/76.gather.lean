/-! keys gathered leaf by leaf -/
theorem yPth.less {pg : Nat → Pg} {made w : Nat} {k : Int32} {l : Nat} {pp : Nat → Nat} {lo hi : Nat → Int} {nn : Nat → Nat} (h : yPth pg made w k (l + 1) pp lo hi nn) : yPth pg made w k l pp lo hi nn := ⟨fun j hj => h.1 j (by omega), fun j hj => h.2 j (by omega)⟩
theorem yPth.mono {pg : Nat → Pg} {made w : Nat} {k : Int32} {pp : Nat → Nat} {lo hi : Nat → Int} {nn : Nat → Nat} : ∀ {l : Nat}, yPth pg made w k l pp lo hi nn → lo l ≤ lo 0 ∧ hi 0 ≤ hi l
  | 0, _ => ⟨Int.le_refl _, Int.le_refl _⟩
  | l + 1, h => by
    have := h.less.mono
    have := h.inner (show l < l + 1 by omega)
    omega
theorem ySS_pos {A C A' C' : qRw} {x : Int32 × Int64} (hs : ySS (A ++ x :: C)) (h : A ++ x :: C = A' ++ x :: C') : A = A' ∧ C = C' := by
  have hs' := hs
  rw [h] at hs'
  rcases List.append_eq_append_iff.mp h with ⟨D, e1, e2⟩ | ⟨D, e1, e2⟩
  · cases D with
    | nil => rw [List.append_nil] at e1; simp at e2; exact ⟨e1.symm, e2⟩
    | cons y D =>
      exfalso
      simp at e2
      have hx : x ∈ A' := by rw [e1, ← e2.1]; simp
      have := (ySS_app.mp hs').2.2 x hx x List.mem_cons_self
      omega
  · cases D with
    | nil => rw [List.append_nil] at e1; simp at e2; exact ⟨e1, e2.symm⟩
    | cons y D =>
      exfalso
      simp at e2
      have hx : x ∈ A := by rw [e1, ← e2.1]; simp
      have := (ySS_app.mp hs).2.2 x hx x List.mem_cons_self
      omega
/-- leaves lie side by side -/
theorem ygap {pg : Nat → Pg} {made w : Nat} {k k' : Int32} (hm : made ≤ 256) {pp pp' : Nat → Nat} {lo hi lo' hi' : Nat → Int} {nn nn' : Nat → Nat} : ∀ {l : Nat}, yPth pg made w k l pp lo hi nn → yPth pg made w k' l pp' lo' hi' nn' → pp l = pp' l → lo l = lo' l → hi l = hi' l → hi 0 ≤ k'.toInt → hi 0 ≤ lo' 0
  | 0, h, h', e1, e2, e3, hk => by
    have := (h'.1 0 (Nat.le_refl _)).2.2.2.2.2.1
    omega
  | l + 1, h, h', e1, e2, e3, hk => by
    obtain ⟨-, i, A, C, g1, g2, g3, g4, g5, g6, g7⟩ := h.2 l (by omega)
    obtain ⟨-, i', A', C', g1', g2', g3', g4', g5', g6', g7'⟩ := h'.2 l (by omega)
    rw [← e1] at g1' g2' g3' g4' g5' g6'
    have hs : ySS (yal (pg (pp (l + 1))).2.2.2 w) := (h.1 (l + 1) (Nat.le_refl _)).2.2.2.1.ss
    have m1 := h.less.mono
    have m2 := h'.less.mono
    have k1 := (h.1 0 (Nat.zero_le _)).2.2.2.2
    have k2 := (h'.1 l (by omega)).2.2.2.2
    have hL := g4.symm.trans g4'
    have hs1 := hs
    rw [g4] at hs1
    have hs2 := hs
    rw [g4'] at hs2
    have same : i = i' → hi 0 ≤ lo' 0 := by
      intro q
      subst q
      obtain ⟨rfl, rfl⟩ := ySS_pos hs1 hL
      have ep : pp l = pp' l := (lN_eq (by have := (h.1 l (by omega)).1; omega) (by have := (h'.1 l (by omega)).1; omega)).mp (g5.symm.trans g5')
      exact ygap hm h.less h'.less ep (by rw [g6, g6', e2]) (by rw [g7, g7', e3]) hk
    rcases List.append_eq_append_iff.mp hL with ⟨D, d1, d2⟩ | ⟨D, d1, d2⟩
    · cases D with
      | nil =>
        simp only [List.nil_append] at d2
        have := (List.cons.inj d2).1
        refine same (yidx hs g2 g2' g3 g3' (congrArg (fun z : Int32 × Int64 => z.1) this))
      | cons y D =>
        rw [List.cons_append] at d2
        obtain ⟨z1, z2⟩ := List.cons.inj d2
        have hA' : A' ≠ [] := by rw [d1]; simp
        have hlo' : lo' l = (en (pg (pp (l + 1))).2.2.2 i').1.toInt := by
          rw [g6']
          cases hq : A' with
          | nil => exact absurd hq hA'
          | cons _ _ => rfl
        have hhi : hi l ≤ (en (pg (pp (l + 1))).2.2.2 i').1.toInt := by
          rw [g7, z2]
          cases D with
          | nil => exact Int.le_refl _
          | cons u D =>
            show u.1.toInt ≤ _
            rw [z2] at hs1
            have s1 := (List.pairwise_cons.mp (ySS_app.mp hs1).2.1).2
            have := (List.pairwise_cons.mp s1).1 (yen (pg (pp (l + 1))).2.2.2 i') (by simp)
            exact Int.le_of_lt this
        omega
    · cases D with
      | nil =>
        simp only [List.nil_append] at d2
        have := (List.cons.inj d2).1
        refine same (yidx hs g2 g2' g3 g3' (congrArg (fun z : Int32 × Int64 => z.1) this).symm)
      | cons y D =>
        exfalso
        rw [List.cons_append] at d2
        obtain ⟨z1, z2⟩ := List.cons.inj d2
        have hA : A ≠ [] := by rw [d1]; simp
        have hlo : lo l = (en (pg (pp (l + 1))).2.2.2 i).1.toInt := by
          rw [g6]
          cases hq : A with
          | nil => exact absurd hq hA
          | cons _ _ => rfl
        have hhi : hi' l ≤ (en (pg (pp (l + 1))).2.2.2 i).1.toInt := by
          rw [g7', z2]
          cases D with
          | nil => exact Int.le_refl _
          | cons u D =>
            show u.1.toInt ≤ _
            rw [z2] at hs2
            have s1 := (List.pairwise_cons.mp (ySS_app.mp hs2).2.1).2
            have := (List.pairwise_cons.mp s1).1 (yen (pg (pp (l + 1))).2.2.2 i) (by simp)
            exact Int.le_of_lt this
        omega
/-- a leaf that stands for a key, with its interval -/
def yLf (pg : Nat → Pg) (made r w : Nat) (k : Int32) (p : Nat) (a b : Int) : Prop := ∃ pp lo hi nn, yPth pg made w k (pg r).1 pp lo hi nn ∧ pp (pg r).1 = r ∧ lo (pg r).1 = yMn ∧ hi (pg r).1 = yMx ∧ pp 0 = p ∧ lo 0 = a ∧ hi 0 = b
theorem yLf.gap {pg : Nat → Pg} {made r w : Nat} {k k' : Int32} {p p' : Nat} {a b a' b' : Int} (hm : made ≤ 256) (h : yLf pg made r w k p a b) (h' : yLf pg made r w k' p' a' b') (hb : b ≤ k'.toInt) : b ≤ a' := by
  obtain ⟨pp, lo, hi, nn, h1, h2, h3, h4, h5, h6, h7⟩ := h
  obtain ⟨pp', lo', hi', nn', g1, g2, g3, g4, g5, g6, g7⟩ := h'
  rw [← h7, ← g6]
  exact ygap hm h1 g1 (h2.trans g2.symm) (h3.trans g3.symm) (h4.trans g4.symm) (by rw [h7]; exact hb)
theorem ydown2 {pg : Nat → Pg} {made : Nat} {ro : Nat → Nat} {w : Nat} (hm : made ≤ 256) (hl : ∀ p, p < made → (pg p).2.2.2.length ≤ 16) (h : yGd pg made (ro w) w) (hw : w ≤ 800) (k : Int32) :
    ∃ p a b, yLf pg made (ro w) w k p a b ∧ p < made ∧ a ≤ k.toInt ∧ k.toInt < b ∧ yal (pg p).2.2.2 w = (yKs pg (ro w) w).filter (yIn a b) ∧ (b = yMx ∨ 3 ≤ (yal (pg p).2.2.2 w).length) ∧
      ∀ q, (tdes pg made ro q w k).1 = p ∧ yFe (tdes pg made ro q w k).2.1 b := by
  have hlv := h.level hw
  obtain ⟨l, n, h1, h2, h3, h4, h5, h6⟩ := h
  have kb := Int32.toInt_lt k
  have kb2 := Int32.le_toInt k
  obtain ⟨pp, lo, hi, nn, r1, r2, r3, r4, r5, r6⟩ := ypath (k := k) hm hl h1 h2 h3 (by omega) h5 kb2 kb (Int.le_refl _)
  obtain ⟨s1, s2⟩ := r6 16 (by omega)
  obtain ⟨p1, p2, p3, p4, p5, p6, p7⟩ := r1.1 0 (Nat.zero_le _)
  have hf := (yleaf hm r1 l (Nat.le_refl _)).1
  have ed : ∀ q, tdes pg made ro q w k = tdesc pg made w k 16 (ro w) 9223372036854775807 q := fun q => by unfold tdes; rw [tpn_nI h1 hm]
  refine ⟨pp 0, lo 0, hi 0, ⟨pp, lo, hi, nn, by rw [h2]; exact r1, by rw [h2]; exact r2, by rw [h2]; exact r3, by rw [h2]; exact r4, rfl, rfl, rfl⟩, p1, p5, p6, ?_, ?_, fun q => ?_⟩
  · rw [hf, r2]; unfold yKs; rw [h2]
  · by_cases q : l = 0
    · subst q; left; exact r4
    · exact Or.inr (r1.2 0 (by omega)).1
  · rw [ed]
    obtain ⟨u1, u2, u3, u4⟩ := s2 9223372036854775807 q
    exact ⟨u1, u4 (Or.inr ⟨rfl, rfl⟩)⟩
def yBt (lo hi : Int32) (e : Int32 × Int64) : Bool := decide (lo.toInt ≤ e.1.toInt ∧ e.1.toInt ≤ hi.toInt)
def yBl (X : Int) (e : Int32 × Int64) : Bool := decide (e.1.toInt < X)
theorem gcopy_mls (es : List Ent) (v : Nat) (lo hi : Int32) (R : qRw) : ∀ n, (gcopy es v lo hi R n).Perm (R ++ (yF es v none none n).filter (yBt lo hi))
  | 0 => by rw [gcopy, yF, List.filter_nil, List.append_nil]
  | n + 1 => by
    have ih := gcopy_mls es v lo hi R n
    rw [gcopy, yF]
    by_cases ha : alv (en es n) v = true
    · rw [if_pos (show alv (en es n) v = true ∧ ¬ some n = none ∧ ¬ some n = none from ⟨ha, Option.some_ne_none _, Option.some_ne_none _⟩), List.filter_append]
      by_cases hb : lo ≤ (en es n).1 ∧ (en es n).1 ≤ hi
      · rw [if_pos ⟨ha, hb.1, hb.2⟩]
        have e : [((en es n).1, (en es n).2.2.2)].filter (yBt lo hi) = [((en es n).1, (en es n).2.2.2)] := filter_all (fun x hx => by rw [List.mem_singleton] at hx; rw [hx]; exact decide_eq_true ⟨Int32.le_iff_toInt_le.mp hb.1, Int32.le_iff_toInt_le.mp hb.2⟩)
        rw [e]
        refine (yrins_perm _ _ _).trans ((List.Perm.cons _ ih).trans ?_)
        rw [← List.append_assoc]
        exact (List.perm_append_singleton _ _).symm
      · rw [if_neg (fun q => hb ⟨q.2.1, q.2.2⟩)]
        have e : [((en es n).1, (en es n).2.2.2)].filter (yBt lo hi) = [] := filter_none (fun x hx => by rw [List.mem_singleton] at hx; rw [hx]; exact decide_eq_false (fun q => hb ⟨Int32.le_iff_toInt_le.mpr q.1, Int32.le_iff_toInt_le.mpr q.2⟩))
        rw [e, List.append_nil]; exact ih
    · rw [if_neg (fun q => ha q.1), if_neg (fun q => ha q.1)]; exact ih
theorem gcopy_ws {es : List Ent} {v : Nat} {lo hi : Int32} {R : qRw} (hR : yWS R) : ∀ n, yWS (gcopy es v lo hi R n)
  | 0 => hR
  | n + 1 => by
    rw [gcopy]
    split
    · exact yWS_of_srt (rins_srt (ysrt_of_WS (gcopy_ws hR n)) _ _)
    · exact gcopy_ws hR n
/-- what has been gathered below a bound -/
def yG (K : qRw) (lo hi : Int32) (X : Int) : qRw := K.filter (fun e => yBt lo hi e && yBl X e)
theorem yG_ss {K : qRw} (h : ySS K) (lo hi : Int32) (X : Int) : ySS (yG K lo hi X) := List.Pairwise.sublist List.filter_sublist h
theorem yG_step {K : qRw} (hK : ySS K) {lo hi : Int32} {X a b : Int} {es : List Ent} {v : Nat} (hal : yal es v = K.filter (yIn a b)) (h1 : a ≤ X) (h2 : X < b) (h3 : X = lo.toInt ∨ a = X) : gcopy es v lo hi (yG K lo hi X) es.length = yG K lo hi b := by
  refine yWS_eq (gcopy_ws (yG_ss hK _ _ _).ws _) (yG_ss hK _ _ _) ?_
  refine (gcopy_mls es v lo hi _ _).trans ?_
  have e1 : ((yF es v none none es.length).filter (yBt lo hi)).Perm ((K.filter (yIn a b)).filter (yBt lo hi)) := by
    rw [← hal]; exact (yal_perm es v).symm.filter _
  refine (List.Perm.append_left _ e1).trans ?_
  clear e1 hal
  unfold yG
  induction K with
  | nil => exact List.Perm.refl _
  | cons e t ih =>
    have ih := ih (List.pairwise_cons.mp hK).2
    have c : ∀ (p : Int32 × Int64 → Bool) (L : qRw), (e :: L).filter p = if p e = true then e :: L.filter p else L.filter p := fun p L => List.filter_cons
    by_cases q1 : yBt lo hi e = true
    · have q1' := of_decide_eq_true q1
      by_cases q2 : e.1.toInt < X
      · have z1 : yBl X e = true := decide_eq_true q2
        have z2 : yBl b e = true := decide_eq_true (by omega)
        have z3 : yIn a b e = false := decide_eq_false (by omega)
        rw [c, c, c, if_pos (by rw [q1, z1]; rfl), z3, if_neg (by simp), if_pos (by rw [q1, z2]; rfl)]
        exact List.Perm.cons _ ih
      · have z1 : yBl X e = false := decide_eq_false q2
        by_cases q3 : e.1.toInt < b
        · have z2 : yBl b e = true := decide_eq_true q3
          have z3 : yIn a b e = true := decide_eq_true (by omega)
          rw [c, c (yIn a b), c (fun e => yBt lo hi e && yBl b e), if_neg (by rw [q1, z1]; simp), if_pos z3, c, if_pos q1, if_pos (by rw [q1, z2]; rfl)]
          exact List.perm_middle.trans (List.Perm.cons _ ih)
        · have z2 : yBl b e = false := decide_eq_false q3
          have z3 : yIn a b e = false := decide_eq_false (by omega)
          rw [c, c (yIn a b), c (fun e => yBt lo hi e && yBl b e), if_neg (by rw [q1, z1]; simp), z3, if_neg (by simp), if_neg (by rw [q1, z2]; simp)]
          exact ih
    · have q0 : yBt lo hi e = false := by cases hq : yBt lo hi e; rfl; exact absurd hq q1
      rw [c, c (fun e => yBt lo hi e && yBl b e), if_neg (by rw [q0]; simp), if_neg (by rw [q0]; simp), c (yIn a b)]
      split
      · rw [c, if_neg q1]; exact ih
      · exact ih
def yX (x : Int64) (X : Int) : Prop := x.toInt = X ∧ yMn ≤ X ∧ X < yMx ∨ x = 9223372036854775807 ∧ X = yMx
theorem yG_len (K : qRw) (lo hi : Int32) (X : Int) : (yG K lo hi X).length ≤ K.length := List.length_filter_le _ _
/-- gathered: all below a bound that is above what was asked for, or enough -/
theorem ygat {pg : Nat → Pg} {made : Nat} {ro : Nat → Nat} {w : Nat} (hm : made ≤ 256) (hl : ∀ p, p < made → (pg p).2.2.2.length ≤ 16) (h : yGd pg made (ro w) w) (hw : w ≤ 767) (lo hi en : Int32) :
    ∀ (fuel : Nat) (x : Int64) (q : Nat → Option Nat) (f : Int64) (X : Int), fuel ≤ 256 → yX x X → (X = lo.toInt ∧ fuel = 256 ∨ X = yMx ∨ ∃ k p a, yLf pg made (ro w) w k p a X) → (X = yMx ∨ 3 * (256 - fuel) ≤ ((yKs pg (ro w) w).filter (yBl X)).length) →
      tfit pg made ro w lo hi en 800 fuel x (yG (yKs pg (ro w) w) lo hi X) q ∧ ∃ X', (tgat pg made ro w lo hi en fuel x (yG (yKs pg (ro w) w) lo hi X) q f).1 = yG (yKs pg (ro w) w) lo hi X' ∧ (hi.toInt < X' ∨ en ≤ nI (yG (yKs pg (ro w) w) lo hi X').length) := by
  have hK := yKs_spec hm h
  intro fuel
  induction fuel with
  | zero =>
    intro x q f X _ _ _ hcnt
    refine ⟨trivial, X, rfl, Or.inl ?_⟩
    rcases hcnt with z | z
    · rw [z]; exact Int32.toInt_lt hi
    · exfalso
      have := List.length_filter_le (yBl X) (yKs pg (ro w) w)
      omega
  | succ fuel ih =>
    intro x q f X hf hx hb hcnt
    by_cases hstop : hi.toInt64 < x ∨ en ≤ nI (yG (yKs pg (ro w) w) lo hi X).length
    · refine ⟨Or.inl hstop, X, by rw [tgat, if_pos hstop], ?_⟩
      rcases hstop with z | z
      · left
        have z' := Int64.lt_iff_toInt_lt.mp z
        rw [Int32.toInt_toInt64] at z'
        rcases hx with ⟨y, -, -⟩ | ⟨-, y⟩
        · omega
        · rw [y]; exact Int32.toInt_lt hi
      · exact Or.inr z
    · have hx1 : x.toInt = X ∧ yMn ≤ X ∧ X < yMx := by
        rcases hx with y | ⟨y, -⟩
        · exact y
        · exfalso
          apply hstop
          left
          rw [y, Int64.lt_iff_toInt_lt, Int32.toInt_toInt64]
          have := Int32.toInt_lt hi
          have e : (9223372036854775807 : Int64).toInt = 9223372036854775807 := by decide
          omega
      have hk : x.toInt32.toInt = X := by
        rw [Int64.toInt_toInt32, hx1.1]
        have e1 : (2 ^ 32 : Nat) = 4294967296 := by decide
        obtain ⟨-, b1, b2⟩ := hx1
        unfold yMn at b1
        unfold yMx at b2
        exact Int.bmod_eq_of_le (by omega) (by omega)
      obtain ⟨p, a, b, d1, d2, d3, d4, d5, d6, d7⟩ := ydown2 hm hl h (by omega) x.toInt32
      obtain ⟨e1, e2⟩ := d7 q
      rw [hk] at d3 d4
      have ha0 : X = lo.toInt ∧ fuel + 1 = 256 ∨ a = X := by
        rcases hb with z | z | ⟨k, p', a', z⟩
        · exact Or.inl z
        · omega
        · right
          have := z.gap hm d1 (by rw [hk]; exact Int.le_refl _)
          omega
      have ha : X = lo.toInt ∨ a = X := by
        rcases ha0 with z | z
        · exact Or.inl z.1
        · exact Or.inr z
      have hstep := yG_step (lo := lo) (hi := hi) hK.1 d5 d3 d4 ha
      have hXb : yX (tdes pg made ro q w x.toInt32).2.1 b := by
        rcases e2 with ⟨z1, z2⟩ | ⟨z1, z2⟩
        · exact Or.inl ⟨z1, by omega, z2⟩
        · exact Or.inr ⟨z1, z2⟩
      have hcb : b = yMx ∨ 3 * (256 - fuel) ≤ ((yKs pg (ro w) w).filter (yBl b)).length := by
        rcases d6 with z | z
        · exact Or.inl z
        · right
          rw [d5] at z
          -- keys below b: those below X, and the leaf's
          have key : ∀ K : qRw, (X = lo.toInt ∧ fuel + 1 = 256 ∨ a = X) → (if a = X then (K.filter (yBl X)).length else 0) + (K.filter (yIn a b)).length ≤ (K.filter (yBl b)).length := by
            intro K _
            induction K with
            | nil => simp
            | cons e t ihK =>
              have c : ∀ (p : Int32 × Int64 → Bool) (L : qRw), (e :: L).filter p = if p e = true then e :: L.filter p else L.filter p := fun p L => List.filter_cons
              rw [c, c, c]
              by_cases q3 : e.1.toInt < b
              · rw [if_pos (show yBl b e = true from decide_eq_true q3)]
                by_cases q4 : a ≤ e.1.toInt
                · rw [if_pos (show yIn a b e = true from decide_eq_true ⟨q4, q3⟩)]
                  by_cases q5 : a = X
                  · rw [if_pos q5] at ihK ⊢
                    rw [if_neg (show ¬ yBl X e = true from fun z => by have := of_decide_eq_true z; omega)]
                    simp only [List.length_cons]; omega
                  · rw [if_neg q5] at ihK ⊢
                    simp only [List.length_cons]; omega
                · rw [if_neg (show ¬ yIn a b e = true from fun z => by have := of_decide_eq_true z; omega)]
                  by_cases q5 : a = X
                  · rw [if_pos q5] at ihK ⊢
                    rw [if_pos (show yBl X e = true from decide_eq_true (by omega))]
                    simp only [List.length_cons]; omega
                  · rw [if_neg q5] at ihK ⊢
                    simp only [List.length_cons]; omega
              · rw [if_neg (show ¬ yBl b e = true from fun z => q3 (of_decide_eq_true z)), if_neg (show ¬ yIn a b e = true from fun z => q3 (of_decide_eq_true z).2), if_neg (show ¬ yBl X e = true from fun z => by have := of_decide_eq_true z; omega)]
                exact ihK
          by_cases q5 : a = X
          · have := key (yKs pg (ro w) w) (Or.inr q5)
            rw [if_pos q5] at this
            rcases hcnt with y | y
            · omega
            · omega
          · have q6 : fuel + 1 = 256 := by
              rcases ha0 with y | y
              · exact y.2
              · exact absurd y q5
            have := key (yKs pg (ro w) w) ha0
            rw [if_neg q5] at this
            omega
      obtain ⟨i1, X', i2, i3⟩ := ih (tdes pg made ro q w x.toInt32).2.1 (tdes pg made ro q w x.toInt32).2.2 (tdes pg made ro q w x.toInt32).2.1 b (by omega) hXb (Or.inr (Or.inr ⟨_, p, a, d1⟩)) hcb
      have hlen := yG_len (yKs pg (ro w) w) lo hi X
      have hlp := hl p d2
      refine ⟨Or.inr ⟨by rw [e1]; omega, ?_⟩, X', ?_, i3⟩
      · rw [e1, hstep]; exact i1
      · rw [tgat, if_neg hstop, e1, hstep]; exact i2
theorem ygat0 {pg : Nat → Pg} {made : Nat} {ro : Nat → Nat} {w : Nat} (hm : made ≤ 256) (hl : ∀ p, p < made → (pg p).2.2.2.length ≤ 16) (h : yGd pg made (ro w) w) (hw : w ≤ 767) (lo hi en : Int32) :
    cfit pg made ro w lo hi en ∧ ∃ X', cgat pg made ro w lo hi en = yG (yKs pg (ro w) w) lo hi X' ∧ (hi.toInt < X' ∨ en ≤ nI (yG (yKs pg (ro w) w) lo hi X').length) := by
  have e : yG (yKs pg (ro w) w) lo hi lo.toInt = [] := filter_none (fun e _ => by
    by_cases q : yBt lo hi e = true
    · have := of_decide_eq_true q
      rw [show yBl lo.toInt e = false from decide_eq_false (by omega), Bool.and_false]
    · cases hq : yBt lo hi e
      · rfl
      · exact absurd hq q)
  have := ygat hm hl h hw lo hi en 256 lo.toInt64 (fun _ => none) 0 lo.toInt (Nat.le_refl _) (Or.inl ⟨Int32.toInt_toInt64 lo, Int32.le_toInt lo, Int32.toInt_lt lo⟩) (Or.inl ⟨rfl, rfl⟩) (Or.inr (by omega))
  rw [e] at this
  exact this
theorem yG_top {K : qRw} {lo hi : Int32} {X : Int} (h : hi.toInt < X) : yG K lo hi X = K.filter (yBt lo hi) := by
  unfold yG
  refine List.filter_congr (fun e _ => ?_)
  by_cases q : yBt lo hi e = true
  · have := of_decide_eq_true q
    rw [q, show yBl X e = true from decide_eq_true (by omega)]; rfl
  · cases hq : yBt lo hi e
    · rfl
    · exact absurd hq q
/-- all keys from one to another -/
theorem ygatA {pg : Nat → Pg} {made : Nat} {ro : Nat → Nat} {w : Nat} (hm : made ≤ 256) (hl : ∀ p, p < made → (pg p).2.2.2.length ≤ 16) (h : yGd pg made (ro w) w) (hw : w ≤ 767) (lo hi : Int32) :
    cfit pg made ro w lo hi 2147483647 ∧ cgat pg made ro w lo hi 2147483647 = (yKs pg (ro w) w).filter (yBt lo hi) := by
  obtain ⟨h1, X', h2, h3⟩ := ygat0 hm hl h hw lo hi 2147483647
  refine ⟨h1, ?_⟩
  rw [h2]
  refine yG_top ?_
  rcases h3 with q | q
  · exact q
  · exfalso
    have := yG_len (yKs pg (ro w) w) lo hi X'
    have := (yKs_spec hm h).2
    have q' := Int32.le_iff_toInt_le.mp q
    rw [nI_toInt (by omega)] at q'
    have e : (2147483647 : Int32).toInt = 2147483647 := by decide
    omega
/-- the first of them -/
theorem ygatN {pg : Nat → Pg} {made : Nat} {ro : Nat → Nat} {w : Nat} (hm : made ≤ 256) (hl : ∀ p, p < made → (pg p).2.2.2.length ≤ 16) (h : yGd pg made (ro w) w) (hw : w ≤ 767) (lo hi : Int32) :
    cfit pg made ro w lo hi 1 ∧ (cgat pg made ro w lo hi 1).head? = ((yKs pg (ro w) w).filter (yBt lo hi)).head? := by
  obtain ⟨h1, X', h2, h3⟩ := ygat0 hm hl h hw lo hi 1
  refine ⟨h1, ?_⟩
  rw [h2]
  rcases h3 with q | q
  · rw [yG_top q]
  · have hs := (yKs_spec hm h).1
    have hpos : 0 < (yG (yKs pg (ro w) w) lo hi X').length := by
      rcases Nat.eq_zero_or_pos (yG (yKs pg (ro w) w) lo hi X').length with z | z
      · rw [z] at q; exact absurd q (by decide)
      · exact z
    clear q h2 h1 h
    generalize yKs pg (ro w) w = K at hs hpos
    unfold yG at hpos ⊢
    induction K with
    | nil => simp at hpos
    | cons e t ih =>
      have c : ∀ (p : Int32 × Int64 → Bool) (L : qRw), (e :: L).filter p = if p e = true then e :: L.filter p else L.filter p := fun p L => List.filter_cons
      obtain ⟨s1, s2⟩ := List.pairwise_cons.mp hs
      rw [c] at hpos ⊢
      rw [c]
      by_cases q1 : yBt lo hi e = true
      · rw [if_pos q1]
        by_cases q2 : yBl X' e = true
        · rw [if_pos (by rw [q1, q2]; rfl)]; rfl
        · exfalso
          rw [if_neg (by intro z; rw [q1, Bool.true_and] at z; exact q2 z)] at hpos
          have : t.filter (fun e => yBt lo hi e && yBl X' e) = [] := filter_none (fun y hy => by
            have a1 : e.1.toInt < y.1.toInt := s1 y hy
            have a2 : ¬ e.1.toInt < X' := fun z => q2 (decide_eq_true z)
            rw [show yBl X' y = false from decide_eq_false (by omega), Bool.and_false])
          rw [this] at hpos; simp at hpos
      · rw [if_neg q1]
        rw [if_neg (by intro z; rw [Bool.and_eq_true] at z; exact q1 z.1)] at hpos ⊢
        exact ih s2 hpos
