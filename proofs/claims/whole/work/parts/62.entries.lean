/-! what a page's searches find, told by the sorted list -/
theorem gabo_some (es : List Ent) (K : Int) (v : Nat) : ∀ n b, gabo es K v n = some b → b < n ∧ alv (en es b) v = true ∧ K ≤ (en es b).1.toInt ∧ ∀ t, t < n → alv (en es t) v = true → K ≤ (en es t).1.toInt → (en es b).1.toInt ≤ (en es t).1.toInt
  | 0, b, h => by cases h
  | n + 1, b, h => by
    unfold gabo at h
    split at h
    · rename_i hc
      cases h
      refine ⟨by omega, hc.1, hc.2.1, fun t ht h1 h2 => ?_⟩
      by_cases htn : t = n
      · subst htn; exact Int.le_refl _
      · cases hg : gabo es K v n with
        | none =>
          exfalso
          have : ∀ m, gabo es K v m = none → ∀ t, t < m → alv (en es t) v = true → K ≤ (en es t).1.toInt → False := by
            intro m
            induction m with
            | zero => intro _ t ht; omega
            | succ m ih =>
              intro hm t ht h1 h2
              unfold gabo at hm
              split at hm
              · cases hm
              · rename_i hc
                by_cases htm : t = m
                · subst htm; exact hc ⟨h1, h2, fun b hb => by rw [hm] at hb; cases hb⟩
                · exact ih hm t (by omega) h1 h2
          exact this n hg t (by omega) h1 h2
        | some b' =>
          have i1 := gabo_some es K v n b' hg
          have i2 := hc.2.2 b' hg
          have i3 := i1.2.2.2 t (by omega) h1 h2
          have := Int32.lt_iff_toInt_lt.mp i2
          omega
    · rename_i hc
      have ih := gabo_some es K v n b h
      refine ⟨by omega, ih.2.1, ih.2.2.1, fun t ht h1 h2 => ?_⟩
      by_cases htn : t = n
      · subst htn
        rcases Int.lt_or_le (en es t).1.toInt (en es b).1.toInt with q | q
        · exfalso
          exact hc ⟨h1, h2, fun b' hb' => by rw [h] at hb'; cases hb'; exact Int32.lt_iff_toInt_lt.mpr q⟩
        · exact q
      · exact ih.2.2.2 t (by omega) h1 h2
theorem gabo_none (es : List Ent) (K : Int) (v : Nat) : ∀ m, gabo es K v m = none → ∀ t, t < m → alv (en es t) v = true → K ≤ (en es t).1.toInt → False := by
  intro m
  induction m with
  | zero => intro _ t ht; omega
  | succ m ih =>
    intro hm t ht h1 h2
    unfold gabo at hm
    split at hm
    · cases hm
    · rename_i hc
      by_cases htm : t = m
      · subst htm; exact hc ⟨h1, h2, fun b hb => by rw [hm] at hb; cases hb⟩
      · exact ih hm t (by omega) h1 h2
abbrev yen (es : List Ent) (i : Nat) : Int32 × Int64 := ((en es i).1, (en es i).2.2.2)
theorem yal_in {es : List Ent} {v i : Nat} (hi : i < es.length) (ha : alv (en es i) v = true) : yen es i ∈ yal es v := yal_mem.mpr ⟨i, hi, ha, rfl⟩
/-- the entry that stands for a key -/
theorem ystand {P : Pg} {k : Int32} {v : Nat} (hs : ySS (yal P.2.2.2 v)) (h0 : yal P.2.2.2 v ≠ []) :
    ∃ i A C, gstand P k v = some i ∧ i < P.2.2.2.length ∧ alv (en P.2.2.2 i) v = true ∧ yal P.2.2.2 v = A ++ yen P.2.2.2 i :: C ∧ (A ≠ [] → (en P.2.2.2 i).1.toInt ≤ k.toInt) ∧ ∀ y ∈ C, k.toInt < y.1.toInt := by
  unfold gstand
  cases hg : gbel P.2.2.2 k.toInt v P.2.2.2.length with
  | some i =>
    obtain ⟨g1, g2, g3, g4, -⟩ := gbel_some _ _ _ _ _ hg
    obtain ⟨A, C, hL⟩ := List.append_of_mem (yal_in g1 g2)
    refine ⟨i, A, C, rfl, g1, g2, hL, fun _ => g3, fun y hy => ?_⟩
    rw [hL] at hs
    have s1 := (List.pairwise_cons.mp (ySS_app.mp hs).2.1).1 y hy
    obtain ⟨t, t1, t2, rfl⟩ := yal_mem.mp (show y ∈ yal P.2.2.2 v by rw [hL]; exact List.mem_append_right _ (List.mem_cons_of_mem _ hy))
    rcases Int.lt_or_le k.toInt (en P.2.2.2 t).1.toInt with q | q
    · exact q
    · have := g4 t t1 t2 q
      have s2 : (en P.2.2.2 i).1.toInt < (en P.2.2.2 t).1.toInt := s1
      omega
  | none =>
    have hn := gbel_none _ _ _ _ hg
    show ∃ i A C, gabo P.2.2.2 k.toInt v P.2.2.2.length = some i ∧ _
    cases ha : gabo P.2.2.2 k.toInt v P.2.2.2.length with
    | none =>
      exfalso
      cases hL : yal P.2.2.2 v with
      | nil => exact h0 hL
      | cons x t =>
        obtain ⟨j, j1, j2, -⟩ := yal_mem.mp (show x ∈ yal P.2.2.2 v by rw [hL]; exact List.mem_cons_self)
        rcases Int.le_total (en P.2.2.2 j).1.toInt k.toInt with q | q
        · exact hn j j1 j2 q
        · exact gabo_none _ _ _ _ ha j j1 j2 q
    | some i =>
      obtain ⟨g1, g2, g3, g4⟩ := gabo_some _ _ _ _ _ ha
      obtain ⟨A, C, hL⟩ := List.append_of_mem (yal_in g1 g2)
      have hA : A = [] := by
        cases A with
        | nil => rfl
        | cons y A =>
          exfalso
          obtain ⟨j, j1, j2, rfl⟩ := yal_mem.mp (show y ∈ yal P.2.2.2 v by rw [hL]; exact List.mem_cons_self)
          rw [hL] at hs
          have s1 : (en P.2.2.2 j).1.toInt < (en P.2.2.2 i).1.toInt := (ySS_app.mp hs).2.2 _ List.mem_cons_self _ List.mem_cons_self
          rcases Int.le_total (en P.2.2.2 j).1.toInt k.toInt with q | q
          · exact hn j j1 j2 q
          · have := g4 j j1 j2 q; omega
      refine ⟨i, A, C, rfl, g1, g2, hL, fun q => absurd hA q, fun y hy => ?_⟩
      obtain ⟨t, t1, t2, rfl⟩ := yal_mem.mp (show y ∈ yal P.2.2.2 v by rw [hL]; exact List.mem_append_right _ (List.mem_cons_of_mem _ hy))
      rcases Int.lt_or_le k.toInt (en P.2.2.2 t).1.toInt with q | q
      · exact q
      · exact absurd q (fun q => hn t t1 t2 q)
/-- the entry behind another -/
theorem ynext {P : Pg} {v i : Nat} (hs : ySS (yal P.2.2.2 v)) (hl : P.2.2.2.length ≤ 16) (hi : i < P.2.2.2.length) {A C : qRw} (hL : yal P.2.2.2 v = A ++ yen P.2.2.2 i :: C) :
    match C with
    | [] => gnext P (nI i) v = none
    | y :: _ => ∃ j, gnext P (nI i) v = some j ∧ j < P.2.2.2.length ∧ alv (en P.2.2.2 j) v = true ∧ yen P.2.2.2 j = y := by
  unfold gnext
  rw [gkeyAt_nI hi hl]
  have up : ∀ t, t < P.2.2.2.length → alv (en P.2.2.2 t) v = true → (en P.2.2.2 i).1.toInt + 1 ≤ (en P.2.2.2 t).1.toInt → yen P.2.2.2 t ∈ C := by
    intro t t1 t2 t3
    have hm := yal_in (es := P.2.2.2) t1 t2
    rw [hL] at hm hs
    rcases List.mem_append.mp hm with q | q
    · have s1 : (en P.2.2.2 t).1.toInt < (en P.2.2.2 i).1.toInt := (ySS_app.mp hs).2.2 _ q _ List.mem_cons_self
      omega
    · rcases List.mem_cons.mp q with q | q
      · have : (en P.2.2.2 t).1 = (en P.2.2.2 i).1 := congrArg (fun z : Int32 × Int64 => z.1) q
        rw [this] at t3; omega
      · exact q
  cases hg : gabo P.2.2.2 ((en P.2.2.2 i).1.toInt + 1) v P.2.2.2.length with
  | none =>
    cases C with
    | nil => rfl
    | cons y C =>
      exfalso
      obtain ⟨j, j1, j2, rfl⟩ := yal_mem.mp (show y ∈ yal P.2.2.2 v by rw [hL]; exact List.mem_append_right _ (List.mem_cons_of_mem _ List.mem_cons_self))
      rw [hL] at hs
      have s1 : (en P.2.2.2 i).1.toInt < (en P.2.2.2 j).1.toInt := (List.pairwise_cons.mp (ySS_app.mp hs).2.1).1 _ List.mem_cons_self
      exact gabo_none _ _ _ _ hg j j1 j2 (by omega)
  | some j =>
    obtain ⟨g1, g2, g3, g4⟩ := gabo_some _ _ _ _ _ hg
    have hj := up j g1 g2 g3
    cases C with
    | nil => cases hj
    | cons y C =>
      refine ⟨j, rfl, g1, g2, ?_⟩
      have hjL : yen P.2.2.2 j ∈ yal P.2.2.2 v := yal_in g1 g2
      have hyL : y ∈ yal P.2.2.2 v := by rw [hL]; exact List.mem_append_right _ (List.mem_cons_of_mem _ List.mem_cons_self)
      refine hs.key hjL hyL (Int32.toInt_inj.mp ?_)
      obtain ⟨t, t1, t2, rfl⟩ := yal_mem.mp hyL
      rw [hL] at hs
      have s1 : (en P.2.2.2 i).1.toInt < (en P.2.2.2 t).1.toInt := (List.pairwise_cons.mp (ySS_app.mp hs).2.1).1 _ List.mem_cons_self
      have s2 := g4 t t1 t2 (by omega)
      rcases List.mem_cons.mp hj with q | q
      · exact congrArg (fun z : Int32 × Int64 => z.1.toInt) q
      · have s3 : (en P.2.2.2 t).1.toInt < (en P.2.2.2 j).1.toInt := (List.pairwise_cons.mp (List.pairwise_cons.mp (ySS_app.mp hs).2.1).2).1 _ q
        show (en P.2.2.2 j).1.toInt = (en P.2.2.2 t).1.toInt
        omega
/-- .. and before it, where none is behind -/
theorem yprev {P : Pg} {v i : Nat} (hs : ySS (yal P.2.2.2 v)) (hl : P.2.2.2.length ≤ 16) (hi : i < P.2.2.2.length) {A : qRw} {z : Int32 × Int64} (hL : yal P.2.2.2 v = A ++ [z] ++ [yen P.2.2.2 i]) :
    ∃ j, gneigh P (nI i) v = some j ∧ j < P.2.2.2.length ∧ alv (en P.2.2.2 j) v = true ∧ yen P.2.2.2 j = z := by
  have h1 := ynext hs hl hi (A := A ++ [z]) (C := []) hL
  have h1' : gnext P (nI i) v = none := h1
  unfold gneigh
  rw [h1', gkeyAt_nI hi hl]
  show ∃ j, gbel P.2.2.2 ((en P.2.2.2 i).1.toInt - 1) v P.2.2.2.length = some j ∧ _
  have hzL : z ∈ yal P.2.2.2 v := by rw [hL]; simp
  obtain ⟨t, t1, t2, rfl⟩ := yal_mem.mp hzL
  have s := hs
  rw [hL] at s
  have s0 := ySS_app.mp s
  have s1 : (en P.2.2.2 t).1.toInt < (en P.2.2.2 i).1.toInt := s0.2.2 _ (List.mem_append_right _ List.mem_cons_self) _ List.mem_cons_self
  cases hg : gbel P.2.2.2 ((en P.2.2.2 i).1.toInt - 1) v P.2.2.2.length with
  | none => exact absurd (gbel_none _ _ _ _ hg t t1 t2 (by omega)) (fun q => q)
  | some j =>
    obtain ⟨g1, g2, g3, g4, -⟩ := gbel_some _ _ _ _ _ hg
    refine ⟨j, rfl, g1, g2, hs.key (yal_in g1 g2) hzL (Int32.toInt_inj.mp ?_)⟩
    have s2 := g4 t t1 t2 (by omega)
    have hj := yal_in (es := P.2.2.2) g1 g2
    rw [hL] at hj
    show (en P.2.2.2 j).1.toInt = (en P.2.2.2 t).1.toInt
    rcases List.mem_append.mp hj with q | q
    · rcases List.mem_append.mp q with q | q
      · have s3 : (en P.2.2.2 j).1.toInt < (en P.2.2.2 t).1.toInt := (ySS_app.mp s0.1).2.2 _ q _ List.mem_cons_self
        omega
      · rw [List.mem_singleton] at q
        exact congrArg (fun z : Int32 × Int64 => z.1.toInt) q
    · rw [List.mem_singleton] at q
      have : (en P.2.2.2 j).1 = (en P.2.2.2 i).1 := congrArg (fun z : Int32 × Int64 => z.1) q
      rw [this] at g3; omega
/-- one place for one key -/
theorem yidx {es : List Ent} {v : Nat} (hs : ySS (yal es v)) {i j : Nat} (hi : i < es.length) (hj : j < es.length) (ai : alv (en es i) v = true) (aj : alv (en es j) v = true) (hk : (en es i).1 = (en es j).1) : i = j := by
  have hp : (yF es v none none es.length).Pairwise (fun a b => a.1 ≠ b.1) := by
    refine List.Perm.pairwise (yal_perm es v) ?_ (fun {x y} q => Ne.symm q)
    refine List.Pairwise.imp ?_ hs
    intro a b q e
    have q' : a.1.toInt < b.1.toInt := q
    rw [e] at q'; omega
  have key : ∀ n, n ≤ es.length → (yF es v none none n).Pairwise (fun a b => a.1 ≠ b.1) → ∀ i j, i < j → j < n → alv (en es i) v = true → alv (en es j) v = true → (en es i).1 ≠ (en es j).1 := by
    intro n
    induction n with
    | zero => intro _ _ i j _ h; omega
    | succ n ih =>
      intro hn hp i j hij hjn ai aj
      rw [yF] at hp
      split at hp
      · have hp' := List.pairwise_append.mp hp
        by_cases h : j = n
        · subst h
          exact hp'.2.2 (yen es i) (yF_mem.mpr ⟨i, hij, ai, Option.some_ne_none _, Option.some_ne_none _, rfl⟩) _ List.mem_cons_self
        · exact ih (by omega) hp'.1 i j hij (by omega) ai aj
      · rename_i hc
        by_cases h : j = n
        · subst h; exact absurd ⟨aj, Option.some_ne_none _, Option.some_ne_none _⟩ hc
        · exact ih (by omega) hp i j hij (by omega) ai aj
  rcases Nat.lt_trichotomy i j with q | q | q
  · exact absurd hk (key _ (Nat.le_refl _) hp i j q hj ai aj)
  · exact q
  · exact absurd hk.symm (key _ (Nat.le_refl _) hp j i q hi aj ai)
theorem ymentry {es : List Ent} {v q i : Nat} (ai : alv (en es i) v = true) (hq : (en es i).2.2.2 = lN q) : ∀ n, i < n → (∀ t, t < n → alv (en es t) v = true → (en es t).2.2.2 = lN q → t = i) → mentry es v q n = some i
  | 0, h, _ => by omega
  | n + 1, h, hu => by
    rw [mentry]
    by_cases hn : n = i
    · subst hn; rw [if_pos ⟨ai, hq⟩]
    · rw [if_neg (fun z => hn (hu n (by omega) z.1 z.2))]
      exact ymentry ai hq n (by omega) (fun t ht => hu t (by omega))
/-- no page stands below another twice -/
theorem ySg_mem {Bp : Nat → Int → Int → Nat → Prop} (hlt : ∀ {c a b n}, Bp c a b n → a < b) {y : Int32 × Int64} : ∀ {L : qRw} {lo hi : Int} {n : Nat}, ySg Bp L lo hi n → y ∈ L → ∃ c a b n', y.2 = lN c ∧ Bp c a b n' ∧ lo ≤ a ∧ b ≤ hi
  | [], _, _, _, _, h => by cases h
  | e :: t, lo, hi, n, h, hy => by
    obtain ⟨c, m, n1, n2, h1, h2, h3, h4, h5⟩ := h
    have q1 := hlt h2
    have q2 := ySg_le hlt h4
    rcases List.mem_cons.mp hy with q | hy
    · exact ⟨c, lo, m, n1, by rw [q]; exact h1, h2, Int.le_refl _, q2⟩
    · obtain ⟨c', a, b, n', g1, g2, g3, g4⟩ := ySg_mem hlt h4 hy
      exact ⟨c', a, b, n', g1, g2, by omega, g4⟩
theorem yCh.apart {V : yV} {made l c : Nat} {a b a' b' : Int} {n n' : Nat} (h : yCh V made l c a b n) (h' : yCh V made l c a' b' n') (hb : b ≤ a') : False := by
  have r := h.2.2.2.2.rng
  have r' := h'.2.2.2.2.rng
  have h3 := h.2.2.2.1
  cases hL : (V c).2.2 with
  | nil => rw [hL] at h3; simp at h3
  | cons e t =>
    have m : e ∈ (V c).2.2 := by rw [hL]; exact List.mem_cons_self
    have := r e m; have := r' e m; omega
theorem ySg_once {V : yV} {made l : Nat} (hm : made ≤ 256) : ∀ {L : qRw} {lo hi : Int} {n : Nat}, ySg (yCh V made l) L lo hi n → L.Pairwise (fun a b => a.2 ≠ b.2)
  | [], _, _, _, _ => List.Pairwise.nil
  | e :: t, lo, hi, n, h => by
    obtain ⟨c, m, n1, n2, h1, h2, h3, h4, h5⟩ := h
    refine List.pairwise_cons.mpr ⟨fun y hy q => ?_, ySg_once hm h4⟩
    obtain ⟨c', a, b, n', g1, g2, g3, g4⟩ := ySg_mem yCh.lt h4 hy
    have : c = c' := by
      have e := h1.symm.trans (q.trans g1)
      exact (lN_eq (by have := h2.1; omega) (by have := g2.1; omega)).mp e
    subst this
    exact h2.apart g2 g3
theorem yonce_mem {L : qRw} (h : L.Pairwise (fun a b => a.2 ≠ b.2)) {x y : Int32 × Int64} (hx : x ∈ L) (hy : y ∈ L) (he : x.2 = y.2) : x = y := by
  induction L with
  | nil => cases hx
  | cons e t ih =>
    obtain ⟨h1, h2⟩ := List.pairwise_cons.mp h
    rcases List.mem_cons.mp hx with a1 | a1
    · rcases List.mem_cons.mp hy with b1 | b1
      · rw [a1, b1]
      · exact absurd he (by rw [a1]; exact h1 y b1)
    · rcases List.mem_cons.mp hy with b1 | b1
      · exact absurd he.symm (by rw [b1]; exact h1 x a1)
      · exact ih h2 a1 b1
