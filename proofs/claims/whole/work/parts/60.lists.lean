/-! sorted lists, and the entries of a page that are alive at a version -/
abbrev yle (a b : Int32 × Int64) : Prop := a.1.toInt ≤ b.1.toInt
abbrev ylt (a b : Int32 × Int64) : Prop := a.1.toInt < b.1.toInt
def ySS (L : qRw) : Prop := L.Pairwise ylt
def yWS (L : qRw) : Prop := L.Pairwise yle
theorem ySS.ws {L : qRw} (h : ySS L) : yWS L := by
  refine List.Pairwise.imp ?_ h
  intro a b q
  exact Int.le_of_lt q
theorem ySS.key {L : qRw} (h : ySS L) {a b : Int32 × Int64} (ha : a ∈ L) (hb : b ∈ L) (he : a.1 = b.1) : a = b := by
  induction L with
  | nil => cases ha
  | cons x t ih =>
    obtain ⟨h1, h2⟩ := List.pairwise_cons.mp h
    rcases List.mem_cons.mp ha with a1 | a1
    · rcases List.mem_cons.mp hb with b1 | b1
      · rw [a1, b1]
      · have := h1 b b1; rw [ylt, ← a1, he] at this; omega
    · rcases List.mem_cons.mp hb with b1 | b1
      · have := h1 a a1; rw [ylt, ← b1, he] at this; omega
      · exact ih h2 a1 b1
theorem yWS_eq {L M : qRw} (hL : yWS L) (hM : ySS M) (hp : L.Perm M) : L = M := by
  refine List.Perm.eq_of_pairwise (le := yle) (fun a b ha hb h1 h2 => ?_) hL hM.ws hp
  exact hM.key (hp.subset ha) hb (Int32.toInt_inj.mp (by rw [yle] at h1 h2; omega))
theorem ySS_of_perm {L M : qRw} (hL : yWS L) (hM : ySS M) (hp : L.Perm M) : ySS L := by rw [yWS_eq hL hM hp]; exact hM
theorem yWS_of_srt {L : qRw} (h : rsrt L) : yWS L := by
  unfold yWS
  rw [List.pairwise_iff_getElem]
  intro i j hi hj hij
  have := h i j hij hj
  unfold rk at this
  rw [List.getD_eq_getElem?_getD, List.getD_eq_getElem?_getD, List.getElem?_eq_getElem hi, List.getElem?_eq_getElem hj] at this
  exact this
theorem ysrt_of_WS {L : qRw} (h : yWS L) : rsrt L := by
  intro i j hij hj
  unfold rk
  rw [List.getD_eq_getElem?_getD, List.getD_eq_getElem?_getD, List.getElem?_eq_getElem hj, List.getElem?_eq_getElem (show i < L.length by omega)]
  exact List.pairwise_iff_getElem.mp h i j (by omega) hj hij
theorem yrins_perm (R : qRw) (k : Int32) (w : Int64) : (rins R k w).Perm ((k, w) :: R) := by
  unfold rins
  refine List.perm_middle.trans ?_
  rw [List.take_append_drop]
/-- the entries alive but two, in the order in which they came -/
def yF (es : List Ent) (v : Nat) (o1 o2 : Option Nat) : Nat → qRw
  | 0 => []
  | n + 1 => if alv (en es n) v = true ∧ ¬ some n = o1 ∧ ¬ some n = o2 then yF es v o1 o2 n ++ [((en es n).1, (en es n).2.2.2)] else yF es v o1 o2 n
theorem ymls_perm (es : List Ent) (v : Nat) (o1 o2 : Option Nat) (R : qRw) : ∀ n, (mls es v o1 o2 R n).Perm (R ++ yF es v o1 o2 n)
  | 0 => by rw [mls, yF, List.append_nil]
  | n + 1 => by
    have ih := ymls_perm es v o1 o2 R n
    rw [mls, yF]
    split
    · refine (yrins_perm _ _ _).trans ((List.Perm.cons _ ih).trans ?_)
      rw [← List.append_assoc]
      exact (List.perm_append_singleton _ _).symm
    · exact ih
theorem ytlc_perm (R co : qRw) : ∀ n, n ≤ co.length → (tlc R co n).Perm (R ++ co.take n)
  | 0, _ => by rw [tlc, List.take_zero, List.append_nil]
  | n + 1, h => by
    have ih := ytlc_perm R co n (by omega)
    rw [tlc]
    refine (yrins_perm _ _ _).trans ((List.Perm.cons _ ih).trans ?_)
    rw [List.take_succ_eq_append_getElem (by omega), ← List.append_assoc]
    have e : (rk co n, rv co n) = co[n] := by
      unfold rk rv
      rw [List.getD_eq_getElem?_getD, List.getElem?_eq_getElem (by omega)]
      rfl
    rw [e]
    exact (List.perm_append_singleton _ _).symm
/-- what is alive in a page, sorted -/
def yal (es : List Ent) (v : Nat) : qRw := mls es v none none [] es.length
theorem yal_perm (es : List Ent) (v : Nat) : (yal es v).Perm (yF es v none none es.length) := by
  have := ymls_perm es v none none [] es.length
  rw [List.nil_append] at this; exact this
theorem yal_ws (es : List Ent) (v : Nat) : yWS (yal es v) := yWS_of_srt (mls_srt _ _ _ _ rsrt_nil _)
theorem yF_mem {es : List Ent} {v : Nat} {o1 o2 : Option Nat} {x : Int32 × Int64} : ∀ {n : Nat}, x ∈ yF es v o1 o2 n ↔ ∃ i, i < n ∧ alv (en es i) v = true ∧ ¬ some i = o1 ∧ ¬ some i = o2 ∧ x = ((en es i).1, (en es i).2.2.2)
  | 0 => by simp [yF]
  | n + 1 => by
    rw [yF]
    have ih := yF_mem (es := es) (v := v) (o1 := o1) (o2 := o2) (x := x) (n := n)
    split
    · rename_i hc
      rw [List.mem_append, ih, List.mem_singleton]
      constructor
      · rintro (⟨i, h1, h2⟩ | rfl)
        · exact ⟨i, by omega, h2⟩
        · exact ⟨n, by omega, hc.1, hc.2.1, hc.2.2, rfl⟩
      · rintro ⟨i, h1, h2, h3, h4, h5⟩
        by_cases hi : i = n
        · subst hi; exact Or.inr h5
        · exact Or.inl ⟨i, by omega, h2, h3, h4, h5⟩
    · rename_i hc
      rw [ih]
      constructor
      · rintro ⟨i, h1, h2⟩; exact ⟨i, by omega, h2⟩
      · rintro ⟨i, h1, h2, h3, h4, h5⟩
        by_cases hi : i = n
        · subst hi; exact absurd ⟨h2, h3, h4⟩ hc
        · exact ⟨i, by omega, h2, h3, h4, h5⟩
theorem yal_mem {es : List Ent} {v : Nat} {x : Int32 × Int64} : x ∈ yal es v ↔ ∃ i, i < es.length ∧ alv (en es i) v = true ∧ x = ((en es i).1, (en es i).2.2.2) := by
  rw [(yal_perm es v).mem_iff, yF_mem]
  constructor
  · rintro ⟨i, h1, h2, -, -, h3⟩; exact ⟨i, h1, h2, h3⟩
  · rintro ⟨i, h1, h2, h3⟩; exact ⟨i, h1, h2, Option.some_ne_none _, Option.some_ne_none _, h3⟩
theorem yF_congr {es es' : List Ent} {v v' : Nat} {o1 o2 o1' o2' : Option Nat} : ∀ {n : Nat}, (∀ i, i < n → (alv (en es i) v = true ∧ ¬ some i = o1 ∧ ¬ some i = o2 ↔ alv (en es' i) v' = true ∧ ¬ some i = o1' ∧ ¬ some i = o2') ∧ (en es i).1 = (en es' i).1 ∧ (en es i).2.2.2 = (en es' i).2.2.2) → yF es v o1 o2 n = yF es' v' o1' o2' n
  | 0, _ => rfl
  | n + 1, h => by
    rw [yF, yF, yF_congr (fun i hi => h i (by omega))]
    obtain ⟨h1, h2, h3⟩ := h n (by omega)
    rw [h2, h3]
    by_cases hc : alv (en es n) v = true ∧ ¬ some n = o1 ∧ ¬ some n = o2
    · rw [if_pos hc, if_pos (h1.mp hc)]
    · rw [if_neg hc, if_neg (fun q => hc (h1.mpr q))]
theorem yF_app (es fs : List Ent) (v : Nat) : ∀ n, yF (es ++ fs) v none none (es.length + n) = yF es v none none es.length ++ yF fs v none none n
  | 0 => by
    rw [yF, List.append_nil, Nat.add_zero]
    refine yF_congr (fun i hi => ?_)
    have e : en (es ++ fs) i = en es i := by unfold en; rw [List.getD_eq_getElem?_getD, List.getD_eq_getElem?_getD, List.getElem?_append_left hi]
    rw [e]; exact ⟨Iff.rfl, rfl, rfl⟩
  | n + 1 => by
    have e : en (es ++ fs) (es.length + n) = en fs n := by unfold en; rw [List.getD_eq_getElem?_getD, List.getD_eq_getElem?_getD, List.getElem?_append_right (by omega), Nat.add_sub_cancel_left]
    rw [← Nat.add_assoc, yF, yF, yF_app es fs v n, e]
    by_cases hc : alv (en fs n) v = true
    · rw [if_pos ⟨hc, Option.some_ne_none _, Option.some_ne_none _⟩, if_pos ⟨hc, Option.some_ne_none _, Option.some_ne_none _⟩, List.append_assoc]
    · rw [if_neg (fun q => hc q.1), if_neg (fun q => hc q.1)]
theorem en_gtk {R : qRw} {v lo n i : Nat} (h : i < n) : en (gtk R v lo n) i = (rk R (lo + i), v, none, rv R (lo + i)) := by
  unfold en gtk
  rw [List.getD_eq_getElem?_getD, List.getElem?_map, List.getElem?_range h]
  rfl
theorem alv_new (k : Int32) (v : Nat) (w : Int64) : alv (k, v, none, w) v = true := by simp [alv]
theorem yF_gtk (R : qRw) (v lo m : Nat) : ∀ n, n ≤ m → lo + m ≤ R.length → yF (gtk R v lo m) v none none n = (R.drop lo).take n
  | 0, _, _ => rfl
  | n + 1, h, hl => by
    have ih := yF_gtk R v lo m n (by omega) hl
    have e := en_gtk (R := R) (v := v) (lo := lo) (n := m) (i := n) (by omega)
    rw [yF, e, if_pos ⟨alv_new _ _ _, Option.some_ne_none _, Option.some_ne_none _⟩, ih, List.take_succ_eq_append_getElem (by rw [List.length_drop]; omega), List.getElem_drop]
    have e2 : (rk R (lo + n), rv R (lo + n)) = R[lo + n] := by
      unfold rk rv
      rw [List.getD_eq_getElem?_getD, List.getElem?_eq_getElem (by omega)]
      rfl
    rw [← e2]
theorem ySS_take {L : qRw} (h : ySS L) (n : Nat) : ySS (L.take n) := List.Pairwise.sublist (List.take_sublist _ _) h
theorem ySS_drop {L : qRw} (h : ySS L) (n : Nat) : ySS (L.drop n) := List.Pairwise.sublist (List.drop_sublist _ _) h
/-- a page that was made of a part of a list -/
theorem yal_gtk {R : qRw} (hR : ySS R) {v lo n : Nat} (hl : lo + n ≤ R.length) : yal (gtk R v lo n) v = (R.drop lo).take n := by
  refine yWS_eq (yal_ws _ _) (ySS_take (ySS_drop hR _) _) ?_
  have := yal_perm (gtk R v lo n) v
  rw [gtk_len, yF_gtk R v lo n n (Nat.le_refl _) hl] at this
  exact this
/-- numbers above a version: none -/
def yCl (P : Pg) (lat : Nat) : Prop := P.2.1 ≤ lat ∧ oLt P.2.2.1 (lat + 1) ∧ ∀ i, i < P.2.2.2.length → (en P.2.2.2 i).2.1 ≤ lat ∧ oLt (en P.2.2.2 i).2.2.1 (lat + 1)
theorem alv_next {e : Ent} {lat : Nat} (h1 : e.2.1 ≤ lat) (h2 : oLt e.2.2.1 (lat + 1)) : alv e (lat + 1) = alv e lat := by
  obtain ⟨k, f, t, w⟩ := e
  dsimp only at h1 h2
  unfold alv
  cases t with
  | none => simp [h1, show f ≤ lat + 1 by omega]
  | some t =>
    have := h2 t rfl
    simp [h1, show f ≤ lat + 1 by omega, show ¬ lat < t by omega, show ¬ lat + 1 < t by omega]
theorem yal_next {P : Pg} {lat : Nat} (h : yCl P lat) : yal P.2.2.2 (lat + 1) = yal P.2.2.2 lat := by
  unfold yal
  have : ∀ n, n ≤ P.2.2.2.length → mls P.2.2.2 (lat + 1) none none [] n = mls P.2.2.2 lat none none [] n := by
    intro n
    induction n with
    | zero => intro _; rfl
    | succ n ih =>
      intro hn
      rw [mls, mls, ih (by omega), alv_next (h.2.2 n (by omega)).1 (h.2.2 n (by omega)).2]
  exact this _ (Nat.le_refl _)
theorem alv_end (k : Int32) (f v : Nat) (w : Int64) : alv (k, f, some v, w) v = false := by simp [alv]
/-- the page that lets entries go and come -/
theorem yal_go {P : Pg} {lat : Nat} (h : yCl P lat) {o1 o2 : Option Nat} (h1 : oLt o1 P.2.2.2.length) (h2 : oLt o2 P.2.2.2.length) (hl : P.2.2.2.length ≤ 16) {co : qRw} (hs : ySS (tlist P lat (vO o1) (vO o2) co)) :
    yal (tchGo P (lat + 1) o1 o2 co).2.2.2 (lat + 1) = tlist P lat (vO o1) (vO o2) co := by
  refine yWS_eq (yal_ws _ _) hs ((yal_perm _ _).trans ?_)
  have ho1 : oLt o1 16 := fun t ht => by have := h1 t ht; omega
  have ho2 : oLt o2 16 := fun t ht => by have := h2 t ht; omega
  have hlen : (gend (gend P.2.2.2 o1 (lat + 1)) o2 (lat + 1)).length = P.2.2.2.length := by rw [gend_len, gend_len]
  have e0 : (tchGo P (lat + 1) o1 o2 co).2.2.2 = gend (gend P.2.2.2 o1 (lat + 1)) o2 (lat + 1) ++ gtk co (lat + 1) 0 co.length := rfl
  rw [e0, List.length_append, yF_app, gtk_len, yF_gtk _ _ _ _ _ (Nat.le_refl _) (by omega), List.drop_zero, List.take_length]
  have e1 : yF (gend (gend P.2.2.2 o1 (lat + 1)) o2 (lat + 1)) (lat + 1) none none P.2.2.2.length = yF P.2.2.2 lat o1 o2 P.2.2.2.length := by
    refine yF_congr (fun i hi => ?_)
    have c1 : ∀ (es : List Ent) (o : Option Nat) (hes : oLt o es.length), en (gend es o (lat + 1)) i = if some i = o then ((en es i).1, (en es i).2.1, some (lat + 1), (en es i).2.2.2) else en es i := by
      intro es o hes
      cases o with
      | none => rw [if_neg (Option.some_ne_none i)]; rfl
      | some j =>
        show en (es.set j _) i = _
        rw [en_set _ _ _ _ (hes j rfl)]
        by_cases hij : i = j
        · subst hij; rw [if_pos rfl, if_pos rfl]
        · rw [if_neg hij, if_neg (fun q => hij (Option.some.inj q))]
    rw [c1 _ _ (by rw [gend_len]; exact h2), c1 _ _ h1]
    obtain ⟨q1, q2⟩ := h.2.2 i hi
    by_cases g2 : some i = o2
    · rw [if_pos g2]
      refine ⟨⟨fun q => ?_, fun q => absurd g2 q.2.2⟩, ?_, ?_⟩
      · have := q.1; rw [alv_end] at this; cases this
      · split <;> rfl
      · split <;> rfl
    · rw [if_neg g2]
      by_cases g1 : some i = o1
      · rw [if_pos g1]
        refine ⟨⟨fun q => ?_, fun q => absurd g1 q.2.1⟩, rfl, rfl⟩
        have := q.1; rw [alv_end] at this; cases this
      · rw [if_neg g1, alv_next q1 q2]
        exact ⟨⟨fun q => ⟨q.1, g1, g2⟩, fun q => ⟨q.1, Option.some_ne_none _, Option.some_ne_none _⟩⟩, rfl, rfl⟩
  rw [hlen, e1]
  unfold tlist
  have e2 := ytlc_perm (tls P.2.2.2 lat (vO o1) (vO o2) P.2.2.2.length) co co.length (Nat.le_refl _)
  rw [List.take_length] at e2
  refine List.Perm.trans ?_ e2.symm
  refine List.Perm.append_right _ ?_
  rw [← mls_tls _ _ _ _ ho1 ho2 _ hl]
  have := ymls_perm P.2.2.2 lat o1 o2 [] P.2.2.2.length
  rw [List.nil_append] at this
  exact this.symm
/-- what a list holds -/
theorem ytlist_perm {P : Pg} {lat : Nat} {o1 o2 : Option Nat} (h1 : oLt o1 P.2.2.2.length) (h2 : oLt o2 P.2.2.2.length) (hl : P.2.2.2.length ≤ 16) (co : qRw) :
    (tlist P lat (vO o1) (vO o2) co).Perm (yF P.2.2.2 lat o1 o2 P.2.2.2.length ++ co) := by
  have ho1 : oLt o1 16 := fun t ht => by have := h1 t ht; omega
  have ho2 : oLt o2 16 := fun t ht => by have := h2 t ht; omega
  have e2 := ytlc_perm (tls P.2.2.2 lat (vO o1) (vO o2) P.2.2.2.length) co co.length (Nat.le_refl _)
  rw [List.take_length] at e2
  refine e2.trans (List.Perm.append_right _ ?_)
  rw [← mls_tls _ _ _ _ ho1 ho2 _ hl]
  have := ymls_perm P.2.2.2 lat o1 o2 [] P.2.2.2.length
  rw [List.nil_append] at this
  exact this
theorem ytlist_ws {P : Pg} {lat : Nat} {o1 o2 : Option Nat} (h1 : oLt o1 P.2.2.2.length) (h2 : oLt o2 P.2.2.2.length) (hl : P.2.2.2.length ≤ 16) (co : qRw) : yWS (tlist P lat (vO o1) (vO o2) co) :=
  yWS_of_srt (tlist_srt P lat o1 o2 (fun t ht => by have := h1 t ht; omega) (fun t ht => by have := h2 t ht; omega) hl co)
/-- a neighbour's entries come into a list -/
theorem ycopy_perm (es : List Ent) (v : Nat) (R : qRw) : (gcopy es v (-2147483648) 2147483647 R es.length).Perm (R ++ yal es v) := by
  rw [← mls_copy]
  exact (ymls_perm es v none none R es.length).trans (List.Perm.append_left _ (yal_perm es v).symm)
theorem ycopy_ws {es : List Ent} {v : Nat} {R : qRw} (h : yWS R) : yWS (gcopy es v (-2147483648) 2147483647 R es.length) := by
  rw [← mls_copy]
  exact yWS_of_srt (mls_srt _ _ _ _ (ysrt_of_WS h) _)
