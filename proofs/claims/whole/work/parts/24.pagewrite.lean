/-! pages: copying what is alive, and what changes a page -/
def gcopy (es : List Ent) (v : Nat) (lo hi : Int32) (R : qRw) : Nat → qRw
  | 0 => R
  | n + 1 => if alv (en es n) v = true ∧ lo ≤ (en es n).1 ∧ (en es n).1 ≤ hi then rins (gcopy es v lo hi R n) (en es n).1 (en es n).2.2.2 else gcopy es v lo hi R n
theorem gcopy_len (es : List Ent) (v : Nat) (lo hi : Int32) (R : qRw) : ∀ n, (gcopy es v lo hi R n).length ≤ R.length + n
  | 0 => Nat.le_refl _
  | n + 1 => by
    have := gcopy_len es v lo hi R n
    unfold gcopy
    split
    · rw [rins_len]; omega
    · omega
def ogt (o : Option Nat) (v : Nat) : Bool := match o with
  | none => false
  | some t => decide (v < t)
theorem ogt_iff {o : Option Nat} {v : Nat} (h : oLt o (2 ^ 30)) (hv : v < 2 ^ 30) : nI v < vO o ↔ ogt o v = true := by
  rw [vO_gt h hv]
  cases o with
  | none => simp [ogt]
  | some t => simp [ogt]
def gchgE (es : List Ent) (v : Nat) : Nat → Bool
  | 0 => false
  | n + 1 => gchgE es v n || (decide (v < (en es n).2.1) || ogt (en es n).2.2.1 v)
theorem gchgE_mono {es : List Ent} {v : Nat} {n : Nat} (h : gchgE es v n = true) : ∀ m, gchgE es v (n + m) = true
  | 0 => h
  | m + 1 => by
    have := gchgE_mono h m
    show (gchgE es v (n + m) || _) = true
    rw [this]; rfl
def gchg (P : Pg) (v : Nat) : Bool := (decide (v < P.2.1) || ogt P.2.2.1 v) || gchgE P.2.2.2 v P.2.2.2.length
/-- entries out of a part of a row -/
def gtk (R : qRw) (v lo n : Nat) : List Ent := (List.range n).map (fun i => (rk R (lo + i), v, none, rv R (lo + i)))
theorem gtk_len (R : qRw) (v lo n : Nat) : (gtk R v lo n).length = n := by simp [gtk]
theorem gtk_succ (R : qRw) (v lo n : Nat) : gtk R v lo (n + 1) = gtk R v lo n ++ [(rk R (lo + n), v, none, rv R (lo + n))] := by simp [gtk, List.range_succ]
theorem en_app (es : List Ent) (e : Ent) (i : Nat) : en (es ++ [e]) i = if i < es.length then en es i else if i = es.length then e else (0, 0, none, 0) := by
  simp only [en, List.getD_eq_getElem?_getD]
  by_cases h : i < es.length
  · rw [if_pos h, List.getElem?_append_left h]
  · rw [if_neg h, List.getElem?_append_right (by omega)]
    by_cases h2 : i = es.length
    · subst h2; simp
    · rw [if_neg h2, List.getElem?_eq_none (by simp; omega)]; rfl
/-- an entry ends -/
def gend (es : List Ent) (o : Option Nat) (v : Nat) : List Ent := match o with
  | none => es
  | some j => es.set j ((en es j).1, (en es j).2.1, some v, (en es j).2.2.2)
theorem gend_len (es : List Ent) (o : Option Nat) (v : Nat) : (gend es o v).length = es.length := by cases o <;> simp [gend]
theorem en_set (es : List Ent) (j : Nat) (e : Ent) (i : Nat) (hj : j < es.length) : en (es.set j e) i = if i = j then e else en es i := by
  simp only [en, List.getD_eq_getElem?_getD]
  by_cases h : i = j
  · subst h; rw [if_pos rfl, List.getElem?_set_self hj]; rfl
  · rw [if_neg h, List.getElem?_set_ne (Ne.symm h)]
def gtrim (es : List Ent) (v : Nat) : Nat → Nat
  | 0 => 0
  | n + 1 => if v < (en es n).2.1 then gtrim es v n else n + 1
theorem gtrim_le (es : List Ent) (v : Nat) : ∀ n, gtrim es v n ≤ n
  | 0 => Nat.le_refl 0
  | n + 1 => by
    unfold gtrim
    split
    · have := gtrim_le es v n; omega
    · omega
def oback (o : Option Nat) (v : Nat) : Option Nat := if ogt o v = true then none else o
def gback (P : Pg) (v : Nat) : Pg := (P.1, P.2.1, oback P.2.2.1 v, (P.2.2.2.take (gtrim P.2.2.2 v P.2.2.2.length)).map (fun e => (e.1, e.2.1, oback e.2.2.1 v, e.2.2.2)))
theorem oback_lt {o : Option Nat} {v N : Nat} (h : oLt o N) : oLt (oback o v) N := by
  unfold oback
  split
  · intro t ht; cases ht
  · exact h
section PW
variable {l : Launch} {s0 : State} {C : qC} {X : qX} {a num : Nat} {P : Pg}
theorem c_G_copyLiving_loop (B : qB l s0 C) (v : Nat) (hv : v < 2 ^ 30) (lo hi : Int32) {b cap : Nat} {R : qRw} (hcap : R.length + P.2.2.2.length ≤ cap) (hd : a + 5 ≤ b ∨ b + 3 ≤ a) : ∀ (j i : Nat) (X' : qX), i + j = P.2.2.2.length → PgAt X' a num P → RowAt X' b cap (gcopy P.2.2.2 v lo hi R i) → qSame X X' b (b + 3) →
      qV l s0 C m_G_copyLiving rm_G_copyLiving (fun r X'' => r = none ∧ RowAt X'' b cap (gcopy P.2.2.2 v lo hi R P.2.2.2.length) ∧ qSame X X'' b (b + 3)) (fun _ _ => False) 0 0 X' 3 [(0, .ref a), (1, .int (nI v)), (2, .int lo), (3, .int hi), (4, .ref b), (5, .int (nI i))] [] := by
  intro j
  induction j with
  | zero =>
    intro i X' hij h hr hs
    obtain ⟨h0, ⟨ok1, ok2, ok3, ok4, ok5⟩, fk, ff, ft, fw, hk, hf, ht, hw, hg⟩ := id h
    refine v_iload i_G_copyLiving_3 rfl ?_
    refine v_aload_n i_G_copyLiving_5 rfl ?_
    refine v_get B i_G_copyLiving_6 (by first | assumption | exact qset_self _ _ _ | (rw [qset_ne _ _ (by omega)]; first | assumption | exact qset_self _ _ _ | (rw [qset_ne _ _ (by omega)]; first | assumption | exact qset_self _ _ _ | (rw [qset_ne _ _ (by omega)]; first | assumption | exact qset_self _ _ _ | (rw [qset_ne _ _ (by omega)]; first | assumption | exact qset_self _ _ _ | (rw [qset_ne _ _ (by omega)]; first | assumption | exact qset_self _ _ _ | (rw [qset_ne _ _ (by omega)]; first | assumption | exact qset_self _ _ _))))))) rfl ?_
    refine v_icmp_ge (tgt := 69) i_G_copyLiving_9 rfl (fun h9 => ?_) (fun h9 => ?_)
    · refine v_vret i_G_copyLiving_69 rfl (by decide) (by decide) ⟨rfl, ?_, hs⟩
      rw [show P.2.2.2.length = i by omega]
      exact hr
    · exact absurd (nI_le (by omega) (by omega)) h9
  | succ j ih =>
    intro i X' hij h hr hs
    obtain ⟨h0, ⟨ok1, ok2, ok3, ok4, ok5⟩, fk, ff, ft, fw, hk, hf, ht, hw, hg⟩ := id h
    have tail : ∀ X2 : qX, PgAt X2 a num P → RowAt X2 b cap (gcopy P.2.2.2 v lo hi R (i + 1)) → qSame X X2 b (b + 3) → qV l s0 C m_G_copyLiving rm_G_copyLiving (fun r X'' => r = none ∧ RowAt X'' b cap (gcopy P.2.2.2 v lo hi R P.2.2.2.length) ∧ qSame X X'' b (b + 3)) (fun _ _ => False) 0 0 X2 63 [(0, .ref a), (1, .int (nI v)), (2, .int lo), (3, .int hi), (4, .ref b), (5, .int (nI i))] [] := by
      intro X2 h2 hr2 hs2
      refine v_iinc (v := nI (i + 1)) i_G_copyLiving_63 rfl (nI_1 i) (by decide) rfl ?_
      refine v_goto (tgt := 3) i_G_copyLiving_66 rfl ?_
      refine v_loc [(0, .ref a), (1, .int (nI v)), (2, .int lo), (3, .int hi), (4, .ref b), (5, .int (nI (i + 1)))] rfl ?_
      exact ih (i + 1) X2 (by omega) h2 hr2 hs2
    refine v_iload i_G_copyLiving_3 rfl ?_
    refine v_aload_n i_G_copyLiving_5 rfl ?_
    refine v_get B i_G_copyLiving_6 (by first | assumption | exact qset_self _ _ _ | (rw [qset_ne _ _ (by omega)]; first | assumption | exact qset_self _ _ _ | (rw [qset_ne _ _ (by omega)]; first | assumption | exact qset_self _ _ _ | (rw [qset_ne _ _ (by omega)]; first | assumption | exact qset_self _ _ _ | (rw [qset_ne _ _ (by omega)]; first | assumption | exact qset_self _ _ _ | (rw [qset_ne _ _ (by omega)]; first | assumption | exact qset_self _ _ _ | (rw [qset_ne _ _ (by omega)]; first | assumption | exact qset_self _ _ _))))))) rfl ?_
    refine v_icmp_ge (tgt := 69) i_G_copyLiving_9 rfl (fun h9 => ?_) (fun h9 => ?_)
    · exact absurd h9 (nI_ge (by omega) (by omega))
    refine v_aload_n i_G_copyLiving_12 rfl ?_
    refine v_iload i_G_copyLiving_13 rfl ?_
    refine v_iload_n i_G_copyLiving_15 rfl ?_
    refine v_inv B i_G_copyLiving_16 kn_m_G_livesAt (c_G_lives B h (j := i) (by omega) v hv) (by first | assumption | exact qset_self _ _ _ | (rw [qset_ne _ _ (by omega)]; first | assumption | exact qset_self _ _ _ | (rw [qset_ne _ _ (by omega)]; first | assumption | exact qset_self _ _ _ | (rw [qset_ne _ _ (by omega)]; first | assumption | exact qset_self _ _ _ | (rw [qset_ne _ _ (by omega)]; first | assumption | exact qset_self _ _ _ | (rw [qset_ne _ _ (by omega)]; first | assumption | exact qset_self _ _ _ | (rw [qset_ne _ _ (by omega)]; first | assumption | exact qset_self _ _ _))))))) rfl rfl (Nat.le_of_ble_eq_true rfl) ⟨by decide, by decide, by first | decide | (simp; omega), by first | decide | (simp; omega)⟩ rfl (fun r X' hq => ?_) (fun _ _ h => False.elim h)
    obtain ⟨rfl, rfl⟩ := hq
    obtain ⟨g1, -, -, g4⟩ := hg i (by omega)
    refine v_if_eq (tgt := 63) i_G_copyLiving_19 rfl (fun h19 => ?_) (fun h19 => ?_)
    · refine tail _ h ?_ hs
      rw [gcopy, if_neg (fun q => by rw [bI_0.mp h19] at q; exact absurd q.1 (by decide))]
      exact hr
    have hal := bI_ne h19
    refine v_aload_n i_G_copyLiving_22 rfl ?_
    refine v_get B i_G_copyLiving_23 (by first | assumption | exact qset_self _ _ _ | (rw [qset_ne _ _ (by omega)]; first | assumption | exact qset_self _ _ _ | (rw [qset_ne _ _ (by omega)]; first | assumption | exact qset_self _ _ _ | (rw [qset_ne _ _ (by omega)]; first | assumption | exact qset_self _ _ _ | (rw [qset_ne _ _ (by omega)]; first | assumption | exact qset_self _ _ _ | (rw [qset_ne _ _ (by omega)]; first | assumption | exact qset_self _ _ _ | (rw [qset_ne _ _ (by omega)]; first | assumption | exact qset_self _ _ _))))))) rfl ?_
    refine v_iload i_G_copyLiving_26 rfl ?_
    refine v_iald B (by first | assumption | exact qset_self _ _ _ | (rw [qset_ne _ _ (by omega)]; first | assumption | exact qset_self _ _ _ | (rw [qset_ne _ _ (by omega)]; first | assumption | exact qset_self _ _ _ | (rw [qset_ne _ _ (by omega)]; first | assumption | exact qset_self _ _ _ | (rw [qset_ne _ _ (by omega)]; first | assumption | exact qset_self _ _ _ | (rw [qset_ne _ _ (by omega)]; first | assumption | exact qset_self _ _ _ | (rw [qset_ne _ _ (by omega)]; first | assumption | exact qset_self _ _ _))))))) rfl (by omega) (by omega) i_G_copyLiving_28 ?_
    refine v_iload_n i_G_copyLiving_29 rfl ?_
    rw [g1]
    refine v_icmp_lt (tgt := 63) i_G_copyLiving_30 rfl (fun h30 => ?_) (fun h30 => ?_)
    · refine tail _ h ?_ hs
      rw [gcopy, if_neg (fun q => absurd h30 (Int32.not_lt.mpr q.2.1))]
      exact hr
    refine v_aload_n i_G_copyLiving_33 rfl ?_
    refine v_get B i_G_copyLiving_34 (by first | assumption | exact qset_self _ _ _ | (rw [qset_ne _ _ (by omega)]; first | assumption | exact qset_self _ _ _ | (rw [qset_ne _ _ (by omega)]; first | assumption | exact qset_self _ _ _ | (rw [qset_ne _ _ (by omega)]; first | assumption | exact qset_self _ _ _ | (rw [qset_ne _ _ (by omega)]; first | assumption | exact qset_self _ _ _ | (rw [qset_ne _ _ (by omega)]; first | assumption | exact qset_self _ _ _ | (rw [qset_ne _ _ (by omega)]; first | assumption | exact qset_self _ _ _))))))) rfl ?_
    refine v_iload i_G_copyLiving_37 rfl ?_
    refine v_iald B (by first | assumption | exact qset_self _ _ _ | (rw [qset_ne _ _ (by omega)]; first | assumption | exact qset_self _ _ _ | (rw [qset_ne _ _ (by omega)]; first | assumption | exact qset_self _ _ _ | (rw [qset_ne _ _ (by omega)]; first | assumption | exact qset_self _ _ _ | (rw [qset_ne _ _ (by omega)]; first | assumption | exact qset_self _ _ _ | (rw [qset_ne _ _ (by omega)]; first | assumption | exact qset_self _ _ _ | (rw [qset_ne _ _ (by omega)]; first | assumption | exact qset_self _ _ _))))))) rfl (by omega) (by omega) i_G_copyLiving_39 ?_
    refine v_iload_n i_G_copyLiving_40 rfl ?_
    rw [g1]
    refine v_icmp_gt (tgt := 63) i_G_copyLiving_41 rfl (fun h41 => ?_) (fun h41 => ?_)
    · refine tail _ h ?_ hs
      rw [gcopy, if_neg (fun q => absurd h41 (Int32.not_lt.mpr q.2.2))]
      exact hr
    refine v_aload i_G_copyLiving_44 rfl ?_
    refine v_aload_n i_G_copyLiving_46 rfl ?_
    refine v_get B i_G_copyLiving_47 (by first | assumption | exact qset_self _ _ _ | (rw [qset_ne _ _ (by omega)]; first | assumption | exact qset_self _ _ _ | (rw [qset_ne _ _ (by omega)]; first | assumption | exact qset_self _ _ _ | (rw [qset_ne _ _ (by omega)]; first | assumption | exact qset_self _ _ _ | (rw [qset_ne _ _ (by omega)]; first | assumption | exact qset_self _ _ _ | (rw [qset_ne _ _ (by omega)]; first | assumption | exact qset_self _ _ _ | (rw [qset_ne _ _ (by omega)]; first | assumption | exact qset_self _ _ _))))))) rfl ?_
    refine v_iload i_G_copyLiving_50 rfl ?_
    refine v_iald B (by first | assumption | exact qset_self _ _ _ | (rw [qset_ne _ _ (by omega)]; first | assumption | exact qset_self _ _ _ | (rw [qset_ne _ _ (by omega)]; first | assumption | exact qset_self _ _ _ | (rw [qset_ne _ _ (by omega)]; first | assumption | exact qset_self _ _ _ | (rw [qset_ne _ _ (by omega)]; first | assumption | exact qset_self _ _ _ | (rw [qset_ne _ _ (by omega)]; first | assumption | exact qset_self _ _ _ | (rw [qset_ne _ _ (by omega)]; first | assumption | exact qset_self _ _ _))))))) rfl (by omega) (by omega) i_G_copyLiving_52 ?_
    refine v_aload_n i_G_copyLiving_53 rfl ?_
    refine v_get B i_G_copyLiving_54 (by first | assumption | exact qset_self _ _ _ | (rw [qset_ne _ _ (by omega)]; first | assumption | exact qset_self _ _ _ | (rw [qset_ne _ _ (by omega)]; first | assumption | exact qset_self _ _ _ | (rw [qset_ne _ _ (by omega)]; first | assumption | exact qset_self _ _ _ | (rw [qset_ne _ _ (by omega)]; first | assumption | exact qset_self _ _ _ | (rw [qset_ne _ _ (by omega)]; first | assumption | exact qset_self _ _ _ | (rw [qset_ne _ _ (by omega)]; first | assumption | exact qset_self _ _ _))))))) rfl ?_
    refine v_iload i_G_copyLiving_57 rfl ?_
    refine v_lald B (by first | assumption | exact qset_self _ _ _ | (rw [qset_ne _ _ (by omega)]; first | assumption | exact qset_self _ _ _ | (rw [qset_ne _ _ (by omega)]; first | assumption | exact qset_self _ _ _ | (rw [qset_ne _ _ (by omega)]; first | assumption | exact qset_self _ _ _ | (rw [qset_ne _ _ (by omega)]; first | assumption | exact qset_self _ _ _ | (rw [qset_ne _ _ (by omega)]; first | assumption | exact qset_self _ _ _ | (rw [qset_ne _ _ (by omega)]; first | assumption | exact qset_self _ _ _))))))) rfl (by omega) (by omega) i_G_copyLiving_59 ?_
    rw [g1, g4]
    have hlen := gcopy_len P.2.2.2 v lo hi R i
    refine v_inv B i_G_copyLiving_60 kn_m_R_insert (c_R_insert B hr (en P.2.2.2 i).1 (en P.2.2.2 i).2.2.2 (by omega)) hr.1 rfl rfl (Nat.le_of_ble_eq_true rfl) ⟨by decide, by decide, by first | decide | (simp; omega), by first | decide | (simp; omega)⟩ rfl (fun r X' hq => ?_) (fun _ _ h => False.elim h)
    obtain ⟨rfl, hr2, hs2⟩ := hq
    refine tail X' (h.same hs2 (by omega)) ?_ (hs.trans hs2)
    rw [gcopy, if_pos ⟨hal, Int32.not_lt.mp h30, Int32.not_lt.mp h41⟩]
    exact hr2
theorem c_G_copyLiving (B : qB l s0 C) (h : PgAt X a num P) (v : Nat) (hv : v < 2 ^ 30) (lo hi : Int32) {b cap : Nat} {R : qRw} (hr : RowAt X b cap R) (hcap : R.length + P.2.2.2.length ≤ cap) (hd : a + 5 ≤ b ∨ b + 3 ≤ a) :
    qMet l s0 C m_G_copyLiving rm_G_copyLiving [.ref a, .int (nI v), .int lo, .int hi, .ref b] X (fun r X' => r = none ∧ RowAt X' b cap (gcopy P.2.2.2 v lo hi R P.2.2.2.length) ∧ qSame X X' b (b + 3)) (fun _ _ => False) := by
  refine q_of (by decide +kernel) (Nat.le_of_ble_eq_true rfl) ?_
  refine v_L (L' := [(0, .ref a), (1, .int (nI v)), (2, .int lo), (3, .int hi), (4, .ref b)]) rfl ?_
  refine v_iconst (v := 0) i_G_copyLiving_0 rfl ?_
  refine v_istore i_G_copyLiving_1 (by decide) rfl ?_
  refine v_loc [(0, .ref a), (1, .int (nI v)), (2, .int lo), (3, .int hi), (4, .ref b), (5, .int (nI 0))] rfl ?_
  exact c_G_copyLiving_loop B v hv lo hi hcap hd _ 0 X (Nat.zero_add _) h hr (qSame.rf X _ _)
theorem c_G_isChangedSince_loop (B : qB l s0 C) (h : PgAt X a num P) (v : Nat) (hv : v < 2 ^ 30) (c0 : Bool) : ∀ (j i : Nat), i + j = P.2.2.2.length →
      qV l s0 C m_G_isChangedSince rm_G_isChangedSince (fun r X' => X = X' ∧ r = some (.int (bI (c0 || gchgE P.2.2.2 v P.2.2.2.length)))) (fun _ _ => False) 0 0 X 24 [(0, .ref a), (1, .int (nI v)), (2, .int (bI (c0 || gchgE P.2.2.2 v i))), (3, .int (nI i))] [] := by
  obtain ⟨h0, ⟨ok1, ok2, ok3, ok4, ok5⟩, fk, ff, ft, fw, hk, hf, ht, hw, hg⟩ := id h
  intro j
  induction j with
  | zero =>
    intro i hi
    refine v_iload_n i_G_isChangedSince_24 rfl ?_
    refine v_aload_n i_G_isChangedSince_25 rfl ?_
    refine v_get B i_G_isChangedSince_26 (by first | assumption | exact qset_self _ _ _ | (rw [qset_ne _ _ (by omega)]; first | assumption | exact qset_self _ _ _ | (rw [qset_ne _ _ (by omega)]; first | assumption | exact qset_self _ _ _ | (rw [qset_ne _ _ (by omega)]; first | assumption | exact qset_self _ _ _ | (rw [qset_ne _ _ (by omega)]; first | assumption | exact qset_self _ _ _ | (rw [qset_ne _ _ (by omega)]; first | assumption | exact qset_self _ _ _ | (rw [qset_ne _ _ (by omega)]; first | assumption | exact qset_self _ _ _))))))) rfl ?_
    refine v_icmp_ge (tgt := 68) i_G_isChangedSince_29 rfl (fun h29 => ?_) (fun h29 => ?_)
    · refine v_iload_n i_G_isChangedSince_68 rfl ?_
      refine v_zret i_G_isChangedSince_69 rfl (bI_01 _) (by decide) (by decide) ⟨rfl, ?_⟩
      rw [show i = P.2.2.2.length by omega]
    · exact absurd (nI_le (by omega) (by omega)) h29
  | succ j ih =>
    intro i hi
    have tail : ∀ b : Bool, (c0 || gchgE P.2.2.2 v (i + 1)) = b → qV l s0 C m_G_isChangedSince rm_G_isChangedSince (fun r X' => X = X' ∧ r = some (.int (bI (c0 || gchgE P.2.2.2 v P.2.2.2.length)))) (fun _ _ => False) 0 0 X 61 [(0, .ref a), (1, .int (nI v)), (2, .int (bI (c0 || gchgE P.2.2.2 v i))), (3, .int (nI i))] [.int (bI b)] := by
      intro b hb
      refine v_istore_n i_G_isChangedSince_61 (by decide) rfl ?_
      refine v_iinc (v := nI (i + 1)) i_G_isChangedSince_62 rfl (nI_1 i) (by decide) rfl ?_
      refine v_goto (tgt := 24) i_G_isChangedSince_65 rfl ?_
      refine v_loc [(0, .ref a), (1, .int (nI v)), (2, .int (bI (c0 || gchgE P.2.2.2 v (i + 1)))), (3, .int (nI (i + 1)))] (by rw [hb]; rfl) (ih (i + 1) (by omega))
    refine v_iload_n i_G_isChangedSince_24 rfl ?_
    refine v_aload_n i_G_isChangedSince_25 rfl ?_
    refine v_get B i_G_isChangedSince_26 (by first | assumption | exact qset_self _ _ _ | (rw [qset_ne _ _ (by omega)]; first | assumption | exact qset_self _ _ _ | (rw [qset_ne _ _ (by omega)]; first | assumption | exact qset_self _ _ _ | (rw [qset_ne _ _ (by omega)]; first | assumption | exact qset_self _ _ _ | (rw [qset_ne _ _ (by omega)]; first | assumption | exact qset_self _ _ _ | (rw [qset_ne _ _ (by omega)]; first | assumption | exact qset_self _ _ _ | (rw [qset_ne _ _ (by omega)]; first | assumption | exact qset_self _ _ _))))))) rfl ?_
    refine v_icmp_ge (tgt := 68) i_G_isChangedSince_29 rfl (fun h29 => ?_) (fun h29 => ?_)
    · exact absurd h29 (nI_ge (by omega) (by omega))
    refine v_iload_n i_G_isChangedSince_32 rfl ?_
    refine v_if_ne (tgt := 68) i_G_isChangedSince_33 rfl (fun h33 => ?_) (fun h33 => ?_)
    · refine v_iload_n i_G_isChangedSince_68 rfl ?_
      refine v_zret i_G_isChangedSince_69 rfl (bI_01 _) (by decide) (by decide) ⟨rfl, ?_⟩
      have h1 := bI_ne h33
      rw [h1]
      cases c0 with
      | true => rfl
      | false =>
        have h2 := gchgE_mono (es := P.2.2.2) (v := v) (n := i) (by simpa using h1) (j + 1)
        rw [show i + (j + 1) = P.2.2.2.length by omega] at h2
        rw [h2]
        rfl
    have h1 := bI_0.mp h33
    obtain ⟨g1, g2, g3, -⟩ := hg i (by omega)
    obtain ⟨o1, o2⟩ := ok5 i (by omega)
    refine v_aload_n i_G_isChangedSince_36 rfl ?_
    refine v_get B i_G_isChangedSince_37 (by first | assumption | exact qset_self _ _ _ | (rw [qset_ne _ _ (by omega)]; first | assumption | exact qset_self _ _ _ | (rw [qset_ne _ _ (by omega)]; first | assumption | exact qset_self _ _ _ | (rw [qset_ne _ _ (by omega)]; first | assumption | exact qset_self _ _ _ | (rw [qset_ne _ _ (by omega)]; first | assumption | exact qset_self _ _ _ | (rw [qset_ne _ _ (by omega)]; first | assumption | exact qset_self _ _ _ | (rw [qset_ne _ _ (by omega)]; first | assumption | exact qset_self _ _ _))))))) rfl ?_
    refine v_iload_n i_G_isChangedSince_40 rfl ?_
    refine v_iald B (by first | assumption | exact qset_self _ _ _ | (rw [qset_ne _ _ (by omega)]; first | assumption | exact qset_self _ _ _ | (rw [qset_ne _ _ (by omega)]; first | assumption | exact qset_self _ _ _ | (rw [qset_ne _ _ (by omega)]; first | assumption | exact qset_self _ _ _ | (rw [qset_ne _ _ (by omega)]; first | assumption | exact qset_self _ _ _ | (rw [qset_ne _ _ (by omega)]; first | assumption | exact qset_self _ _ _ | (rw [qset_ne _ _ (by omega)]; first | assumption | exact qset_self _ _ _))))))) rfl (by omega) (by omega) i_G_isChangedSince_41 ?_
    refine v_iload_n i_G_isChangedSince_42 rfl ?_
    rw [g2]
    refine v_icmp_gt (tgt := 56) i_G_isChangedSince_43 rfl (fun h43 => ?_) (fun h43 => ?_)
    · refine v_iconst (v := 1) i_G_isChangedSince_56 rfl ?_
      refine v_goto (tgt := 61) i_G_isChangedSince_57 rfl ?_
      refine tail true ?_
      have h2 := (nI_ltI (by omega) (by omega)).mp h43
      simp [gchgE, h2]
    have h2 : ¬ v < (en P.2.2.2 i).2.1 := fun q => h43 (nI_lt q (by omega))
    refine v_aload_n i_G_isChangedSince_46 rfl ?_
    refine v_get B i_G_isChangedSince_47 (by first | assumption | exact qset_self _ _ _ | (rw [qset_ne _ _ (by omega)]; first | assumption | exact qset_self _ _ _ | (rw [qset_ne _ _ (by omega)]; first | assumption | exact qset_self _ _ _ | (rw [qset_ne _ _ (by omega)]; first | assumption | exact qset_self _ _ _ | (rw [qset_ne _ _ (by omega)]; first | assumption | exact qset_self _ _ _ | (rw [qset_ne _ _ (by omega)]; first | assumption | exact qset_self _ _ _ | (rw [qset_ne _ _ (by omega)]; first | assumption | exact qset_self _ _ _))))))) rfl ?_
    refine v_iload_n i_G_isChangedSince_50 rfl ?_
    refine v_iald B (by first | assumption | exact qset_self _ _ _ | (rw [qset_ne _ _ (by omega)]; first | assumption | exact qset_self _ _ _ | (rw [qset_ne _ _ (by omega)]; first | assumption | exact qset_self _ _ _ | (rw [qset_ne _ _ (by omega)]; first | assumption | exact qset_self _ _ _ | (rw [qset_ne _ _ (by omega)]; first | assumption | exact qset_self _ _ _ | (rw [qset_ne _ _ (by omega)]; first | assumption | exact qset_self _ _ _ | (rw [qset_ne _ _ (by omega)]; first | assumption | exact qset_self _ _ _))))))) rfl (by omega) (by omega) i_G_isChangedSince_51 ?_
    refine v_iload_n i_G_isChangedSince_52 rfl ?_
    rw [g3]
    refine v_icmp_le (tgt := 60) i_G_isChangedSince_53 rfl (fun h53 => ?_) (fun h53 => ?_)
    · refine v_iconst (v := 0) i_G_isChangedSince_60 rfl ?_
      refine tail false ?_
      have h3 : ¬ ogt (en P.2.2.2 i).2.2.1 v = true := fun q => absurd ((ogt_iff o2 hv).mpr q) (Int32.not_lt.mpr h53)
      simp only [Bool.or_eq_false_iff] at h1 ⊢
      refine ⟨h1.1, ?_⟩
      simp only [gchgE, Bool.or_eq_false_iff]
      exact ⟨h1.2, by simpa using h2, by simpa using h3⟩
    · refine v_iconst (v := 1) i_G_isChangedSince_56 rfl ?_
      refine v_goto (tgt := 61) i_G_isChangedSince_57 rfl ?_
      refine tail true ?_
      have h3 := (ogt_iff o2 hv).mp (Int32.not_le.mp h53)
      simp [gchgE, h3]
theorem c_G_isChangedSince (B : qB l s0 C) (h : PgAt X a num P) (v : Nat) (hv : v < 2 ^ 30) : qMet l s0 C m_G_isChangedSince rm_G_isChangedSince [.ref a, .int (nI v)] X (fun r X' => X = X' ∧ r = some (.int (bI (gchg P v)))) (fun _ _ => False) := by
  obtain ⟨h0, ⟨ok1, ok2, ok3, ok4, ok5⟩, -⟩ := id h
  refine q_of (by decide +kernel) (Nat.le_of_ble_eq_true rfl) ?_
  refine v_L (L' := [(0, .ref a), (1, .int (nI v))]) rfl ?_
  have go : ∀ b : Bool, (decide (v < P.2.1) || ogt P.2.2.1 v) = b → qV l s0 C m_G_isChangedSince rm_G_isChangedSince (fun r X' => X = X' ∧ r = some (.int (bI (gchg P v)))) (fun _ _ => False) 0 0 X 21 [(0, .ref a), (1, .int (nI v))] [.int (bI b)] := by
    intro b hb
    refine v_istore_n i_G_isChangedSince_21 (by decide) rfl ?_
    refine v_iconst (v := 0) i_G_isChangedSince_22 rfl ?_
    refine v_istore_n i_G_isChangedSince_23 (by decide) rfl ?_
    refine v_loc [(0, .ref a), (1, .int (nI v)), (2, .int (bI (b || gchgE P.2.2.2 v 0))), (3, .int (nI 0))] (by cases b <;> rfl) ?_
    have h9 := c_G_isChangedSince_loop B h v hv b P.2.2.2.length 0 (Nat.zero_add _)
    rw [gchg, hb]
    exact h9
  refine v_aload_n i_G_isChangedSince_0 rfl ?_
  refine v_get B i_G_isChangedSince_1 (by first | assumption | exact qset_self _ _ _ | (rw [qset_ne _ _ (by omega)]; first | assumption | exact qset_self _ _ _ | (rw [qset_ne _ _ (by omega)]; first | assumption | exact qset_self _ _ _ | (rw [qset_ne _ _ (by omega)]; first | assumption | exact qset_self _ _ _ | (rw [qset_ne _ _ (by omega)]; first | assumption | exact qset_self _ _ _ | (rw [qset_ne _ _ (by omega)]; first | assumption | exact qset_self _ _ _ | (rw [qset_ne _ _ (by omega)]; first | assumption | exact qset_self _ _ _))))))) rfl ?_
  refine v_iload_n i_G_isChangedSince_4 rfl ?_
  refine v_icmp_gt (tgt := 16) i_G_isChangedSince_5 rfl (fun h5 => ?_) (fun h5 => ?_)
  · refine v_iconst (v := 1) i_G_isChangedSince_16 rfl ?_
    refine v_goto (tgt := 21) i_G_isChangedSince_17 rfl ?_
    refine go true ?_
    have h2 := (nI_ltI (by omega) (by omega)).mp h5
    simp [h2]
  have h2 : ¬ v < P.2.1 := fun q => h5 (nI_lt q (by omega))
  refine v_aload_n i_G_isChangedSince_8 rfl ?_
  refine v_get B i_G_isChangedSince_9 (by first | assumption | exact qset_self _ _ _ | (rw [qset_ne _ _ (by omega)]; first | assumption | exact qset_self _ _ _ | (rw [qset_ne _ _ (by omega)]; first | assumption | exact qset_self _ _ _ | (rw [qset_ne _ _ (by omega)]; first | assumption | exact qset_self _ _ _ | (rw [qset_ne _ _ (by omega)]; first | assumption | exact qset_self _ _ _ | (rw [qset_ne _ _ (by omega)]; first | assumption | exact qset_self _ _ _ | (rw [qset_ne _ _ (by omega)]; first | assumption | exact qset_self _ _ _))))))) rfl ?_
  refine v_iload_n i_G_isChangedSince_12 rfl ?_
  refine v_icmp_le (tgt := 20) i_G_isChangedSince_13 rfl (fun h13 => ?_) (fun h13 => ?_)
  · refine v_iconst (v := 0) i_G_isChangedSince_20 rfl ?_
    refine go false ?_
    have h3 : ¬ ogt P.2.2.1 v = true := fun q => absurd ((ogt_iff ok3 hv).mpr q) (Int32.not_lt.mpr h13)
    simp only [Bool.or_eq_false_iff]
    exact ⟨by simpa using h2, by simpa using h3⟩
  · refine v_iconst (v := 1) i_G_isChangedSince_16 rfl ?_
    refine v_goto (tgt := 21) i_G_isChangedSince_17 rfl ?_
    refine go true ?_
    have h3 := (ogt_iff ok3 hv).mp (Int32.not_le.mp h13)
    simp [h3]
theorem c_G_renew (B : qB l s0 C) (h : PgAt X a num P) (lev v : Nat) (hlv : lev < 1000) (hv : v < 2 ^ 30) : qMet l s0 C m_G_renew rm_G_renew [.ref a, .int (nI lev), .int (nI v)] X (fun r X' => r = none ∧ PgAt X' a num (lev, v, none, []) ∧ qSame X X' a (a + 5)) (fun _ _ => False) := by
  obtain ⟨h0, ⟨ok1, ok2, ok3, ok4, ok5⟩, fk, ff, ft, fw, hk, hf, ht, hw, hg⟩ := h
  refine q_of (by decide +kernel) (Nat.le_of_ble_eq_true rfl) ?_
  refine v_L (L' := [(0, .ref a), (1, .int (nI lev)), (2, .int (nI v))]) rfl ?_
  refine v_aload_n i_G_renew_0 rfl ?_
  refine v_iload_n i_G_renew_1 rfl ?_
  refine v_put B i_G_renew_2 (by first | assumption | exact qset_self _ _ _ | (rw [qset_ne _ _ (by omega)]; first | assumption | exact qset_self _ _ _ | (rw [qset_ne _ _ (by omega)]; first | assumption | exact qset_self _ _ _ | (rw [qset_ne _ _ (by omega)]; first | assumption | exact qset_self _ _ _ | (rw [qset_ne _ _ (by omega)]; first | assumption | exact qset_self _ _ _ | (rw [qset_ne _ _ (by omega)]; first | assumption | exact qset_self _ _ _ | (rw [qset_ne _ _ (by omega)]; first | assumption | exact qset_self _ _ _))))))) (Nat.le_of_ble_eq_true rfl) rfl rfl ?_
  refine v_aload_n i_G_renew_5 rfl ?_
  refine v_iload_n i_G_renew_6 rfl ?_
  refine v_put B i_G_renew_7 (by first | assumption | exact qset_self _ _ _ | (rw [qset_ne _ _ (by omega)]; first | assumption | exact qset_self _ _ _ | (rw [qset_ne _ _ (by omega)]; first | assumption | exact qset_self _ _ _ | (rw [qset_ne _ _ (by omega)]; first | assumption | exact qset_self _ _ _ | (rw [qset_ne _ _ (by omega)]; first | assumption | exact qset_self _ _ _ | (rw [qset_ne _ _ (by omega)]; first | assumption | exact qset_self _ _ _ | (rw [qset_ne _ _ (by omega)]; first | assumption | exact qset_self _ _ _))))))) (Nat.le_of_ble_eq_true rfl) rfl rfl ?_
  refine v_aload_n i_G_renew_10 rfl ?_
  refine v_iconst (v := (-1)) i_G_renew_11 rfl ?_
  refine v_put B i_G_renew_12 (by first | assumption | exact qset_self _ _ _ | (rw [qset_ne _ _ (by omega)]; first | assumption | exact qset_self _ _ _ | (rw [qset_ne _ _ (by omega)]; first | assumption | exact qset_self _ _ _ | (rw [qset_ne _ _ (by omega)]; first | assumption | exact qset_self _ _ _ | (rw [qset_ne _ _ (by omega)]; first | assumption | exact qset_self _ _ _ | (rw [qset_ne _ _ (by omega)]; first | assumption | exact qset_self _ _ _ | (rw [qset_ne _ _ (by omega)]; first | assumption | exact qset_self _ _ _))))))) (Nat.le_of_ble_eq_true rfl) rfl rfl ?_
  refine v_aload_n i_G_renew_15 rfl ?_
  refine v_iconst (v := 0) i_G_renew_16 rfl ?_
  refine v_put B i_G_renew_17 (by first | assumption | exact qset_self _ _ _ | (rw [qset_ne _ _ (by omega)]; first | assumption | exact qset_self _ _ _ | (rw [qset_ne _ _ (by omega)]; first | assumption | exact qset_self _ _ _ | (rw [qset_ne _ _ (by omega)]; first | assumption | exact qset_self _ _ _ | (rw [qset_ne _ _ (by omega)]; first | assumption | exact qset_self _ _ _ | (rw [qset_ne _ _ (by omega)]; first | assumption | exact qset_self _ _ _ | (rw [qset_ne _ _ (by omega)]; first | assumption | exact qset_self _ _ _))))))) (Nat.le_of_ble_eq_true rfl) rfl rfl ?_
  refine v_vret i_G_renew_20 rfl (by decide) (by decide) ⟨rfl, ⟨?_, ⟨hlv, hv, fun t ht => (by cases ht), Nat.zero_le _, fun i hi => absurd hi (Nat.not_lt_zero i)⟩, fk, ff, ft, fw, (by first | assumption | exact qset_self _ _ _ | (rw [qset_ne _ _ (by omega)]; first | assumption | exact qset_self _ _ _ | (rw [qset_ne _ _ (by omega)]; first | assumption | exact qset_self _ _ _ | (rw [qset_ne _ _ (by omega)]; first | assumption | exact qset_self _ _ _ | (rw [qset_ne _ _ (by omega)]; first | assumption | exact qset_self _ _ _ | (rw [qset_ne _ _ (by omega)]; first | assumption | exact qset_self _ _ _ | (rw [qset_ne _ _ (by omega)]; first | assumption | exact qset_self _ _ _))))))), (by first | assumption | exact qset_self _ _ _ | (rw [qset_ne _ _ (by omega)]; first | assumption | exact qset_self _ _ _ | (rw [qset_ne _ _ (by omega)]; first | assumption | exact qset_self _ _ _ | (rw [qset_ne _ _ (by omega)]; first | assumption | exact qset_self _ _ _ | (rw [qset_ne _ _ (by omega)]; first | assumption | exact qset_self _ _ _ | (rw [qset_ne _ _ (by omega)]; first | assumption | exact qset_self _ _ _ | (rw [qset_ne _ _ (by omega)]; first | assumption | exact qset_self _ _ _))))))), (by first | assumption | exact qset_self _ _ _ | (rw [qset_ne _ _ (by omega)]; first | assumption | exact qset_self _ _ _ | (rw [qset_ne _ _ (by omega)]; first | assumption | exact qset_self _ _ _ | (rw [qset_ne _ _ (by omega)]; first | assumption | exact qset_self _ _ _ | (rw [qset_ne _ _ (by omega)]; first | assumption | exact qset_self _ _ _ | (rw [qset_ne _ _ (by omega)]; first | assumption | exact qset_self _ _ _ | (rw [qset_ne _ _ (by omega)]; first | assumption | exact qset_self _ _ _))))))), (by first | assumption | exact qset_self _ _ _ | (rw [qset_ne _ _ (by omega)]; first | assumption | exact qset_self _ _ _ | (rw [qset_ne _ _ (by omega)]; first | assumption | exact qset_self _ _ _ | (rw [qset_ne _ _ (by omega)]; first | assumption | exact qset_self _ _ _ | (rw [qset_ne _ _ (by omega)]; first | assumption | exact qset_self _ _ _ | (rw [qset_ne _ _ (by omega)]; first | assumption | exact qset_self _ _ _ | (rw [qset_ne _ _ (by omega)]; first | assumption | exact qset_self _ _ _))))))), fun i hi => absurd hi (Nat.not_lt_zero i)⟩, ?_⟩
  · rw [qset_self]; rfl
  · exact ((((qSame.rf X a (a + 5)).set _ (by omega) (by omega)).set _ (by omega) (by omega)).set _ (by omega) (by omega)).set _ (by omega) (by omega)
theorem c_G_end (B : qB l s0 C) (h : PgAt X a num P) (o : Option Nat) (ho : oLt o P.2.2.2.length) (v : Nat) (hv : v < 2 ^ 30) : qMet l s0 C m_G_end rm_G_end [.ref a, .int (vO o), .int (nI v)] X (fun r X' => r = none ∧ PgAt X' a num (P.1, P.2.1, P.2.2.1, gend P.2.2.2 o v) ∧ qSame X X' a (a + 5)) (fun _ _ => False) := by
  obtain ⟨h0, ⟨ok1, ok2, ok3, ok4, ok5⟩, fk, ff, ft, fw, hk, hf, ht, hw, hg⟩ := id h
  refine q_of (by decide +kernel) (Nat.le_of_ble_eq_true rfl) ?_
  refine v_L (L' := [(0, .ref a), (1, .int (vO o)), (2, .int (nI v))]) rfl ?_
  refine v_iload_n i_G_end_0 rfl ?_
  cases o with
  | none =>
    refine v_if_lt (tgt := 19) i_G_end_1 rfl (fun h1 => ?_) (fun h1 => ?_)
    · exact v_vret i_G_end_19 rfl (by decide) (by decide) ⟨rfl, h, qSame.rf X _ _⟩
    · exact absurd (by decide) h1
  | some j =>
    have hj := ho j rfl
    refine v_if_lt (tgt := 19) i_G_end_1 rfl (fun h1 => ?_) (fun h1 => ?_)
    · exact absurd h1 (nI_pos (by omega))
    refine v_iload_n i_G_end_4 rfl ?_
    refine v_aload_n i_G_end_5 rfl ?_
    refine v_get B i_G_end_6 (by first | assumption | exact qset_self _ _ _ | (rw [qset_ne _ _ (by omega)]; first | assumption | exact qset_self _ _ _ | (rw [qset_ne _ _ (by omega)]; first | assumption | exact qset_self _ _ _ | (rw [qset_ne _ _ (by omega)]; first | assumption | exact qset_self _ _ _ | (rw [qset_ne _ _ (by omega)]; first | assumption | exact qset_self _ _ _ | (rw [qset_ne _ _ (by omega)]; first | assumption | exact qset_self _ _ _ | (rw [qset_ne _ _ (by omega)]; first | assumption | exact qset_self _ _ _))))))) rfl ?_
    refine v_icmp_ge (tgt := 19) i_G_end_9 rfl (fun h9 => ?_) (fun h9 => ?_)
    · exact absurd h9 (nI_ge (by omega) (by omega))
    refine v_aload_n i_G_end_12 rfl ?_
    refine v_get B i_G_end_13 (by first | assumption | exact qset_self _ _ _ | (rw [qset_ne _ _ (by omega)]; first | assumption | exact qset_self _ _ _ | (rw [qset_ne _ _ (by omega)]; first | assumption | exact qset_self _ _ _ | (rw [qset_ne _ _ (by omega)]; first | assumption | exact qset_self _ _ _ | (rw [qset_ne _ _ (by omega)]; first | assumption | exact qset_self _ _ _ | (rw [qset_ne _ _ (by omega)]; first | assumption | exact qset_self _ _ _ | (rw [qset_ne _ _ (by omega)]; first | assumption | exact qset_self _ _ _))))))) rfl ?_
    refine v_iload_n i_G_end_16 rfl ?_
    refine v_iload_n i_G_end_17 rfl ?_
    refine v_iast (j := j) B ht rfl (by omega) (by omega) i_G_end_18 ?_
    refine v_vret i_G_end_19 rfl (by decide) (by decide) ⟨rfl, ⟨?_, ⟨ok1, ok2, ok3, ?_, ?_⟩, fk, ff, upd ft j (nI v), fw, (by first | assumption | exact qset_self _ _ _ | (rw [qset_ne _ _ (by omega)]; first | assumption | exact qset_self _ _ _ | (rw [qset_ne _ _ (by omega)]; first | assumption | exact qset_self _ _ _ | (rw [qset_ne _ _ (by omega)]; first | assumption | exact qset_self _ _ _ | (rw [qset_ne _ _ (by omega)]; first | assumption | exact qset_self _ _ _ | (rw [qset_ne _ _ (by omega)]; first | assumption | exact qset_self _ _ _ | (rw [qset_ne _ _ (by omega)]; first | assumption | exact qset_self _ _ _))))))), (by first | assumption | exact qset_self _ _ _ | (rw [qset_ne _ _ (by omega)]; first | assumption | exact qset_self _ _ _ | (rw [qset_ne _ _ (by omega)]; first | assumption | exact qset_self _ _ _ | (rw [qset_ne _ _ (by omega)]; first | assumption | exact qset_self _ _ _ | (rw [qset_ne _ _ (by omega)]; first | assumption | exact qset_self _ _ _ | (rw [qset_ne _ _ (by omega)]; first | assumption | exact qset_self _ _ _ | (rw [qset_ne _ _ (by omega)]; first | assumption | exact qset_self _ _ _))))))), (by first | assumption | exact qset_self _ _ _ | (rw [qset_ne _ _ (by omega)]; first | assumption | exact qset_self _ _ _ | (rw [qset_ne _ _ (by omega)]; first | assumption | exact qset_self _ _ _ | (rw [qset_ne _ _ (by omega)]; first | assumption | exact qset_self _ _ _ | (rw [qset_ne _ _ (by omega)]; first | assumption | exact qset_self _ _ _ | (rw [qset_ne _ _ (by omega)]; first | assumption | exact qset_self _ _ _ | (rw [qset_ne _ _ (by omega)]; first | assumption | exact qset_self _ _ _))))))), (by first | assumption | exact qset_self _ _ _ | (rw [qset_ne _ _ (by omega)]; first | assumption | exact qset_self _ _ _ | (rw [qset_ne _ _ (by omega)]; first | assumption | exact qset_self _ _ _ | (rw [qset_ne _ _ (by omega)]; first | assumption | exact qset_self _ _ _ | (rw [qset_ne _ _ (by omega)]; first | assumption | exact qset_self _ _ _ | (rw [qset_ne _ _ (by omega)]; first | assumption | exact qset_self _ _ _ | (rw [qset_ne _ _ (by omega)]; first | assumption | exact qset_self _ _ _))))))), ?_⟩, (qSame.rf X _ _).set _ (by omega) (by omega)⟩
    · rw [qset_ne _ _ (by omega), gend_len]; exact h0
    · rw [gend_len]; exact ok4
    · intro i hi
      rw [gend_len] at hi
      show (en (P.2.2.2.set j _) i).2.1 < _ ∧ oLt (en (P.2.2.2.set j _) i).2.2.1 _
      rw [en_set _ _ _ _ hj]
      by_cases hij : i = j
      · subst hij; rw [if_pos rfl]; exact ⟨(ok5 i hi).1, fun t ht => by cases ht; exact hv⟩
      · rw [if_neg hij]; exact ok5 i hi
    · intro i hi
      rw [gend_len] at hi
      show fk i = (en (P.2.2.2.set j _) i).1 ∧ ff i = nI (en (P.2.2.2.set j _) i).2.1 ∧ upd ft j (nI v) i = vO (en (P.2.2.2.set j _) i).2.2.1 ∧ fw i = (en (P.2.2.2.set j _) i).2.2.2
      rw [en_set _ _ _ _ hj]
      obtain ⟨g1, g2, g3, g4⟩ := hg i hi
      by_cases hij : i = j
      · subst hij; rw [if_pos rfl, pk_us]; exact ⟨g1, g2, rfl, g4⟩
      · rw [if_neg hij, pk_un hij]; exact ⟨g1, g2, g3, g4⟩
theorem c_G_take_loop (B : qB l s0 C) {b cap : Nat} {R : qRw} (v : Nat) (hv : v < 2 ^ 30) (lo hi : Nat) (hlo : lo ≤ hi) (hhi : hi ≤ R.length) (hroom : P.2.2.2.length + (hi - lo) ≤ 16) (hd : a + 5 ≤ b ∨ b + 3 ≤ a) : ∀ (j n : Nat) (X' : qX), n + j = hi - lo → PgAt X' a num (P.1, P.2.1, P.2.2.1, P.2.2.2 ++ gtk R v lo n) → RowAt X' b cap R → qSame X X' a (a + 5) →
      qV l s0 C m_G_take rm_G_take (fun r X'' => r = none ∧ PgAt X'' a num (P.1, P.2.1, P.2.2.1, P.2.2.2 ++ gtk R v lo (hi - lo)) ∧ qSame X X'' a (a + 5)) (fun _ _ => False) 0 0 X' 3 [(0, .ref a), (1, .ref b), (3, .int (nI hi)), (4, .int (nI v)), (5, .int (nI (lo + n)))] [] := by
  intro j
  induction j with
  | zero =>
    intro n X' hn h hr hs
    obtain ⟨r0, rc, rcap, -⟩ := id hr
    refine v_iload i_G_take_3 rfl ?_
    refine v_if_lt (tgt := 101) i_G_take_5 rfl (fun h5 => ?_) (fun h5 => ?_)
    · exact absurd h5 (nI_pos (by omega))
    refine v_iload i_G_take_8 rfl ?_
    refine v_iload_n i_G_take_10 rfl ?_
    refine v_icmp_ge (tgt := 101) i_G_take_11 rfl (fun h11 => ?_) (fun h11 => ?_)
    · refine v_vret i_G_take_101 rfl (by decide) (by decide) ⟨rfl, ?_, hs⟩
      rw [show hi - lo = n by omega]
      exact h
    · exact absurd (nI_le (by omega) (by omega)) h11
  | succ j ih =>
    intro n X' hn h hr hs
    obtain ⟨h0, ⟨ok1, ok2, ok3, ok4, ok5⟩, fk, ff, ft, fw, hk, hf, ht, hw, hg⟩ := id h
    obtain ⟨r0, rc, rcap, gk, gw, rk1, rw1, rf⟩ := id hr
    obtain ⟨m, hm⟩ : ∃ m, (P.2.2.2 ++ gtk R v lo n).length = m := ⟨_, rfl⟩
    have hml : m = P.2.2.2.length + n := by rw [← hm, List.length_append, gtk_len]
    have h0 : X'.1 a = some (.inr (1, [.int (nI num), .ref (a + 1), .ref (a + 2), .ref (a + 3), .ref (a + 4), .int (nI P.1), .int (nI P.2.1), .int (vO P.2.2.1), .int (nI m)])) := by rw [← hm]; exact h0
    refine v_iload i_G_take_3 rfl ?_
    refine v_if_lt (tgt := 101) i_G_take_5 rfl (fun h5 => ?_) (fun h5 => ?_)
    · exact absurd h5 (nI_pos (by omega))
    refine v_iload i_G_take_8 rfl ?_
    refine v_iload_n i_G_take_10 rfl ?_
    refine v_icmp_ge (tgt := 101) i_G_take_11 rfl (fun h11 => ?_) (fun h11 => ?_)
    · exact absurd h11 (nI_ge (by omega) (by omega))
    refine v_iload i_G_take_14 rfl ?_
    refine v_aload_n i_G_take_16 rfl ?_
    refine v_get B i_G_take_17 (by first | assumption | exact qset_self _ _ _ | (rw [qset_ne _ _ (by omega)]; first | assumption | exact qset_self _ _ _ | (rw [qset_ne _ _ (by omega)]; first | assumption | exact qset_self _ _ _ | (rw [qset_ne _ _ (by omega)]; first | assumption | exact qset_self _ _ _ | (rw [qset_ne _ _ (by omega)]; first | assumption | exact qset_self _ _ _ | (rw [qset_ne _ _ (by omega)]; first | assumption | exact qset_self _ _ _ | (rw [qset_ne _ _ (by omega)]; first | assumption | exact qset_self _ _ _))))))) rfl ?_
    refine v_icmp_ge (tgt := 101) i_G_take_20 rfl (fun h20 => ?_) (fun h20 => ?_)
    · exact absurd h20 (nI_ge (by omega) (by omega))
    refine v_aload_n i_G_take_23 rfl ?_
    refine v_get B i_G_take_24 (by first | assumption | exact qset_self _ _ _ | (rw [qset_ne _ _ (by omega)]; first | assumption | exact qset_self _ _ _ | (rw [qset_ne _ _ (by omega)]; first | assumption | exact qset_self _ _ _ | (rw [qset_ne _ _ (by omega)]; first | assumption | exact qset_self _ _ _ | (rw [qset_ne _ _ (by omega)]; first | assumption | exact qset_self _ _ _ | (rw [qset_ne _ _ (by omega)]; first | assumption | exact qset_self _ _ _ | (rw [qset_ne _ _ (by omega)]; first | assumption | exact qset_self _ _ _))))))) rfl ?_
    refine v_bipush (v := 16) i_G_take_27 rfl ?_
    refine v_icmp_ge (tgt := 101) i_G_take_29 rfl (fun h29 => ?_) (fun h29 => ?_)
    · exact absurd h29 (nI_ge (a := m) (b := 16) (by omega) (by omega))
    refine v_aload_n i_G_take_32 rfl ?_
    refine v_get B i_G_take_33 (by first | assumption | exact qset_self _ _ _ | (rw [qset_ne _ _ (by omega)]; first | assumption | exact qset_self _ _ _ | (rw [qset_ne _ _ (by omega)]; first | assumption | exact qset_self _ _ _ | (rw [qset_ne _ _ (by omega)]; first | assumption | exact qset_self _ _ _ | (rw [qset_ne _ _ (by omega)]; first | assumption | exact qset_self _ _ _ | (rw [qset_ne _ _ (by omega)]; first | assumption | exact qset_self _ _ _ | (rw [qset_ne _ _ (by omega)]; first | assumption | exact qset_self _ _ _))))))) rfl ?_
    refine v_aload_n i_G_take_36 rfl ?_
    refine v_get B i_G_take_37 (by first | assumption | exact qset_self _ _ _ | (rw [qset_ne _ _ (by omega)]; first | assumption | exact qset_self _ _ _ | (rw [qset_ne _ _ (by omega)]; first | assumption | exact qset_self _ _ _ | (rw [qset_ne _ _ (by omega)]; first | assumption | exact qset_self _ _ _ | (rw [qset_ne _ _ (by omega)]; first | assumption | exact qset_self _ _ _ | (rw [qset_ne _ _ (by omega)]; first | assumption | exact qset_self _ _ _ | (rw [qset_ne _ _ (by omega)]; first | assumption | exact qset_self _ _ _))))))) rfl ?_
    refine v_aload_n i_G_take_40 rfl ?_
    refine v_get B i_G_take_41 (by first | assumption | exact qset_self _ _ _ | (rw [qset_ne _ _ (by omega)]; first | assumption | exact qset_self _ _ _ | (rw [qset_ne _ _ (by omega)]; first | assumption | exact qset_self _ _ _ | (rw [qset_ne _ _ (by omega)]; first | assumption | exact qset_self _ _ _ | (rw [qset_ne _ _ (by omega)]; first | assumption | exact qset_self _ _ _ | (rw [qset_ne _ _ (by omega)]; first | assumption | exact qset_self _ _ _ | (rw [qset_ne _ _ (by omega)]; first | assumption | exact qset_self _ _ _))))))) rfl ?_
    refine v_iload i_G_take_44 rfl ?_
    refine v_iald B (by first | assumption | exact qset_self _ _ _ | (rw [qset_ne _ _ (by omega)]; first | assumption | exact qset_self _ _ _ | (rw [qset_ne _ _ (by omega)]; first | assumption | exact qset_self _ _ _ | (rw [qset_ne _ _ (by omega)]; first | assumption | exact qset_self _ _ _ | (rw [qset_ne _ _ (by omega)]; first | assumption | exact qset_self _ _ _ | (rw [qset_ne _ _ (by omega)]; first | assumption | exact qset_self _ _ _ | (rw [qset_ne _ _ (by omega)]; first | assumption | exact qset_self _ _ _))))))) rfl (by omega) (by omega) i_G_take_46 ?_
    refine v_iast B (by first | assumption | exact qset_self _ _ _ | (rw [qset_ne _ _ (by omega)]; first | assumption | exact qset_self _ _ _ | (rw [qset_ne _ _ (by omega)]; first | assumption | exact qset_self _ _ _ | (rw [qset_ne _ _ (by omega)]; first | assumption | exact qset_self _ _ _ | (rw [qset_ne _ _ (by omega)]; first | assumption | exact qset_self _ _ _ | (rw [qset_ne _ _ (by omega)]; first | assumption | exact qset_self _ _ _ | (rw [qset_ne _ _ (by omega)]; first | assumption | exact qset_self _ _ _))))))) rfl (by omega) (by omega) i_G_take_47 ?_
    refine v_aload_n i_G_take_48 rfl ?_
    refine v_get B i_G_take_49 (by first | assumption | exact qset_self _ _ _ | (rw [qset_ne _ _ (by omega)]; first | assumption | exact qset_self _ _ _ | (rw [qset_ne _ _ (by omega)]; first | assumption | exact qset_self _ _ _ | (rw [qset_ne _ _ (by omega)]; first | assumption | exact qset_self _ _ _ | (rw [qset_ne _ _ (by omega)]; first | assumption | exact qset_self _ _ _ | (rw [qset_ne _ _ (by omega)]; first | assumption | exact qset_self _ _ _ | (rw [qset_ne _ _ (by omega)]; first | assumption | exact qset_self _ _ _))))))) rfl ?_
    refine v_aload_n i_G_take_52 rfl ?_
    refine v_get B i_G_take_53 (by first | assumption | exact qset_self _ _ _ | (rw [qset_ne _ _ (by omega)]; first | assumption | exact qset_self _ _ _ | (rw [qset_ne _ _ (by omega)]; first | assumption | exact qset_self _ _ _ | (rw [qset_ne _ _ (by omega)]; first | assumption | exact qset_self _ _ _ | (rw [qset_ne _ _ (by omega)]; first | assumption | exact qset_self _ _ _ | (rw [qset_ne _ _ (by omega)]; first | assumption | exact qset_self _ _ _ | (rw [qset_ne _ _ (by omega)]; first | assumption | exact qset_self _ _ _))))))) rfl ?_
    refine v_iload i_G_take_56 rfl ?_
    refine v_iast B (by first | assumption | exact qset_self _ _ _ | (rw [qset_ne _ _ (by omega)]; first | assumption | exact qset_self _ _ _ | (rw [qset_ne _ _ (by omega)]; first | assumption | exact qset_self _ _ _ | (rw [qset_ne _ _ (by omega)]; first | assumption | exact qset_self _ _ _ | (rw [qset_ne _ _ (by omega)]; first | assumption | exact qset_self _ _ _ | (rw [qset_ne _ _ (by omega)]; first | assumption | exact qset_self _ _ _ | (rw [qset_ne _ _ (by omega)]; first | assumption | exact qset_self _ _ _))))))) rfl (by omega) (by omega) i_G_take_58 ?_
    refine v_aload_n i_G_take_59 rfl ?_
    refine v_get B i_G_take_60 (by first | assumption | exact qset_self _ _ _ | (rw [qset_ne _ _ (by omega)]; first | assumption | exact qset_self _ _ _ | (rw [qset_ne _ _ (by omega)]; first | assumption | exact qset_self _ _ _ | (rw [qset_ne _ _ (by omega)]; first | assumption | exact qset_self _ _ _ | (rw [qset_ne _ _ (by omega)]; first | assumption | exact qset_self _ _ _ | (rw [qset_ne _ _ (by omega)]; first | assumption | exact qset_self _ _ _ | (rw [qset_ne _ _ (by omega)]; first | assumption | exact qset_self _ _ _))))))) rfl ?_
    refine v_aload_n i_G_take_63 rfl ?_
    refine v_get B i_G_take_64 (by first | assumption | exact qset_self _ _ _ | (rw [qset_ne _ _ (by omega)]; first | assumption | exact qset_self _ _ _ | (rw [qset_ne _ _ (by omega)]; first | assumption | exact qset_self _ _ _ | (rw [qset_ne _ _ (by omega)]; first | assumption | exact qset_self _ _ _ | (rw [qset_ne _ _ (by omega)]; first | assumption | exact qset_self _ _ _ | (rw [qset_ne _ _ (by omega)]; first | assumption | exact qset_self _ _ _ | (rw [qset_ne _ _ (by omega)]; first | assumption | exact qset_self _ _ _))))))) rfl ?_
    refine v_iconst (v := (-1)) i_G_take_67 rfl ?_
    refine v_iast B (by first | assumption | exact qset_self _ _ _ | (rw [qset_ne _ _ (by omega)]; first | assumption | exact qset_self _ _ _ | (rw [qset_ne _ _ (by omega)]; first | assumption | exact qset_self _ _ _ | (rw [qset_ne _ _ (by omega)]; first | assumption | exact qset_self _ _ _ | (rw [qset_ne _ _ (by omega)]; first | assumption | exact qset_self _ _ _ | (rw [qset_ne _ _ (by omega)]; first | assumption | exact qset_self _ _ _ | (rw [qset_ne _ _ (by omega)]; first | assumption | exact qset_self _ _ _))))))) rfl (by omega) (by omega) i_G_take_68 ?_
    refine v_aload_n i_G_take_69 rfl ?_
    refine v_get B i_G_take_70 (by first | assumption | exact qset_self _ _ _ | (rw [qset_ne _ _ (by omega)]; first | assumption | exact qset_self _ _ _ | (rw [qset_ne _ _ (by omega)]; first | assumption | exact qset_self _ _ _ | (rw [qset_ne _ _ (by omega)]; first | assumption | exact qset_self _ _ _ | (rw [qset_ne _ _ (by omega)]; first | assumption | exact qset_self _ _ _ | (rw [qset_ne _ _ (by omega)]; first | assumption | exact qset_self _ _ _ | (rw [qset_ne _ _ (by omega)]; first | assumption | exact qset_self _ _ _))))))) rfl ?_
    refine v_aload_n i_G_take_73 rfl ?_
    refine v_get B i_G_take_74 (by first | assumption | exact qset_self _ _ _ | (rw [qset_ne _ _ (by omega)]; first | assumption | exact qset_self _ _ _ | (rw [qset_ne _ _ (by omega)]; first | assumption | exact qset_self _ _ _ | (rw [qset_ne _ _ (by omega)]; first | assumption | exact qset_self _ _ _ | (rw [qset_ne _ _ (by omega)]; first | assumption | exact qset_self _ _ _ | (rw [qset_ne _ _ (by omega)]; first | assumption | exact qset_self _ _ _ | (rw [qset_ne _ _ (by omega)]; first | assumption | exact qset_self _ _ _))))))) rfl ?_
    refine v_aload_n i_G_take_77 rfl ?_
    refine v_get B i_G_take_78 (by first | assumption | exact qset_self _ _ _ | (rw [qset_ne _ _ (by omega)]; first | assumption | exact qset_self _ _ _ | (rw [qset_ne _ _ (by omega)]; first | assumption | exact qset_self _ _ _ | (rw [qset_ne _ _ (by omega)]; first | assumption | exact qset_self _ _ _ | (rw [qset_ne _ _ (by omega)]; first | assumption | exact qset_self _ _ _ | (rw [qset_ne _ _ (by omega)]; first | assumption | exact qset_self _ _ _ | (rw [qset_ne _ _ (by omega)]; first | assumption | exact qset_self _ _ _))))))) rfl ?_
    refine v_iload i_G_take_81 rfl ?_
    refine v_lald B (by first | assumption | exact qset_self _ _ _ | (rw [qset_ne _ _ (by omega)]; first | assumption | exact qset_self _ _ _ | (rw [qset_ne _ _ (by omega)]; first | assumption | exact qset_self _ _ _ | (rw [qset_ne _ _ (by omega)]; first | assumption | exact qset_self _ _ _ | (rw [qset_ne _ _ (by omega)]; first | assumption | exact qset_self _ _ _ | (rw [qset_ne _ _ (by omega)]; first | assumption | exact qset_self _ _ _ | (rw [qset_ne _ _ (by omega)]; first | assumption | exact qset_self _ _ _))))))) rfl (by omega) (by omega) i_G_take_83 ?_
    refine v_last B (by first | assumption | exact qset_self _ _ _ | (rw [qset_ne _ _ (by omega)]; first | assumption | exact qset_self _ _ _ | (rw [qset_ne _ _ (by omega)]; first | assumption | exact qset_self _ _ _ | (rw [qset_ne _ _ (by omega)]; first | assumption | exact qset_self _ _ _ | (rw [qset_ne _ _ (by omega)]; first | assumption | exact qset_self _ _ _ | (rw [qset_ne _ _ (by omega)]; first | assumption | exact qset_self _ _ _ | (rw [qset_ne _ _ (by omega)]; first | assumption | exact qset_self _ _ _))))))) rfl (by omega) (by omega) i_G_take_84 ?_
    refine v_aload_n i_G_take_85 rfl ?_
    refine v_dup i_G_take_86 rfl ?_
    refine v_get B i_G_take_87 (by first | assumption | exact qset_self _ _ _ | (rw [qset_ne _ _ (by omega)]; first | assumption | exact qset_self _ _ _ | (rw [qset_ne _ _ (by omega)]; first | assumption | exact qset_self _ _ _ | (rw [qset_ne _ _ (by omega)]; first | assumption | exact qset_self _ _ _ | (rw [qset_ne _ _ (by omega)]; first | assumption | exact qset_self _ _ _ | (rw [qset_ne _ _ (by omega)]; first | assumption | exact qset_self _ _ _ | (rw [qset_ne _ _ (by omega)]; first | assumption | exact qset_self _ _ _))))))) rfl ?_
    refine v_iconst (v := 1) i_G_take_90 rfl ?_
    refine v_iadd i_G_take_91 ?_
    refine v_put B i_G_take_92 (by first | assumption | exact qset_self _ _ _ | (rw [qset_ne _ _ (by omega)]; first | assumption | exact qset_self _ _ _ | (rw [qset_ne _ _ (by omega)]; first | assumption | exact qset_self _ _ _ | (rw [qset_ne _ _ (by omega)]; first | assumption | exact qset_self _ _ _ | (rw [qset_ne _ _ (by omega)]; first | assumption | exact qset_self _ _ _ | (rw [qset_ne _ _ (by omega)]; first | assumption | exact qset_self _ _ _ | (rw [qset_ne _ _ (by omega)]; first | assumption | exact qset_self _ _ _))))))) (Nat.le_of_ble_eq_true rfl) rfl rfl ?_
    refine v_iinc (v := nI (lo + (n + 1))) i_G_take_95 rfl (nI_1 (lo + n)) (by decide) rfl ?_
    refine v_goto (tgt := 3) i_G_take_98 rfl ?_
    refine v_loc [(0, .ref a), (1, .ref b), (3, .int (nI hi)), (4, .int (nI v)), (5, .int (nI (lo + (n + 1))))] rfl ?_
    have hS : qSame X' (qset (qset (qset (qset (qset X' (a + 1) (Sum.inl (0, 16, Sum.inl (upd fk m (gk (lo + n)))))) (a + 2) (Sum.inl (0, 16, Sum.inl (upd ff m (nI v))))) (a + 3) (Sum.inl (0, 16, Sum.inl (upd ft m (-1))))) (a + 4) (Sum.inl (1, 16, Sum.inr (Sum.inl (vp_updL fw m (gw (lo + n))))))) a (Sum.inr (1, [Value.int (nI num), Value.ref (a + 1), Value.ref (a + 2), Value.ref (a + 3), Value.ref (a + 4), Value.int (nI P.1), Value.int (nI P.2.1), Value.int (vO P.2.2.1), Value.int (nI m)].set 8 (Value.int (nI m + 1))))) a (a + 5) := (((((qSame.rf X' a (a + 5)).set _ (by omega) (by omega)).set _ (by omega) (by omega)).set _ (by omega) (by omega)).set _ (by omega) (by omega)).set _ (by omega) (by omega)
    refine ih (n + 1) _ (by omega) ?_ (hr.same hS (by omega)) (hs.trans hS)
    have hlen : (P.2.2.2 ++ gtk R v lo (n + 1)).length = m + 1 := by rw [List.length_append, gtk_len]; omega
    have hen : ∀ i, en (P.2.2.2 ++ gtk R v lo (n + 1)) i = if i < m then en (P.2.2.2 ++ gtk R v lo n) i else if i = m then (rk R (lo + n), v, none, rv R (lo + n)) else (0, 0, none, 0) := by
      intro i
      rw [gtk_succ, ← List.append_assoc, en_app, hm]
    refine ⟨?_, ⟨ok1, ok2, ok3, by show (P.2.2.2 ++ gtk R v lo (n + 1)).length ≤ 16; omega, ?_⟩, upd fk m (gk (lo + n)), upd ff m (nI v), upd ft m (-1), vp_updL fw m (gw (lo + n)), (by first | assumption | exact qset_self _ _ _ | (rw [qset_ne _ _ (by omega)]; first | assumption | exact qset_self _ _ _ | (rw [qset_ne _ _ (by omega)]; first | assumption | exact qset_self _ _ _ | (rw [qset_ne _ _ (by omega)]; first | assumption | exact qset_self _ _ _ | (rw [qset_ne _ _ (by omega)]; first | assumption | exact qset_self _ _ _ | (rw [qset_ne _ _ (by omega)]; first | assumption | exact qset_self _ _ _ | (rw [qset_ne _ _ (by omega)]; first | assumption | exact qset_self _ _ _))))))), (by first | assumption | exact qset_self _ _ _ | (rw [qset_ne _ _ (by omega)]; first | assumption | exact qset_self _ _ _ | (rw [qset_ne _ _ (by omega)]; first | assumption | exact qset_self _ _ _ | (rw [qset_ne _ _ (by omega)]; first | assumption | exact qset_self _ _ _ | (rw [qset_ne _ _ (by omega)]; first | assumption | exact qset_self _ _ _ | (rw [qset_ne _ _ (by omega)]; first | assumption | exact qset_self _ _ _ | (rw [qset_ne _ _ (by omega)]; first | assumption | exact qset_self _ _ _))))))), (by first | assumption | exact qset_self _ _ _ | (rw [qset_ne _ _ (by omega)]; first | assumption | exact qset_self _ _ _ | (rw [qset_ne _ _ (by omega)]; first | assumption | exact qset_self _ _ _ | (rw [qset_ne _ _ (by omega)]; first | assumption | exact qset_self _ _ _ | (rw [qset_ne _ _ (by omega)]; first | assumption | exact qset_self _ _ _ | (rw [qset_ne _ _ (by omega)]; first | assumption | exact qset_self _ _ _ | (rw [qset_ne _ _ (by omega)]; first | assumption | exact qset_self _ _ _))))))), (by first | assumption | exact qset_self _ _ _ | (rw [qset_ne _ _ (by omega)]; first | assumption | exact qset_self _ _ _ | (rw [qset_ne _ _ (by omega)]; first | assumption | exact qset_self _ _ _ | (rw [qset_ne _ _ (by omega)]; first | assumption | exact qset_self _ _ _ | (rw [qset_ne _ _ (by omega)]; first | assumption | exact qset_self _ _ _ | (rw [qset_ne _ _ (by omega)]; first | assumption | exact qset_self _ _ _ | (rw [qset_ne _ _ (by omega)]; first | assumption | exact qset_self _ _ _))))))), ?_⟩
    · rw [qset_self]
      show _ = some (Sum.inr (1, [Value.int (nI num), Value.ref (a + 1), Value.ref (a + 2), Value.ref (a + 3), Value.ref (a + 4), Value.int (nI P.1), Value.int (nI P.2.1), Value.int (vO P.2.2.1), Value.int (nI (P.2.2.2 ++ gtk R v lo (n + 1)).length)]))
      rw [hlen, nI_succ]
      rfl
    · intro i hi
      have hi : i < m + 1 := by rw [← hlen]; exact hi
      show (en (P.2.2.2 ++ gtk R v lo (n + 1)) i).2.1 < _ ∧ oLt (en (P.2.2.2 ++ gtk R v lo (n + 1)) i).2.2.1 _
      rw [hen]
      by_cases h1 : i < m
      · rw [if_pos h1]; exact ok5 i (by rw [hm]; exact h1)
      · rw [if_neg h1, if_pos (by omega)]; exact ⟨hv, fun t ht => by cases ht⟩
    · intro i hi
      have hi : i < m + 1 := by rw [← hlen]; exact hi
      show upd fk m (gk (lo + n)) i = (en (P.2.2.2 ++ gtk R v lo (n + 1)) i).1 ∧ upd ff m (nI v) i = nI (en (P.2.2.2 ++ gtk R v lo (n + 1)) i).2.1 ∧ upd ft m (-1) i = vO (en (P.2.2.2 ++ gtk R v lo (n + 1)) i).2.2.1 ∧ vp_updL fw m (gw (lo + n)) i = (en (P.2.2.2 ++ gtk R v lo (n + 1)) i).2.2.2
      rw [hen]
      by_cases h1 : i < m
      · rw [if_pos h1, pk_un (by omega), pk_un (by omega), pk_un (by omega), pk_uLn (by omega)]
        exact hg i (by rw [hm]; exact h1)
      · have h2 : i = m := by omega
        subst h2
        rw [if_neg h1, if_pos rfl, pk_us, pk_us, pk_us, pk_uLs]
        exact ⟨(rf (lo + n) (by omega)).1, rfl, rfl, (rf (lo + n) (by omega)).2⟩
theorem c_G_take (B : qB l s0 C) (h : PgAt X a num P) {b cap : Nat} {R : qRw} (hr : RowAt X b cap R) (v : Nat) (hv : v < 2 ^ 30) (lo hi : Nat) (hlo : lo ≤ hi) (hhi : hi ≤ R.length) (hroom : P.2.2.2.length + (hi - lo) ≤ 16) (hd : a + 5 ≤ b ∨ b + 3 ≤ a) :
    qMet l s0 C m_G_take rm_G_take [.ref a, .ref b, .int (nI lo), .int (nI hi), .int (nI v)] X (fun r X' => r = none ∧ PgAt X' a num (P.1, P.2.1, P.2.2.1, P.2.2.2 ++ gtk R v lo (hi - lo)) ∧ qSame X X' a (a + 5)) (fun _ _ => False) := by
  refine q_of (by decide +kernel) (Nat.le_of_ble_eq_true rfl) ?_
  refine v_L (L' := [(0, .ref a), (1, .ref b), (2, .int (nI lo)), (3, .int (nI hi)), (4, .int (nI v))]) rfl ?_
  refine v_iload_n i_G_take_0 rfl ?_
  refine v_istore i_G_take_1 (by decide) rfl ?_
  refine v_loc [(0, .ref a), (1, .ref b), (3, .int (nI hi)), (4, .int (nI v)), (5, .int (nI (lo + 0)))] rfl ?_
  refine c_G_take_loop B (P := P) (cap := cap) v hv lo hi hlo hhi hroom hd _ 0 X (Nat.zero_add _) ?_ hr (qSame.rf X _ _)
  have : P.2.2.2 ++ gtk R v lo 0 = P.2.2.2 := by simp [gtk]
  rw [this]
  exact h
end PW
