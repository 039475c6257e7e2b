/-! ROWS: keys in rising order, each with what belongs to it; an object at a, its arrays at a + 1 and a + 2 -/
abbrev qRw : Type := List (Int32 × Int64)
def rk (R : qRw) (i : Nat) : Int32 := (R.getD i (0, 0)).1
def rv (R : qRw) (i : Nat) : Int64 := (R.getD i (0, 0)).2
/-- nothing but the cells from lo to before hi has changed -/
def qSame (X X' : qX) (lo hi : Nat) : Prop := X'.2 = X.2 ∧ ∀ b : Nat, (b < lo ∨ hi ≤ b) → X'.1 b = X.1 b
theorem qSame.rf (X : qX) (lo hi : Nat) : qSame X X lo hi := ⟨rfl, fun _ _ => rfl⟩
theorem qSame.trans {X Y Z : qX} {lo hi : Nat} (h1 : qSame X Y lo hi) (h2 : qSame Y Z lo hi) : qSame X Z lo hi := ⟨h2.1.trans h1.1, fun b hb => (h2.2 b hb).trans (h1.2 b hb)⟩
theorem qSame.wide {X Y : qX} {lo hi lo' hi' : Nat} (h : qSame X Y lo hi) (h1 : lo' ≤ lo) (h2 : hi ≤ hi') : qSame X Y lo' hi' := ⟨h.1, fun b hb => h.2 b (by omega)⟩
theorem qSame.set {X Y : qX} {lo hi a : Nat} (h : qSame X Y lo hi) (e : qEn) (h1 : lo ≤ a) (h2 : a < hi) : qSame X (qset Y a e) lo hi := ⟨h.1, fun b hb => (qset_ne Y e (by omega)).trans (h.2 b hb)⟩
def RowAt (X : qX) (a cap : Nat) (R : qRw) : Prop := X.1 a = some (.inr (2, [.ref (a + 1), .ref (a + 2), .int (nI R.length)])) ∧ R.length ≤ cap ∧ cap < 100000 ∧
  ∃ (fk : Nat → Int32) (fw : Nat → Int64), X.1 (a + 1) = some (.inl (0, cap, .inl fk)) ∧ X.1 (a + 2) = some (.inl (1, cap, .inr (.inl fw))) ∧ ∀ i, i < R.length → fk i = rk R i ∧ fw i = rv R i
theorem RowAt.same {X X' : qX} {a cap lo hi : Nat} {R : qRw} (h : RowAt X a cap R) (hs : qSame X X' lo hi) (hd : a + 3 ≤ lo ∨ hi ≤ a) : RowAt X' a cap R := by
  obtain ⟨h1, h2, h3, fk, fw, h4, h5, h6⟩ := h
  exact ⟨by rw [hs.2 a (by omega)]; exact h1, h2, h3, fk, fw, by rw [hs.2 (a + 1) (by omega)]; exact h4, by rw [hs.2 (a + 2) (by omega)]; exact h5, h6⟩
theorem v_loc {l : Launch} {s0 : State} {C : qC} {μ : qM} {rm : Room} {Qp : Option Value → qX → Prop} {Ep : String → qX → Prop} {k n : Nat} {X : qX} {pc : Nat} {L : List (Nat × Value)} {st : List Value} (L' : List (Nat × Value)) (h : L'.map (fun q => qget L q.1) = L'.map (fun q => some q.2)) (K : qV l s0 C μ rm Qp Ep k n X pc L' st) : qV l s0 C μ rm Qp Ep k n X pc L st := v_sub (List.map_inj_left.mp h) K
def rkeyAt (R : qRw) (i : Int32) : Int64 := if 0 ≤ i ∧ i < nI R.length then (rk R i.toNatClampNeg).toInt64 else 9223372036854775807
def rwhatAt (R : qRw) (i : Int32) : Int64 := if 0 ≤ i ∧ i < nI R.length then rv R i.toNatClampNeg else 0
/-- the place behind the last of the first n that isn't above k -/
def rpos (R : qRw) (k : Int32) : Nat → Nat
  | 0 => 0
  | n + 1 => if k < rk R n then rpos R k n else n + 1
def rins (R : qRw) (k : Int32) (w : Int64) : qRw := R.take (rpos R k R.length) ++ (k, w) :: R.drop (rpos R k R.length)
def rlow (R : qRw) (k : Int32) : qRw := match R with
  | [] => []
  | x :: t => (if k < x.1 then k else x.1, x.2) :: t
def rsum : qRw → Int64
  | [] => 0
  | x :: t => x.2 + rsum t
theorem rpos_le (R : qRw) (k : Int32) : ∀ n, rpos R k n ≤ n
  | 0 => Nat.le_refl 0
  | n + 1 => by
    unfold rpos
    split
    · have := rpos_le R k n; omega
    · omega
theorem nI_ix {i : Int32} {n : Nat} (hn : n < 2 ^ 31) (h1 : ¬ i < 0) (h2 : ¬ nI n ≤ i) : ∃ j : Nat, j < n ∧ i = nI j := by
  rcases pk_ix i hn with h | h | h
  · exact absurd h h1
  · exact absurd h h2
  · exact h
section RW
variable {l : Launch} {s0 : State} {C : qC} {X : qX} {a cap : Nat} {R : qRw}
theorem c_R_keyAt (B : qB l s0 C) (h : RowAt X a cap R) (i : Int32) : qMet l s0 C m_R_keyAt rm_R_keyAt [.ref a, .int i] X (fun r X' => X = X' ∧ r = some (.long (rkeyAt R i))) (fun _ _ => False) := by
  obtain ⟨h0, hc, hcap, fk, fw, hk, hw, hf⟩ := h
  refine q_of (by decide +kernel) (Nat.le_of_ble_eq_true rfl) ?_
  refine v_L (L' := [(0, .ref a), (1, .int i)]) rfl ?_
  refine v_iload_n i_R_keyAt_0 rfl ?_
  refine v_if_lt (tgt := 22) i_R_keyAt_1 rfl (fun h1 => ?_) (fun h1 => ?_)
  · refine v_ldc2 B i_R_keyAt_22 i_R_keyAt_22_w ?_
    refine v_lret i_R_keyAt_25 rfl (by decide) (by decide) ⟨rfl, ?_⟩
    rw [rkeyAt, if_neg (fun q => absurd h1 (Int32.not_lt.mpr q.1))]
  refine v_iload_n i_R_keyAt_4 rfl ?_
  refine v_aload_n i_R_keyAt_5 rfl ?_
  refine v_get B i_R_keyAt_6 (by first | assumption | exact qset_self _ _ _ | (rw [qset_ne _ _ (by omega)]; first | assumption | exact qset_self _ _ _ | (rw [qset_ne _ _ (by omega)]; first | assumption | exact qset_self _ _ _ | (rw [qset_ne _ _ (by omega)]; first | assumption | exact qset_self _ _ _ | (rw [qset_ne _ _ (by omega)]; first | assumption | exact qset_self _ _ _ | (rw [qset_ne _ _ (by omega)]; first | assumption | exact qset_self _ _ _ | (rw [qset_ne _ _ (by omega)]; first | assumption | exact qset_self _ _ _))))))) rfl ?_
  refine v_icmp_ge (tgt := 22) i_R_keyAt_9 rfl (fun h9 => ?_) (fun h9 => ?_)
  · refine v_ldc2 B i_R_keyAt_22 i_R_keyAt_22_w ?_
    refine v_lret i_R_keyAt_25 rfl (by decide) (by decide) ⟨rfl, ?_⟩
    rw [rkeyAt, if_neg (fun q => absurd q.2 (Int32.not_lt.mpr h9))]
  obtain ⟨j, hj, rfl⟩ := nI_ix (by omega) h1 h9
  refine v_aload_n i_R_keyAt_12 rfl ?_
  refine v_get B i_R_keyAt_13 (by first | assumption | exact qset_self _ _ _ | (rw [qset_ne _ _ (by omega)]; first | assumption | exact qset_self _ _ _ | (rw [qset_ne _ _ (by omega)]; first | assumption | exact qset_self _ _ _ | (rw [qset_ne _ _ (by omega)]; first | assumption | exact qset_self _ _ _ | (rw [qset_ne _ _ (by omega)]; first | assumption | exact qset_self _ _ _ | (rw [qset_ne _ _ (by omega)]; first | assumption | exact qset_self _ _ _ | (rw [qset_ne _ _ (by omega)]; first | assumption | exact qset_self _ _ _))))))) rfl ?_
  refine v_iload_n i_R_keyAt_16 rfl ?_
  refine v_iald B (by first | assumption | exact qset_self _ _ _ | (rw [qset_ne _ _ (by omega)]; first | assumption | exact qset_self _ _ _ | (rw [qset_ne _ _ (by omega)]; first | assumption | exact qset_self _ _ _ | (rw [qset_ne _ _ (by omega)]; first | assumption | exact qset_self _ _ _ | (rw [qset_ne _ _ (by omega)]; first | assumption | exact qset_self _ _ _ | (rw [qset_ne _ _ (by omega)]; first | assumption | exact qset_self _ _ _ | (rw [qset_ne _ _ (by omega)]; first | assumption | exact qset_self _ _ _))))))) rfl (by omega) (by omega) i_R_keyAt_17 ?_
  refine v_i2l i_R_keyAt_18 ?_
  refine v_goto (tgt := 25) i_R_keyAt_19 rfl ?_
  refine v_lret i_R_keyAt_25 rfl (by decide) (by decide) ⟨rfl, ?_⟩
  rw [rkeyAt, if_pos ⟨Int32.not_lt.mp h1, Int32.not_le.mp h9⟩, nI_clamp (by omega), (hf j hj).1]
theorem c_R_whatAt (B : qB l s0 C) (h : RowAt X a cap R) (i : Int32) : qMet l s0 C m_R_whatAt rm_R_whatAt [.ref a, .int i] X (fun r X' => X = X' ∧ r = some (.long (rwhatAt R i))) (fun _ _ => False) := by
  obtain ⟨h0, hc, hcap, fk, fw, hk, hw, hf⟩ := h
  refine q_of (by decide +kernel) (Nat.le_of_ble_eq_true rfl) ?_
  refine v_L (L' := [(0, .ref a), (1, .int i)]) rfl ?_
  refine v_iload_n i_R_whatAt_0 rfl ?_
  refine v_if_lt (tgt := 21) i_R_whatAt_1 rfl (fun h1 => ?_) (fun h1 => ?_)
  · refine v_lconst (v := 0) i_R_whatAt_21 rfl ?_
    refine v_lret i_R_whatAt_22 rfl (by decide) (by decide) ⟨rfl, ?_⟩
    rw [rwhatAt, if_neg (fun q => absurd h1 (Int32.not_lt.mpr q.1))]
  refine v_iload_n i_R_whatAt_4 rfl ?_
  refine v_aload_n i_R_whatAt_5 rfl ?_
  refine v_get B i_R_whatAt_6 (by first | assumption | exact qset_self _ _ _ | (rw [qset_ne _ _ (by omega)]; first | assumption | exact qset_self _ _ _ | (rw [qset_ne _ _ (by omega)]; first | assumption | exact qset_self _ _ _ | (rw [qset_ne _ _ (by omega)]; first | assumption | exact qset_self _ _ _ | (rw [qset_ne _ _ (by omega)]; first | assumption | exact qset_self _ _ _ | (rw [qset_ne _ _ (by omega)]; first | assumption | exact qset_self _ _ _ | (rw [qset_ne _ _ (by omega)]; first | assumption | exact qset_self _ _ _))))))) rfl ?_
  refine v_icmp_ge (tgt := 21) i_R_whatAt_9 rfl (fun h9 => ?_) (fun h9 => ?_)
  · refine v_lconst (v := 0) i_R_whatAt_21 rfl ?_
    refine v_lret i_R_whatAt_22 rfl (by decide) (by decide) ⟨rfl, ?_⟩
    rw [rwhatAt, if_neg (fun q => absurd q.2 (Int32.not_lt.mpr h9))]
  obtain ⟨j, hj, rfl⟩ := nI_ix (by omega) h1 h9
  refine v_aload_n i_R_whatAt_12 rfl ?_
  refine v_get B i_R_whatAt_13 (by first | assumption | exact qset_self _ _ _ | (rw [qset_ne _ _ (by omega)]; first | assumption | exact qset_self _ _ _ | (rw [qset_ne _ _ (by omega)]; first | assumption | exact qset_self _ _ _ | (rw [qset_ne _ _ (by omega)]; first | assumption | exact qset_self _ _ _ | (rw [qset_ne _ _ (by omega)]; first | assumption | exact qset_self _ _ _ | (rw [qset_ne _ _ (by omega)]; first | assumption | exact qset_self _ _ _ | (rw [qset_ne _ _ (by omega)]; first | assumption | exact qset_self _ _ _))))))) rfl ?_
  refine v_iload_n i_R_whatAt_16 rfl ?_
  refine v_lald B (by first | assumption | exact qset_self _ _ _ | (rw [qset_ne _ _ (by omega)]; first | assumption | exact qset_self _ _ _ | (rw [qset_ne _ _ (by omega)]; first | assumption | exact qset_self _ _ _ | (rw [qset_ne _ _ (by omega)]; first | assumption | exact qset_self _ _ _ | (rw [qset_ne _ _ (by omega)]; first | assumption | exact qset_self _ _ _ | (rw [qset_ne _ _ (by omega)]; first | assumption | exact qset_self _ _ _ | (rw [qset_ne _ _ (by omega)]; first | assumption | exact qset_self _ _ _))))))) rfl (by omega) (by omega) i_R_whatAt_17 ?_
  refine v_goto (tgt := 22) i_R_whatAt_18 rfl ?_
  refine v_lret i_R_whatAt_22 rfl (by decide) (by decide) ⟨rfl, ?_⟩
  rw [rwhatAt, if_pos ⟨Int32.not_lt.mp h1, Int32.not_le.mp h9⟩, nI_clamp (by omega), (hf j hj).2]
theorem c_R_clear (B : qB l s0 C) (h : RowAt X a cap R) : qMet l s0 C m_R_clear rm_R_clear [.ref a] X (fun r X' => r = none ∧ RowAt X' a cap [] ∧ qSame X X' a (a + 3)) (fun _ _ => False) := by
  obtain ⟨h0, hc, hcap, fk, fw, hk, hw, hf⟩ := h
  refine q_of (by decide +kernel) (Nat.le_of_ble_eq_true rfl) ?_
  refine v_L (L' := [(0, .ref a)]) rfl ?_
  refine v_aload_n i_R_clear_0 rfl ?_
  refine v_iconst (v := 0) i_R_clear_1 rfl ?_
  refine v_put B i_R_clear_2 (by first | assumption | exact qset_self _ _ _ | (rw [qset_ne _ _ (by omega)]; first | assumption | exact qset_self _ _ _ | (rw [qset_ne _ _ (by omega)]; first | assumption | exact qset_self _ _ _ | (rw [qset_ne _ _ (by omega)]; first | assumption | exact qset_self _ _ _ | (rw [qset_ne _ _ (by omega)]; first | assumption | exact qset_self _ _ _ | (rw [qset_ne _ _ (by omega)]; first | assumption | exact qset_self _ _ _ | (rw [qset_ne _ _ (by omega)]; first | assumption | exact qset_self _ _ _))))))) (Nat.le_of_ble_eq_true rfl) rfl rfl ?_
  refine v_vret i_R_clear_5 rfl (by decide) (by decide) ⟨rfl, ⟨?_, Nat.zero_le _, hcap, fk, fw, ?_, ?_, fun i hi => absurd hi (Nat.not_lt_zero i)⟩, (qSame.rf X a (a + 3)).set _ (by omega) (by omega)⟩
  · rw [qset_self]; rfl
  · rw [qset_ne _ _ (by omega)]; exact hk
  · rw [qset_ne _ _ (by omega)]; exact hw
theorem rins_len (R : qRw) (k : Int32) (w : Int64) : (rins R k w).length = R.length + 1 := by
  have := rpos_le R k R.length
  simp [rins]
  omega
theorem rins_getD (R : qRw) (p j : Nat) (x d : Int32 × Int64) (hp : p ≤ R.length) : (R.take p ++ x :: R.drop p).getD j d = if j < p then R.getD j d else if j = p then x else R.getD (j - 1) d := by
  simp only [List.getD_eq_getElem?_getD]
  by_cases h1 : j < p
  · rw [if_pos h1, List.getElem?_append_left (by simp; omega), List.getElem?_take, if_pos h1]
  · rw [if_neg h1]
    have hl : (R.take p).length = p := by simp; omega
    rw [List.getElem?_append_right (by omega), hl]
    by_cases h2 : j = p
    · subst h2; simp
    · rw [if_neg h2]
      obtain ⟨q, rfl⟩ : ∃ q, j = p + 1 + q := ⟨j - (p + 1), by omega⟩
      rw [show p + 1 + q - p = q + 1 by omega, List.getElem?_cons_succ, List.getElem?_drop, show p + 1 + q - 1 = p + q by omega]
theorem c_R_insert_loop (B : qB l s0 C) (k : Int32) (w : Int64) (hcap : cap < 100000) (hlt : R.length < cap) :
    ∀ (i : Nat) (X' : qX) (fk : Nat → Int32) (fw : Nat → Int64), i ≤ R.length → X'.1 a = some (.inr (2, [.ref (a + 1), .ref (a + 2), .int (nI R.length)])) → X'.1 (a + 1) = some (.inl (0, cap, .inl fk)) → X'.1 (a + 2) = some (.inl (1, cap, .inr (.inl fw))) →
      (∀ j, j < i → fk j = rk R j ∧ fw j = rv R j) → (∀ j, i ≤ j → j < R.length → fk (j + 1) = rk R j ∧ fw (j + 1) = rv R j) → rpos R k R.length = rpos R k i → qSame X X' a (a + 3) →
      qV l s0 C m_R_insert rm_R_insert (fun r X'' => r = none ∧ RowAt X'' a cap (rins R k w) ∧ qSame X X'' a (a + 3)) (fun _ _ => False) 0 0 X' 19 [(0, .ref a), (1, .int k), (2, .long w), (4, .int (nI i))] [] := by
  intro i
  have fin : ∀ (p : Nat) (X' : qX) (fk : Nat → Int32) (fw : Nat → Int64), p ≤ R.length → X'.1 a = some (.inr (2, [.ref (a + 1), .ref (a + 2), .int (nI R.length)])) → X'.1 (a + 1) = some (.inl (0, cap, .inl fk)) → X'.1 (a + 2) = some (.inl (1, cap, .inr (.inl fw))) →
      (∀ j, j < p → fk j = rk R j ∧ fw j = rv R j) → (∀ j, p ≤ j → j < R.length → fk (j + 1) = rk R j ∧ fw (j + 1) = rv R j) → rpos R k R.length = p → qSame X X' a (a + 3) →
      qV l s0 C m_R_insert rm_R_insert (fun r X'' => r = none ∧ RowAt X'' a cap (rins R k w) ∧ qSame X X'' a (a + 3)) (fun _ _ => False) 0 0 X' 75 [(0, .ref a), (1, .int k), (2, .long w), (4, .int (nI p))] [] := by
    intro p X' fk fw hp h0 hk hw hf1 hf2 hpos hs
    refine v_aload_n i_R_insert_75 rfl ?_
    refine v_get B i_R_insert_76 (by first | assumption | exact qset_self _ _ _ | (rw [qset_ne _ _ (by omega)]; first | assumption | exact qset_self _ _ _ | (rw [qset_ne _ _ (by omega)]; first | assumption | exact qset_self _ _ _ | (rw [qset_ne _ _ (by omega)]; first | assumption | exact qset_self _ _ _ | (rw [qset_ne _ _ (by omega)]; first | assumption | exact qset_self _ _ _ | (rw [qset_ne _ _ (by omega)]; first | assumption | exact qset_self _ _ _ | (rw [qset_ne _ _ (by omega)]; first | assumption | exact qset_self _ _ _))))))) rfl ?_
    refine v_iload i_R_insert_79 rfl ?_
    refine v_iload_n i_R_insert_81 rfl ?_
    refine v_iast B (by first | assumption | exact qset_self _ _ _ | (rw [qset_ne _ _ (by omega)]; first | assumption | exact qset_self _ _ _ | (rw [qset_ne _ _ (by omega)]; first | assumption | exact qset_self _ _ _ | (rw [qset_ne _ _ (by omega)]; first | assumption | exact qset_self _ _ _ | (rw [qset_ne _ _ (by omega)]; first | assumption | exact qset_self _ _ _ | (rw [qset_ne _ _ (by omega)]; first | assumption | exact qset_self _ _ _ | (rw [qset_ne _ _ (by omega)]; first | assumption | exact qset_self _ _ _))))))) rfl (by omega) (by omega) i_R_insert_82 ?_
    refine v_aload_n i_R_insert_83 rfl ?_
    refine v_get B i_R_insert_84 (by first | assumption | exact qset_self _ _ _ | (rw [qset_ne _ _ (by omega)]; first | assumption | exact qset_self _ _ _ | (rw [qset_ne _ _ (by omega)]; first | assumption | exact qset_self _ _ _ | (rw [qset_ne _ _ (by omega)]; first | assumption | exact qset_self _ _ _ | (rw [qset_ne _ _ (by omega)]; first | assumption | exact qset_self _ _ _ | (rw [qset_ne _ _ (by omega)]; first | assumption | exact qset_self _ _ _ | (rw [qset_ne _ _ (by omega)]; first | assumption | exact qset_self _ _ _))))))) rfl ?_
    refine v_iload i_R_insert_87 rfl ?_
    refine v_lload_n i_R_insert_89 rfl ?_
    refine v_last B (by first | assumption | exact qset_self _ _ _ | (rw [qset_ne _ _ (by omega)]; first | assumption | exact qset_self _ _ _ | (rw [qset_ne _ _ (by omega)]; first | assumption | exact qset_self _ _ _ | (rw [qset_ne _ _ (by omega)]; first | assumption | exact qset_self _ _ _ | (rw [qset_ne _ _ (by omega)]; first | assumption | exact qset_self _ _ _ | (rw [qset_ne _ _ (by omega)]; first | assumption | exact qset_self _ _ _ | (rw [qset_ne _ _ (by omega)]; first | assumption | exact qset_self _ _ _))))))) rfl (by omega) (by omega) i_R_insert_90 ?_
    refine v_aload_n i_R_insert_91 rfl ?_
    refine v_dup i_R_insert_92 rfl ?_
    refine v_get B i_R_insert_93 (by first | assumption | exact qset_self _ _ _ | (rw [qset_ne _ _ (by omega)]; first | assumption | exact qset_self _ _ _ | (rw [qset_ne _ _ (by omega)]; first | assumption | exact qset_self _ _ _ | (rw [qset_ne _ _ (by omega)]; first | assumption | exact qset_self _ _ _ | (rw [qset_ne _ _ (by omega)]; first | assumption | exact qset_self _ _ _ | (rw [qset_ne _ _ (by omega)]; first | assumption | exact qset_self _ _ _ | (rw [qset_ne _ _ (by omega)]; first | assumption | exact qset_self _ _ _))))))) rfl ?_
    refine v_iconst (v := 1) i_R_insert_96 rfl ?_
    refine v_iadd i_R_insert_97 ?_
    refine v_put B i_R_insert_98 (by first | assumption | exact qset_self _ _ _ | (rw [qset_ne _ _ (by omega)]; first | assumption | exact qset_self _ _ _ | (rw [qset_ne _ _ (by omega)]; first | assumption | exact qset_self _ _ _ | (rw [qset_ne _ _ (by omega)]; first | assumption | exact qset_self _ _ _ | (rw [qset_ne _ _ (by omega)]; first | assumption | exact qset_self _ _ _ | (rw [qset_ne _ _ (by omega)]; first | assumption | exact qset_self _ _ _ | (rw [qset_ne _ _ (by omega)]; first | assumption | exact qset_self _ _ _))))))) (Nat.le_of_ble_eq_true rfl) rfl rfl ?_
    refine v_vret i_R_insert_101 rfl (by decide) (by decide) ⟨rfl, ⟨?_, ?_, hcap, upd fk p k, vp_updL fw p w, ?_, ?_, ?_⟩, ?_⟩
    · rw [qset_self, rins_len, nI_succ]; rfl
    · rw [rins_len]; omega
    · exact (by first | assumption | exact qset_self _ _ _ | (rw [qset_ne _ _ (by omega)]; first | assumption | exact qset_self _ _ _ | (rw [qset_ne _ _ (by omega)]; first | assumption | exact qset_self _ _ _ | (rw [qset_ne _ _ (by omega)]; first | assumption | exact qset_self _ _ _ | (rw [qset_ne _ _ (by omega)]; first | assumption | exact qset_self _ _ _ | (rw [qset_ne _ _ (by omega)]; first | assumption | exact qset_self _ _ _ | (rw [qset_ne _ _ (by omega)]; first | assumption | exact qset_self _ _ _)))))))
    · exact (by first | assumption | exact qset_self _ _ _ | (rw [qset_ne _ _ (by omega)]; first | assumption | exact qset_self _ _ _ | (rw [qset_ne _ _ (by omega)]; first | assumption | exact qset_self _ _ _ | (rw [qset_ne _ _ (by omega)]; first | assumption | exact qset_self _ _ _ | (rw [qset_ne _ _ (by omega)]; first | assumption | exact qset_self _ _ _ | (rw [qset_ne _ _ (by omega)]; first | assumption | exact qset_self _ _ _ | (rw [qset_ne _ _ (by omega)]; first | assumption | exact qset_self _ _ _)))))))
    · intro j hj
      rw [rins_len] at hj
      simp only [rk, rv, rins, hpos, rins_getD R p j _ _ hp]
      by_cases h1 : j < p
      · rw [if_pos h1, pk_un (by omega), pk_uLn (by omega)]
        exact hf1 j h1
      · rw [if_neg h1]
        by_cases h2 : j = p
        · subst h2; rw [if_pos rfl, pk_us, pk_uLs]; exact ⟨rfl, rfl⟩
        · rw [if_neg h2, pk_un h2, pk_uLn h2]
          have := hf2 (j - 1) (by omega) (by omega)
          rw [show j - 1 + 1 = j by omega] at this
          exact this
    · exact ((hs.set _ (by omega) (by omega)).set _ (by omega) (by omega)).set _ (by omega) (by omega)
  induction i with
  | zero =>
    intro X' fk fw hi h0 hk hw hf1 hf2 hpos hs
    refine v_iload i_R_insert_19 rfl ?_
    refine v_if_le (tgt := 75) i_R_insert_21 rfl (fun h21 => ?_) (fun h21 => ?_)
    · exact fin 0 X' fk fw hi h0 hk hw hf1 hf2 hpos hs
    · exact absurd (by decide) h21
  | succ i ih =>
    intro X' fk fw hi h0 hk hw hf1 hf2 hpos hs
    refine v_iload i_R_insert_19 rfl ?_
    refine v_if_le (tgt := 75) i_R_insert_21 rfl (fun h21 => ?_) (fun h21 => ?_)
    · exact absurd h21 (nI_nle (by omega) (by omega))
    refine v_aload_n i_R_insert_24 rfl ?_
    refine v_get B i_R_insert_25 (by first | assumption | exact qset_self _ _ _ | (rw [qset_ne _ _ (by omega)]; first | assumption | exact qset_self _ _ _ | (rw [qset_ne _ _ (by omega)]; first | assumption | exact qset_self _ _ _ | (rw [qset_ne _ _ (by omega)]; first | assumption | exact qset_self _ _ _ | (rw [qset_ne _ _ (by omega)]; first | assumption | exact qset_self _ _ _ | (rw [qset_ne _ _ (by omega)]; first | assumption | exact qset_self _ _ _ | (rw [qset_ne _ _ (by omega)]; first | assumption | exact qset_self _ _ _))))))) rfl ?_
    refine v_iload i_R_insert_28 rfl ?_
    refine v_iconst (v := 1) i_R_insert_30 rfl ?_
    refine v_isub i_R_insert_31 ?_
    refine v_iald B (by first | assumption | exact qset_self _ _ _ | (rw [qset_ne _ _ (by omega)]; first | assumption | exact qset_self _ _ _ | (rw [qset_ne _ _ (by omega)]; first | assumption | exact qset_self _ _ _ | (rw [qset_ne _ _ (by omega)]; first | assumption | exact qset_self _ _ _ | (rw [qset_ne _ _ (by omega)]; first | assumption | exact qset_self _ _ _ | (rw [qset_ne _ _ (by omega)]; first | assumption | exact qset_self _ _ _ | (rw [qset_ne _ _ (by omega)]; first | assumption | exact qset_self _ _ _))))))) (nI_pred i) (by omega) (by omega) i_R_insert_32 ?_
    refine v_iload_n i_R_insert_33 rfl ?_
    refine v_icmp_le (tgt := 75) i_R_insert_34 rfl (fun h34 => ?_) (fun h34 => ?_)
    · refine fin (i + 1) X' fk fw hi h0 hk hw hf1 hf2 ?_ hs
      rw [hpos, rpos, if_neg]
      rw [← (hf1 i (by omega)).1]
      exact Int32.not_lt.mpr h34
    refine v_aload_n i_R_insert_37 rfl ?_
    refine v_get B i_R_insert_38 (by first | assumption | exact qset_self _ _ _ | (rw [qset_ne _ _ (by omega)]; first | assumption | exact qset_self _ _ _ | (rw [qset_ne _ _ (by omega)]; first | assumption | exact qset_self _ _ _ | (rw [qset_ne _ _ (by omega)]; first | assumption | exact qset_self _ _ _ | (rw [qset_ne _ _ (by omega)]; first | assumption | exact qset_self _ _ _ | (rw [qset_ne _ _ (by omega)]; first | assumption | exact qset_self _ _ _ | (rw [qset_ne _ _ (by omega)]; first | assumption | exact qset_self _ _ _))))))) rfl ?_
    refine v_iload i_R_insert_41 rfl ?_
    refine v_aload_n i_R_insert_43 rfl ?_
    refine v_get B i_R_insert_44 (by first | assumption | exact qset_self _ _ _ | (rw [qset_ne _ _ (by omega)]; first | assumption | exact qset_self _ _ _ | (rw [qset_ne _ _ (by omega)]; first | assumption | exact qset_self _ _ _ | (rw [qset_ne _ _ (by omega)]; first | assumption | exact qset_self _ _ _ | (rw [qset_ne _ _ (by omega)]; first | assumption | exact qset_self _ _ _ | (rw [qset_ne _ _ (by omega)]; first | assumption | exact qset_self _ _ _ | (rw [qset_ne _ _ (by omega)]; first | assumption | exact qset_self _ _ _))))))) rfl ?_
    refine v_iload i_R_insert_47 rfl ?_
    refine v_iconst (v := 1) i_R_insert_49 rfl ?_
    refine v_isub i_R_insert_50 ?_
    refine v_iald B (by first | assumption | exact qset_self _ _ _ | (rw [qset_ne _ _ (by omega)]; first | assumption | exact qset_self _ _ _ | (rw [qset_ne _ _ (by omega)]; first | assumption | exact qset_self _ _ _ | (rw [qset_ne _ _ (by omega)]; first | assumption | exact qset_self _ _ _ | (rw [qset_ne _ _ (by omega)]; first | assumption | exact qset_self _ _ _ | (rw [qset_ne _ _ (by omega)]; first | assumption | exact qset_self _ _ _ | (rw [qset_ne _ _ (by omega)]; first | assumption | exact qset_self _ _ _))))))) (nI_pred i) (by omega) (by omega) i_R_insert_51 ?_
    refine v_iast B (by first | assumption | exact qset_self _ _ _ | (rw [qset_ne _ _ (by omega)]; first | assumption | exact qset_self _ _ _ | (rw [qset_ne _ _ (by omega)]; first | assumption | exact qset_self _ _ _ | (rw [qset_ne _ _ (by omega)]; first | assumption | exact qset_self _ _ _ | (rw [qset_ne _ _ (by omega)]; first | assumption | exact qset_self _ _ _ | (rw [qset_ne _ _ (by omega)]; first | assumption | exact qset_self _ _ _ | (rw [qset_ne _ _ (by omega)]; first | assumption | exact qset_self _ _ _))))))) rfl (by omega) (by omega) i_R_insert_52 ?_
    refine v_aload_n i_R_insert_53 rfl ?_
    refine v_get B i_R_insert_54 (by first | assumption | exact qset_self _ _ _ | (rw [qset_ne _ _ (by omega)]; first | assumption | exact qset_self _ _ _ | (rw [qset_ne _ _ (by omega)]; first | assumption | exact qset_self _ _ _ | (rw [qset_ne _ _ (by omega)]; first | assumption | exact qset_self _ _ _ | (rw [qset_ne _ _ (by omega)]; first | assumption | exact qset_self _ _ _ | (rw [qset_ne _ _ (by omega)]; first | assumption | exact qset_self _ _ _ | (rw [qset_ne _ _ (by omega)]; first | assumption | exact qset_self _ _ _))))))) rfl ?_
    refine v_iload i_R_insert_57 rfl ?_
    refine v_aload_n i_R_insert_59 rfl ?_
    refine v_get B i_R_insert_60 (by first | assumption | exact qset_self _ _ _ | (rw [qset_ne _ _ (by omega)]; first | assumption | exact qset_self _ _ _ | (rw [qset_ne _ _ (by omega)]; first | assumption | exact qset_self _ _ _ | (rw [qset_ne _ _ (by omega)]; first | assumption | exact qset_self _ _ _ | (rw [qset_ne _ _ (by omega)]; first | assumption | exact qset_self _ _ _ | (rw [qset_ne _ _ (by omega)]; first | assumption | exact qset_self _ _ _ | (rw [qset_ne _ _ (by omega)]; first | assumption | exact qset_self _ _ _))))))) rfl ?_
    refine v_iload i_R_insert_63 rfl ?_
    refine v_iconst (v := 1) i_R_insert_65 rfl ?_
    refine v_isub i_R_insert_66 ?_
    refine v_lald B (by first | assumption | exact qset_self _ _ _ | (rw [qset_ne _ _ (by omega)]; first | assumption | exact qset_self _ _ _ | (rw [qset_ne _ _ (by omega)]; first | assumption | exact qset_self _ _ _ | (rw [qset_ne _ _ (by omega)]; first | assumption | exact qset_self _ _ _ | (rw [qset_ne _ _ (by omega)]; first | assumption | exact qset_self _ _ _ | (rw [qset_ne _ _ (by omega)]; first | assumption | exact qset_self _ _ _ | (rw [qset_ne _ _ (by omega)]; first | assumption | exact qset_self _ _ _))))))) (nI_pred i) (by omega) (by omega) i_R_insert_67 ?_
    refine v_last B (by first | assumption | exact qset_self _ _ _ | (rw [qset_ne _ _ (by omega)]; first | assumption | exact qset_self _ _ _ | (rw [qset_ne _ _ (by omega)]; first | assumption | exact qset_self _ _ _ | (rw [qset_ne _ _ (by omega)]; first | assumption | exact qset_self _ _ _ | (rw [qset_ne _ _ (by omega)]; first | assumption | exact qset_self _ _ _ | (rw [qset_ne _ _ (by omega)]; first | assumption | exact qset_self _ _ _ | (rw [qset_ne _ _ (by omega)]; first | assumption | exact qset_self _ _ _))))))) rfl (by omega) (by omega) i_R_insert_68 ?_
    refine v_iinc (v := nI i) i_R_insert_69 rfl (pk_m1 i) (by decide) rfl ?_
    refine v_goto (tgt := 19) i_R_insert_72 rfl ?_
    refine v_loc [(0, .ref a), (1, .int k), (2, .long w), (4, .int (nI i))] rfl ?_
    refine ih _ (upd fk (i + 1) (fk i)) (vp_updL fw (i + 1) (fw i)) (by omega) (by first | assumption | exact qset_self _ _ _ | (rw [qset_ne _ _ (by omega)]; first | assumption | exact qset_self _ _ _ | (rw [qset_ne _ _ (by omega)]; first | assumption | exact qset_self _ _ _ | (rw [qset_ne _ _ (by omega)]; first | assumption | exact qset_self _ _ _ | (rw [qset_ne _ _ (by omega)]; first | assumption | exact qset_self _ _ _ | (rw [qset_ne _ _ (by omega)]; first | assumption | exact qset_self _ _ _ | (rw [qset_ne _ _ (by omega)]; first | assumption | exact qset_self _ _ _))))))) (by first | assumption | exact qset_self _ _ _ | (rw [qset_ne _ _ (by omega)]; first | assumption | exact qset_self _ _ _ | (rw [qset_ne _ _ (by omega)]; first | assumption | exact qset_self _ _ _ | (rw [qset_ne _ _ (by omega)]; first | assumption | exact qset_self _ _ _ | (rw [qset_ne _ _ (by omega)]; first | assumption | exact qset_self _ _ _ | (rw [qset_ne _ _ (by omega)]; first | assumption | exact qset_self _ _ _ | (rw [qset_ne _ _ (by omega)]; first | assumption | exact qset_self _ _ _))))))) (by first | assumption | exact qset_self _ _ _ | (rw [qset_ne _ _ (by omega)]; first | assumption | exact qset_self _ _ _ | (rw [qset_ne _ _ (by omega)]; first | assumption | exact qset_self _ _ _ | (rw [qset_ne _ _ (by omega)]; first | assumption | exact qset_self _ _ _ | (rw [qset_ne _ _ (by omega)]; first | assumption | exact qset_self _ _ _ | (rw [qset_ne _ _ (by omega)]; first | assumption | exact qset_self _ _ _ | (rw [qset_ne _ _ (by omega)]; first | assumption | exact qset_self _ _ _))))))) ?_ ?_ ?_ ?_
    · intro j hj
      rw [pk_un (by omega), pk_uLn (by omega)]
      exact hf1 j (by omega)
    · intro j hj1 hj2
      by_cases hj : j = i
      · subst hj
        rw [pk_us, pk_uLs]
        exact hf1 j (by omega)
      · rw [pk_un (by omega), pk_uLn (by omega)]
        exact hf2 j (by omega) hj2
    · rw [hpos, rpos, if_pos]
      rw [← (hf1 i (by omega)).1]
      exact Int32.not_le.mp h34
    · exact (hs.set _ (by omega) (by omega)).set _ (by omega) (by omega)
theorem c_R_lowerFirst (B : qB l s0 C) (h : RowAt X a cap R) (k : Int32) : qMet l s0 C m_R_lowerFirst rm_R_lowerFirst [.ref a, .int k] X (fun r X' => r = none ∧ RowAt X' a cap (rlow R k) ∧ qSame X X' a (a + 3)) (fun _ _ => False) := by
  obtain ⟨h0, hc, hcap, fk, fw, hk, hw, hf⟩ := id h
  refine q_of (by decide +kernel) (Nat.le_of_ble_eq_true rfl) ?_
  refine v_L (L' := [(0, .ref a), (1, .int k)]) rfl ?_
  refine v_aload_n i_R_lowerFirst_0 rfl ?_
  refine v_get B i_R_lowerFirst_1 (by first | assumption | exact qset_self _ _ _ | (rw [qset_ne _ _ (by omega)]; first | assumption | exact qset_self _ _ _ | (rw [qset_ne _ _ (by omega)]; first | assumption | exact qset_self _ _ _ | (rw [qset_ne _ _ (by omega)]; first | assumption | exact qset_self _ _ _ | (rw [qset_ne _ _ (by omega)]; first | assumption | exact qset_self _ _ _ | (rw [qset_ne _ _ (by omega)]; first | assumption | exact qset_self _ _ _ | (rw [qset_ne _ _ (by omega)]; first | assumption | exact qset_self _ _ _))))))) rfl ?_
  refine v_if_le (tgt := 24) i_R_lowerFirst_4 rfl (fun h4 => ?_) (fun h4 => ?_)
  · refine v_vret i_R_lowerFirst_24 rfl (by decide) (by decide) ⟨rfl, ?_, qSame.rf X a (a + 3)⟩
    cases R with
    | nil => exact h
    | cons x t => exact absurd h4 (nI_nle (by simp) (by omega))
  cases R with
  | nil => exact absurd (by decide) h4
  | cons x t =>
    have hl : 0 < (x :: t).length := by simp
    refine v_iload_n i_R_lowerFirst_7 rfl ?_
    refine v_aload_n i_R_lowerFirst_8 rfl ?_
    refine v_get B i_R_lowerFirst_9 (by first | assumption | exact qset_self _ _ _ | (rw [qset_ne _ _ (by omega)]; first | assumption | exact qset_self _ _ _ | (rw [qset_ne _ _ (by omega)]; first | assumption | exact qset_self _ _ _ | (rw [qset_ne _ _ (by omega)]; first | assumption | exact qset_self _ _ _ | (rw [qset_ne _ _ (by omega)]; first | assumption | exact qset_self _ _ _ | (rw [qset_ne _ _ (by omega)]; first | assumption | exact qset_self _ _ _ | (rw [qset_ne _ _ (by omega)]; first | assumption | exact qset_self _ _ _))))))) rfl ?_
    refine v_iconst (v := 0) i_R_lowerFirst_12 rfl ?_
    refine v_iald B (by first | assumption | exact qset_self _ _ _ | (rw [qset_ne _ _ (by omega)]; first | assumption | exact qset_self _ _ _ | (rw [qset_ne _ _ (by omega)]; first | assumption | exact qset_self _ _ _ | (rw [qset_ne _ _ (by omega)]; first | assumption | exact qset_self _ _ _ | (rw [qset_ne _ _ (by omega)]; first | assumption | exact qset_self _ _ _ | (rw [qset_ne _ _ (by omega)]; first | assumption | exact qset_self _ _ _ | (rw [qset_ne _ _ (by omega)]; first | assumption | exact qset_self _ _ _))))))) nI_0.symm (by omega) (by omega) i_R_lowerFirst_13 ?_
    refine v_icmp_ge (tgt := 24) i_R_lowerFirst_14 rfl (fun h14 => ?_) (fun h14 => ?_)
    · refine v_vret i_R_lowerFirst_24 rfl (by decide) (by decide) ⟨rfl, ?_, qSame.rf X a (a + 3)⟩
      rw [(hf 0 hl).1] at h14
      have : rlow (x :: t) k = x :: t := by
        show (if k < x.1 then k else x.1, x.2) :: t = x :: t
        have h15 : x.1 ≤ k := h14
        rw [if_neg (Int32.not_lt.mpr h15)]
      rw [this]
      exact h
    · refine v_aload_n i_R_lowerFirst_17 rfl ?_
      refine v_get B i_R_lowerFirst_18 (by first | assumption | exact qset_self _ _ _ | (rw [qset_ne _ _ (by omega)]; first | assumption | exact qset_self _ _ _ | (rw [qset_ne _ _ (by omega)]; first | assumption | exact qset_self _ _ _ | (rw [qset_ne _ _ (by omega)]; first | assumption | exact qset_self _ _ _ | (rw [qset_ne _ _ (by omega)]; first | assumption | exact qset_self _ _ _ | (rw [qset_ne _ _ (by omega)]; first | assumption | exact qset_self _ _ _ | (rw [qset_ne _ _ (by omega)]; first | assumption | exact qset_self _ _ _))))))) rfl ?_
      refine v_iconst (v := 0) i_R_lowerFirst_21 rfl ?_
      refine v_iload_n i_R_lowerFirst_22 rfl ?_
      refine v_iast B (by first | assumption | exact qset_self _ _ _ | (rw [qset_ne _ _ (by omega)]; first | assumption | exact qset_self _ _ _ | (rw [qset_ne _ _ (by omega)]; first | assumption | exact qset_self _ _ _ | (rw [qset_ne _ _ (by omega)]; first | assumption | exact qset_self _ _ _ | (rw [qset_ne _ _ (by omega)]; first | assumption | exact qset_self _ _ _ | (rw [qset_ne _ _ (by omega)]; first | assumption | exact qset_self _ _ _ | (rw [qset_ne _ _ (by omega)]; first | assumption | exact qset_self _ _ _))))))) nI_0.symm (by omega) (by omega) i_R_lowerFirst_23 ?_
      rw [(hf 0 hl).1] at h14
      have hr : rlow (x :: t) k = (k, x.2) :: t := by
        show (if k < x.1 then k else x.1, x.2) :: t = _
        have h15 : ¬ x.1 ≤ k := h14
        rw [if_pos (Int32.not_le.mp h15)]
      refine v_vret i_R_lowerFirst_24 rfl (by decide) (by decide) ⟨rfl, ?_, (qSame.rf X a (a + 3)).set _ (by omega) (by omega)⟩
      rw [hr]
      refine ⟨(by first | assumption | exact qset_self _ _ _ | (rw [qset_ne _ _ (by omega)]; first | assumption | exact qset_self _ _ _ | (rw [qset_ne _ _ (by omega)]; first | assumption | exact qset_self _ _ _ | (rw [qset_ne _ _ (by omega)]; first | assumption | exact qset_self _ _ _ | (rw [qset_ne _ _ (by omega)]; first | assumption | exact qset_self _ _ _ | (rw [qset_ne _ _ (by omega)]; first | assumption | exact qset_self _ _ _ | (rw [qset_ne _ _ (by omega)]; first | assumption | exact qset_self _ _ _))))))), hc, hcap, upd fk 0 k, fw, (by first | assumption | exact qset_self _ _ _ | (rw [qset_ne _ _ (by omega)]; first | assumption | exact qset_self _ _ _ | (rw [qset_ne _ _ (by omega)]; first | assumption | exact qset_self _ _ _ | (rw [qset_ne _ _ (by omega)]; first | assumption | exact qset_self _ _ _ | (rw [qset_ne _ _ (by omega)]; first | assumption | exact qset_self _ _ _ | (rw [qset_ne _ _ (by omega)]; first | assumption | exact qset_self _ _ _ | (rw [qset_ne _ _ (by omega)]; first | assumption | exact qset_self _ _ _))))))), (by first | assumption | exact qset_self _ _ _ | (rw [qset_ne _ _ (by omega)]; first | assumption | exact qset_self _ _ _ | (rw [qset_ne _ _ (by omega)]; first | assumption | exact qset_self _ _ _ | (rw [qset_ne _ _ (by omega)]; first | assumption | exact qset_self _ _ _ | (rw [qset_ne _ _ (by omega)]; first | assumption | exact qset_self _ _ _ | (rw [qset_ne _ _ (by omega)]; first | assumption | exact qset_self _ _ _ | (rw [qset_ne _ _ (by omega)]; first | assumption | exact qset_self _ _ _))))))), ?_⟩
      intro i hi
      cases i with
      | zero => rw [pk_us]; exact ⟨rfl, (hf 0 hl).2⟩
      | succ i => rw [pk_un (by omega)]; exact hf (i + 1) hi
theorem c_R_total_loop (B : qB l s0 C) (h : RowAt X a cap R) : ∀ (j i : Nat) (acc : Int64), i + j = R.length → 
      qV l s0 C m_R_total rm_R_total (fun r X' => X = X' ∧ r = some (.long (acc + rsum (R.drop i)))) (fun _ _ => False) 0 0 X 4 [(0, .ref a), (1, .long acc), (3, .int (nI i))] [] := by
  obtain ⟨h0, hc, hcap, fk, fw, hk, hw, hf⟩ := h
  intro j
  induction j with
  | zero =>
    intro i acc hi
    refine v_iload_n i_R_total_4 rfl ?_
    refine v_aload_n i_R_total_5 rfl ?_
    refine v_get B i_R_total_6 (by first | assumption | exact qset_self _ _ _ | (rw [qset_ne _ _ (by omega)]; first | assumption | exact qset_self _ _ _ | (rw [qset_ne _ _ (by omega)]; first | assumption | exact qset_self _ _ _ | (rw [qset_ne _ _ (by omega)]; first | assumption | exact qset_self _ _ _ | (rw [qset_ne _ _ (by omega)]; first | assumption | exact qset_self _ _ _ | (rw [qset_ne _ _ (by omega)]; first | assumption | exact qset_self _ _ _ | (rw [qset_ne _ _ (by omega)]; first | assumption | exact qset_self _ _ _))))))) rfl ?_
    refine v_icmp_ge (tgt := 27) i_R_total_9 rfl (fun h9 => ?_) (fun h9 => ?_)
    · refine v_lload_n i_R_total_27 rfl ?_
      refine v_lret i_R_total_28 rfl (by decide) (by decide) ⟨rfl, ?_⟩
      rw [List.drop_eq_nil_of_le (by omega), rsum, Int64.add_zero]
    · exact absurd (nI_le (by omega) (by omega)) h9
  | succ j ih =>
    intro i acc hi
    refine v_iload_n i_R_total_4 rfl ?_
    refine v_aload_n i_R_total_5 rfl ?_
    refine v_get B i_R_total_6 (by first | assumption | exact qset_self _ _ _ | (rw [qset_ne _ _ (by omega)]; first | assumption | exact qset_self _ _ _ | (rw [qset_ne _ _ (by omega)]; first | assumption | exact qset_self _ _ _ | (rw [qset_ne _ _ (by omega)]; first | assumption | exact qset_self _ _ _ | (rw [qset_ne _ _ (by omega)]; first | assumption | exact qset_self _ _ _ | (rw [qset_ne _ _ (by omega)]; first | assumption | exact qset_self _ _ _ | (rw [qset_ne _ _ (by omega)]; first | assumption | exact qset_self _ _ _))))))) rfl ?_
    refine v_icmp_ge (tgt := 27) i_R_total_9 rfl (fun h9 => ?_) (fun h9 => ?_)
    · exact absurd h9 (nI_ge (by omega) (by omega))
    · refine v_lload_n i_R_total_12 rfl ?_
      refine v_aload_n i_R_total_13 rfl ?_
      refine v_get B i_R_total_14 (by first | assumption | exact qset_self _ _ _ | (rw [qset_ne _ _ (by omega)]; first | assumption | exact qset_self _ _ _ | (rw [qset_ne _ _ (by omega)]; first | assumption | exact qset_self _ _ _ | (rw [qset_ne _ _ (by omega)]; first | assumption | exact qset_self _ _ _ | (rw [qset_ne _ _ (by omega)]; first | assumption | exact qset_self _ _ _ | (rw [qset_ne _ _ (by omega)]; first | assumption | exact qset_self _ _ _ | (rw [qset_ne _ _ (by omega)]; first | assumption | exact qset_self _ _ _))))))) rfl ?_
      refine v_iload_n i_R_total_17 rfl ?_
      refine v_lald B (by first | assumption | exact qset_self _ _ _ | (rw [qset_ne _ _ (by omega)]; first | assumption | exact qset_self _ _ _ | (rw [qset_ne _ _ (by omega)]; first | assumption | exact qset_self _ _ _ | (rw [qset_ne _ _ (by omega)]; first | assumption | exact qset_self _ _ _ | (rw [qset_ne _ _ (by omega)]; first | assumption | exact qset_self _ _ _ | (rw [qset_ne _ _ (by omega)]; first | assumption | exact qset_self _ _ _ | (rw [qset_ne _ _ (by omega)]; first | assumption | exact qset_self _ _ _))))))) rfl (by omega) (by omega) i_R_total_18 ?_
      refine v_ladd i_R_total_19 ?_
      refine v_lstore_n i_R_total_20 (by decide) rfl ?_
      refine v_iinc (v := nI (i + 1)) i_R_total_21 rfl (nI_1 i) (by decide) rfl ?_
      refine v_goto (tgt := 4) i_R_total_24 rfl ?_
      refine v_loc [(0, .ref a), (1, .long (acc + fw i)), (3, .int (nI (i + 1)))] rfl ?_
      have h9 := ih (i + 1) (acc + fw i) (by omega)
      have e : acc + rsum (R.drop i) = acc + fw i + rsum (R.drop (i + 1)) := by
        rw [(hf i (by omega)).2, List.drop_eq_getElem_cons (by omega : i < R.length), rsum, Int64.add_assoc]
        congr 2
        rw [rv, List.getD_eq_getElem?_getD, List.getElem?_eq_getElem (by omega)]; rfl
      rw [e]
      exact h9
theorem c_R_total (B : qB l s0 C) (h : RowAt X a cap R) : qMet l s0 C m_R_total rm_R_total [.ref a] X (fun r X' => X = X' ∧ r = some (.long (rsum R))) (fun _ _ => False) := by
  refine q_of (by decide +kernel) (Nat.le_of_ble_eq_true rfl) ?_
  refine v_L (L' := [(0, .ref a)]) rfl ?_
  refine v_lconst (v := 0) i_R_total_0 rfl ?_
  refine v_lstore_n i_R_total_1 (by decide) rfl ?_
  refine v_iconst (v := 0) i_R_total_2 rfl ?_
  refine v_istore_n i_R_total_3 (by decide) rfl ?_
  refine v_loc [(0, .ref a), (1, .long 0), (3, .int (nI 0))] rfl ?_
  have h9 := c_R_total_loop B h R.length 0 0 (by omega)
  rw [List.drop_zero, Int64.zero_add] at h9
  exact h9
theorem c_R_insert (B : qB l s0 C) (h : RowAt X a cap R) (k : Int32) (w : Int64) (hlt : R.length < cap) : qMet l s0 C m_R_insert rm_R_insert [.ref a, .int k, .long w] X (fun r X' => r = none ∧ RowAt X' a cap (rins R k w) ∧ qSame X X' a (a + 3)) (fun _ _ => False) := by
  obtain ⟨h0, hc, hcap, fk, fw, hk, hw, hf⟩ := h
  refine q_of (by decide +kernel) (Nat.le_of_ble_eq_true rfl) ?_
  refine v_L (L' := [(0, .ref a), (1, .int k), (2, .long w)]) rfl ?_
  refine v_aload_n i_R_insert_0 rfl ?_
  refine v_get B i_R_insert_1 (by first | assumption | exact qset_self _ _ _ | (rw [qset_ne _ _ (by omega)]; first | assumption | exact qset_self _ _ _ | (rw [qset_ne _ _ (by omega)]; first | assumption | exact qset_self _ _ _ | (rw [qset_ne _ _ (by omega)]; first | assumption | exact qset_self _ _ _ | (rw [qset_ne _ _ (by omega)]; first | assumption | exact qset_self _ _ _ | (rw [qset_ne _ _ (by omega)]; first | assumption | exact qset_self _ _ _ | (rw [qset_ne _ _ (by omega)]; first | assumption | exact qset_self _ _ _))))))) rfl ?_
  refine v_aload_n i_R_insert_4 rfl ?_
  refine v_get B i_R_insert_5 (by first | assumption | exact qset_self _ _ _ | (rw [qset_ne _ _ (by omega)]; first | assumption | exact qset_self _ _ _ | (rw [qset_ne _ _ (by omega)]; first | assumption | exact qset_self _ _ _ | (rw [qset_ne _ _ (by omega)]; first | assumption | exact qset_self _ _ _ | (rw [qset_ne _ _ (by omega)]; first | assumption | exact qset_self _ _ _ | (rw [qset_ne _ _ (by omega)]; first | assumption | exact qset_self _ _ _ | (rw [qset_ne _ _ (by omega)]; first | assumption | exact qset_self _ _ _))))))) rfl ?_
  refine v_alen B (by first | assumption | exact qset_self _ _ _ | (rw [qset_ne _ _ (by omega)]; first | assumption | exact qset_self _ _ _ | (rw [qset_ne _ _ (by omega)]; first | assumption | exact qset_self _ _ _ | (rw [qset_ne _ _ (by omega)]; first | assumption | exact qset_self _ _ _ | (rw [qset_ne _ _ (by omega)]; first | assumption | exact qset_self _ _ _ | (rw [qset_ne _ _ (by omega)]; first | assumption | exact qset_self _ _ _ | (rw [qset_ne _ _ (by omega)]; first | assumption | exact qset_self _ _ _))))))) rfl i_R_insert_8 ?_
  refine v_icmp_lt (tgt := 13) i_R_insert_9 rfl (fun h9 => ?_) (fun h9 => ?_)
  · refine v_aload_n i_R_insert_13 rfl ?_
    refine v_get B i_R_insert_14 (by first | assumption | exact qset_self _ _ _ | (rw [qset_ne _ _ (by omega)]; first | assumption | exact qset_self _ _ _ | (rw [qset_ne _ _ (by omega)]; first | assumption | exact qset_self _ _ _ | (rw [qset_ne _ _ (by omega)]; first | assumption | exact qset_self _ _ _ | (rw [qset_ne _ _ (by omega)]; first | assumption | exact qset_self _ _ _ | (rw [qset_ne _ _ (by omega)]; first | assumption | exact qset_self _ _ _ | (rw [qset_ne _ _ (by omega)]; first | assumption | exact qset_self _ _ _))))))) rfl ?_
    refine v_istore i_R_insert_17 (by decide) rfl ?_
    refine v_loc [(0, .ref a), (1, .int k), (2, .long w), (4, .int (nI R.length))] rfl ?_
    exact c_R_insert_loop B k w hcap hlt R.length X fk fw (Nat.le_refl _) h0 hk hw hf (fun j h1 h2 => by omega) rfl (qSame.rf X a (a + 3))
  · exact absurd (nI_lt hlt (by omega)) h9
/-- the k-th difference of two rows: turns left, places, those passed -/
def rdf (R S : qRw) (k : Int32) : Nat → Int32 → Int32 → Int32 → Int64
  | 0, _, _, _ => 9223372036854775807
  | n + 1, i, j, p => if rkeyAt R i ≠ rkeyAt S j ∨ rwhatAt R i ≠ rwhatAt S j then
      (if p = k then lmin (rkeyAt R i) (rkeyAt S j) else rdf R S k n (i + if rkeyAt S j < rkeyAt R i then 0 else 1) (j + if rkeyAt R i < rkeyAt S j then 0 else 1) (p + 1))
    else rdf R S k n (i + if rkeyAt S j < rkeyAt R i then 0 else 1) (j + if rkeyAt R i < rkeyAt S j then 0 else 1) p
variable {b cap' : Nat} {S : qRw}
theorem c_R_differing_loop (B : qB l s0 C) (h : RowAt X a cap R) (g : RowAt X b cap' S) (k : Int32) : ∀ (n t : Nat) (i j p : Int32), t + n = R.length + S.length →
      qV l s0 C m_R_differing rm_R_differing (fun r X' => X = X' ∧ r = some (.long (rdf R S k n i j p))) (fun _ _ => False) 0 0 X 11 [(0, .ref a), (1, .ref b), (2, .int k), (3, .int i), (4, .int j), (5, .int p), (6, .int (nI t))] [] := by
  obtain ⟨h0, hc, hcap, -⟩ := id h
  obtain ⟨g0, gc, gcap, -⟩ := id g
  intro n
  induction n with
  | zero =>
    intro t i j p ht
    refine v_iload i_R_differing_11 rfl ?_
    refine v_aload_n i_R_differing_13 rfl ?_
    refine v_get B i_R_differing_14 (by first | assumption | exact qset_self _ _ _ | (rw [qset_ne _ _ (by omega)]; first | assumption | exact qset_self _ _ _ | (rw [qset_ne _ _ (by omega)]; first | assumption | exact qset_self _ _ _ | (rw [qset_ne _ _ (by omega)]; first | assumption | exact qset_self _ _ _ | (rw [qset_ne _ _ (by omega)]; first | assumption | exact qset_self _ _ _ | (rw [qset_ne _ _ (by omega)]; first | assumption | exact qset_self _ _ _ | (rw [qset_ne _ _ (by omega)]; first | assumption | exact qset_self _ _ _))))))) rfl ?_
    refine v_aload_n i_R_differing_17 rfl ?_
    refine v_get B i_R_differing_18 (by first | assumption | exact qset_self _ _ _ | (rw [qset_ne _ _ (by omega)]; first | assumption | exact qset_self _ _ _ | (rw [qset_ne _ _ (by omega)]; first | assumption | exact qset_self _ _ _ | (rw [qset_ne _ _ (by omega)]; first | assumption | exact qset_self _ _ _ | (rw [qset_ne _ _ (by omega)]; first | assumption | exact qset_self _ _ _ | (rw [qset_ne _ _ (by omega)]; first | assumption | exact qset_self _ _ _ | (rw [qset_ne _ _ (by omega)]; first | assumption | exact qset_self _ _ _))))))) rfl ?_
    refine v_iadd i_R_differing_21 ?_
    rw [nI_add]
    refine v_icmp_ge (tgt := 120) i_R_differing_22 rfl (fun h22 => ?_) (fun h22 => ?_)
    · refine v_ldc2 B i_R_differing_120 i_R_differing_120_w ?_
      exact v_lret i_R_differing_123 rfl (by decide) (by decide) ⟨rfl, rfl⟩
    · exact absurd (nI_le (by omega) (by omega)) h22
  | succ n ih =>
    intro t i j p ht
    refine v_iload i_R_differing_11 rfl ?_
    refine v_aload_n i_R_differing_13 rfl ?_
    refine v_get B i_R_differing_14 (by first | assumption | exact qset_self _ _ _ | (rw [qset_ne _ _ (by omega)]; first | assumption | exact qset_self _ _ _ | (rw [qset_ne _ _ (by omega)]; first | assumption | exact qset_self _ _ _ | (rw [qset_ne _ _ (by omega)]; first | assumption | exact qset_self _ _ _ | (rw [qset_ne _ _ (by omega)]; first | assumption | exact qset_self _ _ _ | (rw [qset_ne _ _ (by omega)]; first | assumption | exact qset_self _ _ _ | (rw [qset_ne _ _ (by omega)]; first | assumption | exact qset_self _ _ _))))))) rfl ?_
    refine v_aload_n i_R_differing_17 rfl ?_
    refine v_get B i_R_differing_18 (by first | assumption | exact qset_self _ _ _ | (rw [qset_ne _ _ (by omega)]; first | assumption | exact qset_self _ _ _ | (rw [qset_ne _ _ (by omega)]; first | assumption | exact qset_self _ _ _ | (rw [qset_ne _ _ (by omega)]; first | assumption | exact qset_self _ _ _ | (rw [qset_ne _ _ (by omega)]; first | assumption | exact qset_self _ _ _ | (rw [qset_ne _ _ (by omega)]; first | assumption | exact qset_self _ _ _ | (rw [qset_ne _ _ (by omega)]; first | assumption | exact qset_self _ _ _))))))) rfl ?_
    refine v_iadd i_R_differing_21 ?_
    rw [nI_add]
    refine v_icmp_ge (tgt := 120) i_R_differing_22 rfl (fun h22 => ?_) (fun h22 => ?_)
    · exact absurd h22 (nI_ge (by omega) (by omega))
    refine v_aload_n i_R_differing_25 rfl ?_
    refine v_iload_n i_R_differing_26 rfl ?_
    refine v_inv B i_R_differing_27 kn_m_R_keyAt (c_R_keyAt B h i) (by first | assumption | exact qset_self _ _ _ | (rw [qset_ne _ _ (by omega)]; first | assumption | exact qset_self _ _ _ | (rw [qset_ne _ _ (by omega)]; first | assumption | exact qset_self _ _ _ | (rw [qset_ne _ _ (by omega)]; first | assumption | exact qset_self _ _ _ | (rw [qset_ne _ _ (by omega)]; first | assumption | exact qset_self _ _ _ | (rw [qset_ne _ _ (by omega)]; first | assumption | exact qset_self _ _ _ | (rw [qset_ne _ _ (by omega)]; first | assumption | exact qset_self _ _ _))))))) rfl rfl (Nat.le_of_ble_eq_true rfl) ⟨by decide, by decide, by first | decide | (simp; omega), by first | decide | (simp; omega)⟩ rfl (fun r X' hq => ?_) (fun _ _ h => False.elim h)
    obtain ⟨rfl, rfl⟩ := hq
    refine v_lstore i_R_differing_30 (by decide) rfl ?_
    refine v_aload_n i_R_differing_32 rfl ?_
    refine v_iload i_R_differing_33 rfl ?_
    refine v_inv B i_R_differing_35 kn_m_R_keyAt (c_R_keyAt B g j) (by first | assumption | exact qset_self _ _ _ | (rw [qset_ne _ _ (by omega)]; first | assumption | exact qset_self _ _ _ | (rw [qset_ne _ _ (by omega)]; first | assumption | exact qset_self _ _ _ | (rw [qset_ne _ _ (by omega)]; first | assumption | exact qset_self _ _ _ | (rw [qset_ne _ _ (by omega)]; first | assumption | exact qset_self _ _ _ | (rw [qset_ne _ _ (by omega)]; first | assumption | exact qset_self _ _ _ | (rw [qset_ne _ _ (by omega)]; first | assumption | exact qset_self _ _ _))))))) rfl rfl (Nat.le_of_ble_eq_true rfl) ⟨by decide, by decide, by first | decide | (simp; omega), by first | decide | (simp; omega)⟩ rfl (fun r X' hq => ?_) (fun _ _ h => False.elim h)
    obtain ⟨rfl, rfl⟩ := hq
    refine v_lstore i_R_differing_38 (by decide) rfl ?_
    refine v_loc [(0, .ref a), (1, .ref b), (2, .int k), (3, .int i), (4, .int j), (5, .int p), (6, .int (nI t)), (7, .long (rkeyAt R i)), (9, .long (rkeyAt S j))] rfl ?_
    have tail : ∀ p2 : Int32, qV l s0 C m_R_differing rm_R_differing (fun r X2 => X = X2 ∧ r = some (.long (rdf R S k n (i + if rkeyAt S j < rkeyAt R i then 0 else 1) (j + if rkeyAt R i < rkeyAt S j then 0 else 1) p2))) (fun _ _ => False) 0 0 X 80 [(0, .ref a), (1, .ref b), (2, .int k), (3, .int i), (4, .int j), (5, .int p2), (6, .int (nI t)), (7, .long (rkeyAt R i)), (9, .long (rkeyAt S j))] [] := by
      intro p2
      have t2 : ∀ i2 : Int32, qV l s0 C m_R_differing rm_R_differing (fun r X2 => X = X2 ∧ r = some (.long (rdf R S k n i2 (j + if rkeyAt R i < rkeyAt S j then 0 else 1) p2))) (fun _ _ => False) 0 0 X 96 [(0, .ref a), (1, .ref b), (2, .int k), (3, .int i2), (4, .int j), (5, .int p2), (6, .int (nI t)), (7, .long (rkeyAt R i)), (9, .long (rkeyAt S j))] [] := by
        intro i2
        refine v_iload i_R_differing_96 rfl ?_
        refine v_lload i_R_differing_98 rfl ?_
        refine v_lload i_R_differing_100 rfl ?_
        refine v_lcmp i_R_differing_102 ?_
        refine v_if_gt (tgt := 110) i_R_differing_103 rfl (fun h103 => ?_) (fun h103 => ?_)
        · refine v_iconst (v := 0) i_R_differing_110 rfl ?_
          refine v_iadd i_R_differing_111 ?_
          refine v_istore i_R_differing_112 (by decide) rfl ?_
          refine v_iinc (v := nI (t + 1)) i_R_differing_114 rfl (nI_1 t) (by decide) rfl ?_
          refine v_goto (tgt := 11) i_R_differing_117 rfl ?_
          refine v_loc [(0, .ref a), (1, .ref b), (2, .int k), (3, .int i2), (4, .int (j + 0)), (5, .int p2), (6, .int (nI (t + 1)))] rfl ?_
          rw [if_pos (lcmp_gt.mp h103)]
          exact ih (t + 1) i2 (j + 0) p2 (by omega)
        · refine v_iconst (v := 1) i_R_differing_106 rfl ?_
          refine v_goto (tgt := 111) i_R_differing_107 rfl ?_
          refine v_iadd i_R_differing_111 ?_
          refine v_istore i_R_differing_112 (by decide) rfl ?_
          refine v_iinc (v := nI (t + 1)) i_R_differing_114 rfl (nI_1 t) (by decide) rfl ?_
          refine v_goto (tgt := 11) i_R_differing_117 rfl ?_
          refine v_loc [(0, .ref a), (1, .ref b), (2, .int k), (3, .int i2), (4, .int (j + 1)), (5, .int p2), (6, .int (nI (t + 1)))] rfl ?_
          rw [if_neg (fun q => h103 (lcmp_gt.mpr q))]
          exact ih (t + 1) i2 (j + 1) p2 (by omega)
      refine v_iload_n i_R_differing_80 rfl ?_
      refine v_lload i_R_differing_81 rfl ?_
      refine v_lload i_R_differing_83 rfl ?_
      refine v_lcmp i_R_differing_85 ?_
      refine v_if_gt (tgt := 93) i_R_differing_86 rfl (fun h86 => ?_) (fun h86 => ?_)
      · refine v_iconst (v := 0) i_R_differing_93 rfl ?_
        refine v_iadd i_R_differing_94 ?_
        refine v_istore_n i_R_differing_95 (by decide) rfl ?_
        refine v_loc [(0, .ref a), (1, .ref b), (2, .int k), (3, .int (i + 0)), (4, .int j), (5, .int p2), (6, .int (nI t)), (7, .long (rkeyAt R i)), (9, .long (rkeyAt S j))] rfl ?_
        have h9 := t2 (i + 0)
        rw [if_pos (show rkeyAt S j < rkeyAt R i from lcmp_gt.mp h86)]
        exact h9
      · refine v_iconst (v := 1) i_R_differing_89 rfl ?_
        refine v_goto (tgt := 94) i_R_differing_90 rfl ?_
        refine v_iadd i_R_differing_94 ?_
        refine v_istore_n i_R_differing_95 (by decide) rfl ?_
        refine v_loc [(0, .ref a), (1, .ref b), (2, .int k), (3, .int (i + 1)), (4, .int j), (5, .int p2), (6, .int (nI t)), (7, .long (rkeyAt R i)), (9, .long (rkeyAt S j))] rfl ?_
        have h9 := t2 (i + 1)
        rw [if_neg (show ¬ rkeyAt S j < rkeyAt R i from fun q => h86 (lcmp_gt.mpr q))]
        exact h9
    have differ : (rkeyAt R i ≠ rkeyAt S j ∨ rwhatAt R i ≠ rwhatAt S j) → qV l s0 C m_R_differing rm_R_differing (fun r X2 => X = X2 ∧ r = some (.long (rdf R S k (n + 1) i j p))) (fun _ _ => False) 0 0 X 63 [(0, .ref a), (1, .ref b), (2, .int k), (3, .int i), (4, .int j), (5, .int p), (6, .int (nI t)), (7, .long (rkeyAt R i)), (9, .long (rkeyAt S j))] [] := by
      intro hne
      rw [rdf, if_pos hne]
      refine v_iload i_R_differing_63 rfl ?_
      refine v_iload_n i_R_differing_65 rfl ?_
      refine v_icmp_ne (tgt := 77) i_R_differing_66 rfl (fun h66 => ?_) (fun h66 => ?_)
      · refine v_iinc (v := p + 1) i_R_differing_77 rfl rfl (by decide) rfl ?_
        refine v_loc [(0, .ref a), (1, .ref b), (2, .int k), (3, .int i), (4, .int j), (5, .int (p + 1)), (6, .int (nI t)), (7, .long (rkeyAt R i)), (9, .long (rkeyAt S j))] rfl ?_
        rw [if_neg h66]
        exact tail (p + 1)
      · refine v_lload i_R_differing_69 rfl ?_
        refine v_lload i_R_differing_71 rfl ?_
        refine v_invS B i_R_differing_73 kn_m_J_minJ (c_J_minJ (rkeyAt R i) (rkeyAt S j)) rfl rfl (Nat.le_of_ble_eq_true rfl) ⟨by decide, by decide, by first | decide | (simp; omega), by first | decide | (simp; omega)⟩ rfl (fun r X' hq => ?_) (fun _ _ h => False.elim h)
        obtain ⟨rfl, rfl⟩ := hq
        refine v_lret i_R_differing_76 rfl (by decide) (by decide) ⟨rfl, ?_⟩
        rw [if_pos h66]
    refine v_lload i_R_differing_40 rfl ?_
    refine v_lload i_R_differing_42 rfl ?_
    refine v_lcmp i_R_differing_44 ?_
    refine v_if_ne (tgt := 63) i_R_differing_45 rfl (fun h45 => ?_) (fun h45 => ?_)
    · exact differ (Or.inl (fun q => h45 (lcmp_eq.mpr q)))
    refine v_aload_n i_R_differing_48 rfl ?_
    refine v_iload_n i_R_differing_49 rfl ?_
    refine v_inv B i_R_differing_50 kn_m_R_whatAt (c_R_whatAt B h i) (by first | assumption | exact qset_self _ _ _ | (rw [qset_ne _ _ (by omega)]; first | assumption | exact qset_self _ _ _ | (rw [qset_ne _ _ (by omega)]; first | assumption | exact qset_self _ _ _ | (rw [qset_ne _ _ (by omega)]; first | assumption | exact qset_self _ _ _ | (rw [qset_ne _ _ (by omega)]; first | assumption | exact qset_self _ _ _ | (rw [qset_ne _ _ (by omega)]; first | assumption | exact qset_self _ _ _ | (rw [qset_ne _ _ (by omega)]; first | assumption | exact qset_self _ _ _))))))) rfl rfl (Nat.le_of_ble_eq_true rfl) ⟨by decide, by decide, by first | decide | (simp; omega), by first | decide | (simp; omega)⟩ rfl (fun r X' hq => ?_) (fun _ _ h => False.elim h)
    obtain ⟨rfl, rfl⟩ := hq
    refine v_aload_n i_R_differing_53 rfl ?_
    refine v_iload i_R_differing_54 rfl ?_
    refine v_inv B i_R_differing_56 kn_m_R_whatAt (c_R_whatAt B g j) (by first | assumption | exact qset_self _ _ _ | (rw [qset_ne _ _ (by omega)]; first | assumption | exact qset_self _ _ _ | (rw [qset_ne _ _ (by omega)]; first | assumption | exact qset_self _ _ _ | (rw [qset_ne _ _ (by omega)]; first | assumption | exact qset_self _ _ _ | (rw [qset_ne _ _ (by omega)]; first | assumption | exact qset_self _ _ _ | (rw [qset_ne _ _ (by omega)]; first | assumption | exact qset_self _ _ _ | (rw [qset_ne _ _ (by omega)]; first | assumption | exact qset_self _ _ _))))))) rfl rfl (Nat.le_of_ble_eq_true rfl) ⟨by decide, by decide, by first | decide | (simp; omega), by first | decide | (simp; omega)⟩ rfl (fun r X' hq => ?_) (fun _ _ h => False.elim h)
    obtain ⟨rfl, rfl⟩ := hq
    refine v_lcmp i_R_differing_59 ?_
    refine v_if_eq (tgt := 80) i_R_differing_60 rfl (fun h60 => ?_) (fun h60 => ?_)
    · rw [rdf, if_neg]
      · exact tail p
      · intro q
        rcases q with q | q
        · exact q (lcmp_eq.mp h45)
        · exact q (lcmp_eq.mp h60)
    · exact differ (Or.inr (fun q => h60 (lcmp_eq.mpr q)))
theorem c_R_differing (B : qB l s0 C) (h : RowAt X a cap R) (g : RowAt X b cap' S) (k : Int32) : qMet l s0 C m_R_differing rm_R_differing [.ref a, .ref b, .int k] X (fun r X' => X = X' ∧ r = some (.long (rdf R S k (R.length + S.length) 0 0 0))) (fun _ _ => False) := by
  refine q_of (by decide +kernel) (Nat.le_of_ble_eq_true rfl) ?_
  refine v_L (L' := [(0, .ref a), (1, .ref b), (2, .int k)]) rfl ?_
  refine v_iconst (v := 0) i_R_differing_0 rfl ?_
  refine v_istore_n i_R_differing_1 (by decide) rfl ?_
  refine v_iconst (v := 0) i_R_differing_2 rfl ?_
  refine v_istore i_R_differing_3 (by decide) rfl ?_
  refine v_iconst (v := 0) i_R_differing_5 rfl ?_
  refine v_istore i_R_differing_6 (by decide) rfl ?_
  refine v_iconst (v := 0) i_R_differing_8 rfl ?_
  refine v_istore i_R_differing_9 (by decide) rfl ?_
  refine v_loc [(0, .ref a), (1, .ref b), (2, .int k), (3, .int 0), (4, .int 0), (5, .int 0), (6, .int (nI 0))] rfl ?_
  exact c_R_differing_loop B h g k _ 0 0 0 0 (by omega)
/-- a new row: its arrays come right behind what is there -/
theorem c_R_init (B : qB l s0 C) {z : List Value} (N : Nat) (hN : N < 1000) (h0 : X.1 a = some (.inr (2, z))) (hz : z = qz 2) (ha : X.2 = a + 1) : qMet l s0 C m_R_init { rm_R_init with cells := 2, slots := 2000 } [.ref a, .int (nI N)] X (fun r X' => r = none ∧ RowAt X' a N [] ∧ X'.2 = a + 3 ∧ ∀ q, q < a → X'.1 q = X.1 q) (fun _ _ => False) := by
  subst hz
  have hmx : imax (nI N) 0 = nI N := by rw [imax, if_neg (nI_pos (by omega))]
  refine q_of (by decide +kernel) (Nat.le_of_ble_eq_true rfl) ?_
  refine v_L (L' := [(0, .ref a), (1, .int (nI N))]) rfl ?_
  refine v_aload_n i_R_init_0 rfl ?_
  refine v_obj B i_R_init_1 wo_1 wo_2 (by decide) (by decide) ?_
  refine v_aload_n i_R_init_4 rfl ?_
  refine v_iload_n i_R_init_5 rfl ?_
  refine v_iconst (v := 0) i_R_init_6 rfl ?_
  refine v_invS B i_R_init_7 kn_m_J_maxI (c_J_maxI (nI N) 0) rfl rfl (Nat.le_of_ble_eq_true rfl) ⟨by decide, by decide, by first | decide | (simp; omega), by first | decide | (simp; omega)⟩ rfl (fun r X' hq => ?_) (fun _ _ h => False.elim h)
  obtain ⟨rfl, rfl⟩ := hq
  refine v_newa B (t := 0) (N := N) (Or.inl ⟨rfl, rfl⟩) i_R_init_10 wa_I hmx (by omega) (by decide) (by show 0 + 0 + N ≤ 2000; omega) ?_
  refine v_put B i_R_init_12 (by rw [qnew_ne _ _ (by omega)]; exact h0) (Nat.le_of_ble_eq_true rfl) rfl rfl ?_
  refine v_aload_n i_R_init_15 rfl ?_
  refine v_iload_n i_R_init_16 rfl ?_
  refine v_iconst (v := 0) i_R_init_17 rfl ?_
  refine v_invS B i_R_init_18 kn_m_J_maxI (c_J_maxI (nI N) 0) rfl rfl (Nat.le_of_ble_eq_true rfl) ⟨by decide, by decide, by first | decide | (simp; omega), by first | decide | (simp; omega)⟩ rfl (fun r X' hq => ?_) (fun _ _ h => False.elim h)
  obtain ⟨rfl, rfl⟩ := hq
  refine v_newa B (t := 1) (N := N) (Or.inr (Or.inl ⟨rfl, rfl⟩)) i_R_init_21 wa_J hmx (by omega) (by decide) (by show 0 + 0 + N + 0 + N ≤ 2000; omega) ?_
  refine v_put B i_R_init_23 (by rw [qnew_ne _ _ (by rw [qset_2, qnew_2]; omega)]; exact qset_self _ _ _) (Nat.le_of_ble_eq_true rfl) rfl rfl ?_
  refine v_vret i_R_init_26 rfl (by decide) (by show 0 + 0 + N + 0 + N ≤ 2000; omega) ⟨rfl, ⟨?_, Nat.zero_le _, by omega, fun _ => 0, fun _ => 0, ?_, ?_, fun i hi => absurd hi (Nat.not_lt_zero i)⟩, ?_, ?_⟩
  · rw [qset_self]
    simp only [qset_2, qnew_2, ha]
    rfl
  · rw [qset_ne _ _ (by omega), qnew_ne _ _ (by rw [qset_2, qnew_2]; omega), qset_ne _ _ (by omega), show a + 1 = X.2 from ha.symm, qnew_self]
    rfl
  · rw [qset_ne _ _ (by omega), show a + 2 = (qset (qnew X (Sum.inl (0, qt0 0 N))) a (Sum.inr (2, (qz 2).set 0 (Value.ref X.2)))).2 by rw [qset_2, qnew_2, ha], qnew_self]
    rfl
  · rw [qset_2, qnew_2, qset_2, qnew_2, ha]
  · intro q hq
    rw [qset_ne _ _ (by omega), qnew_ne _ _ (by rw [qset_2, qnew_2]; omega), qset_ne _ _ (by omega), qnew_ne _ _ (by omega)]
end RW
