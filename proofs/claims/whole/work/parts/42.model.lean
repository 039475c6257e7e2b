/-! THE REFERENCE PastTreeModel: an object at m, its arrays at m + 1 to m + 29: numbers s (by fields), arrays of ints and booleans I, of longs J (by arrays) -/
def mfs (m : Nat) (s : Nat → Int32) : List Value := [.int (s 0), .ref (m + 1), .ref (m + 2), .ref (m + 3), .ref (m + 4), .ref (m + 5), .ref (m + 6), .ref (m + 7), .ref (m + 8), .ref (m + 9), .int (s 10), .int (s 11), .int (s 12), .int (s 13), .ref (m + 10), .ref (m + 11), .ref (m + 12), .ref (m + 13), .ref (m + 14), .ref (m + 15), .int (s 20), .int (s 21), .ref (m + 16), .ref (m + 17), .ref (m + 18), .int (s 25), .int (s 26), .int (s 27), .int (s 28), .int (s 29), .int (s 30), .ref (m + 19), .ref (m + 20), .int (s 33), .ref (m + 21), .ref (m + 22), .ref (m + 23), .ref (m + 24), .ref (m + 25), .int (s 39), .ref (m + 26), .ref (m + 27), .ref (m + 28), .ref (m + 29)]
def mty (a : Nat) : Nat := if a = 9 ∨ a = 15 ∨ a = 18 ∨ a = 20 ∨ a = 22 ∨ a = 25 ∨ a = 27 then 1 else if a = 5 ∨ a = 12 ∨ a = 13 ∨ a = 16 then 2 else 0
def msz (a : Nat) : Nat := [0, 512, 512, 512, 512, 256, 8192, 8192, 8192, 8192, 5000, 40, 40, 160, 160, 160, 5000, 5000, 5000, 2, 2, 40, 40, 40, 4200, 4200, 4200, 4200, 4200, 4200].getD a 0
def mcell (a : Nat) (I : Nat → Nat → Int32) (J : Nat → Nat → Int64) : qEn := if mty a = 1 then .inl (1, msz a, .inr (.inl (J a))) else .inl (mty a, msz a, .inl (I a))
def MAt (X : qX) (m : Nat) (s : Nat → Int32) (I : Nat → Nat → Int32) (J : Nat → Nat → Int64) : Prop := X.1 m = some (.inr (5, mfs m s)) ∧ ∀ a, 1 ≤ a → a ≤ 29 → X.1 (m + a) = some (mcell a I J)
def mIu (I : Nat → Nat → Int32) (a j : Nat) (x : Int32) : Nat → Nat → Int32 := va_up I a (upd (I a) j x)
def mJu (J : Nat → Nat → Int64) (a j : Nat) (x : Int64) : Nat → Nat → Int64 := va_up J a (vp_updL (J a) j x)
section MB
variable {X X' : qX} {m : Nat} {s : Nat → Int32} {I : Nat → Nat → Int32} {J : Nat → Nat → Int64}
theorem MAt.all (h : MAt X m s I J) : X.1 m = some (.inr (5, mfs m s)) ∧ X.1 (m + 1) = some (.inl (0, 512, .inl (I 1))) ∧ X.1 (m + 2) = some (.inl (0, 512, .inl (I 2))) ∧ X.1 (m + 3) = some (.inl (0, 512, .inl (I 3))) ∧ X.1 (m + 4) = some (.inl (0, 512, .inl (I 4))) ∧ X.1 (m + 5) = some (.inl (2, 256, .inl (I 5))) ∧ X.1 (m + 6) = some (.inl (0, 8192, .inl (I 6))) ∧ X.1 (m + 7) = some (.inl (0, 8192, .inl (I 7))) ∧ X.1 (m + 8) = some (.inl (0, 8192, .inl (I 8))) ∧ X.1 (m + 9) = some (.inl (1, 8192, .inr (.inl (J 9)))) ∧ X.1 (m + 10) = some (.inl (0, 5000, .inl (I 10))) ∧ X.1 (m + 11) = some (.inl (0, 40, .inl (I 11))) ∧ X.1 (m + 12) = some (.inl (2, 40, .inl (I 12))) ∧ X.1 (m + 13) = some (.inl (2, 160, .inl (I 13))) ∧ X.1 (m + 14) = some (.inl (0, 160, .inl (I 14))) ∧ X.1 (m + 15) = some (.inl (1, 160, .inr (.inl (J 15)))) ∧ X.1 (m + 16) = some (.inl (2, 5000, .inl (I 16))) ∧ X.1 (m + 17) = some (.inl (0, 5000, .inl (I 17))) ∧ X.1 (m + 18) = some (.inl (1, 5000, .inr (.inl (J 18)))) ∧ X.1 (m + 19) = some (.inl (0, 2, .inl (I 19))) ∧ X.1 (m + 20) = some (.inl (1, 2, .inr (.inl (J 20)))) ∧ X.1 (m + 21) = some (.inl (0, 40, .inl (I 21))) ∧ X.1 (m + 22) = some (.inl (1, 40, .inr (.inl (J 22)))) ∧ X.1 (m + 23) = some (.inl (0, 40, .inl (I 23))) ∧ X.1 (m + 24) = some (.inl (0, 4200, .inl (I 24))) ∧ X.1 (m + 25) = some (.inl (1, 4200, .inr (.inl (J 25)))) ∧ X.1 (m + 26) = some (.inl (0, 4200, .inl (I 26))) ∧ X.1 (m + 27) = some (.inl (1, 4200, .inr (.inl (J 27)))) ∧ X.1 (m + 28) = some (.inl (0, 4200, .inl (I 28))) ∧ X.1 (m + 29) = some (.inl (0, 4200, .inl (I 29))) :=
  ⟨h.1, h.2 1 (by decide) (by decide), h.2 2 (by decide) (by decide), h.2 3 (by decide) (by decide), h.2 4 (by decide) (by decide), h.2 5 (by decide) (by decide), h.2 6 (by decide) (by decide), h.2 7 (by decide) (by decide), h.2 8 (by decide) (by decide), h.2 9 (by decide) (by decide), h.2 10 (by decide) (by decide), h.2 11 (by decide) (by decide), h.2 12 (by decide) (by decide), h.2 13 (by decide) (by decide), h.2 14 (by decide) (by decide), h.2 15 (by decide) (by decide), h.2 16 (by decide) (by decide), h.2 17 (by decide) (by decide), h.2 18 (by decide) (by decide), h.2 19 (by decide) (by decide), h.2 20 (by decide) (by decide), h.2 21 (by decide) (by decide), h.2 22 (by decide) (by decide), h.2 23 (by decide) (by decide), h.2 24 (by decide) (by decide), h.2 25 (by decide) (by decide), h.2 26 (by decide) (by decide), h.2 27 (by decide) (by decide), h.2 28 (by decide) (by decide), h.2 29 (by decide) (by decide)⟩
theorem MAt.same {lo hi : Nat} (h : MAt X m s I J) (hs : qSame X X' lo hi) (hd : m + 30 ≤ lo ∨ hi ≤ m) : MAt X' m s I J := ⟨by rw [hs.2 m (by omega)]; exact h.1, fun a h1 h2 => by rw [hs.2 (m + a) (by omega)]; exact h.2 a h1 h2⟩
theorem MAt.cells (h : MAt X m s I J) (hs : ∀ q, m ≤ q → q < m + 30 → X'.1 q = X.1 q) : MAt X' m s I J := ⟨by rw [hs m (by omega) (by omega)]; exact h.1, fun a h1 h2 => by rw [hs (m + a) (by omega) (by omega)]; exact h.2 a h1 h2⟩
theorem MAt.int (h : MAt X m s I J) {a N j : Nat} {x : Int32} (ht : mty a = 0) (hN : msz a = N) (h1 : 1 ≤ a) (h2 : a ≤ 29) : MAt (qset X (m + a) (.inl (0, N, .inl (upd (I a) j x)))) m s (mIu I a j x) J := by
  refine ⟨by rw [qset_ne _ _ (by omega)]; exact h.1, fun b hb1 hb2 => ?_⟩
  by_cases hba : b = a
  · subst hba
    rw [qset_self, mcell, if_neg (by rw [ht]; decide), ht, hN, mIu, va_up_self]
  · rw [qset_ne _ _ (by omega), h.2 b hb1 hb2]
    unfold mcell mIu
    rw [va_up_ne _ _ hba]
theorem MAt.bool (h : MAt X m s I J) {a N j : Nat} {x : Int32} (ht : mty a = 2) (hN : msz a = N) (h1 : 1 ≤ a) (h2 : a ≤ 29) : MAt (qset X (m + a) (.inl (2, N, .inl (upd (I a) j x)))) m s (mIu I a j x) J := by
  refine ⟨by rw [qset_ne _ _ (by omega)]; exact h.1, fun b hb1 hb2 => ?_⟩
  by_cases hba : b = a
  · subst hba
    rw [qset_self, mcell, if_neg (by rw [ht]; decide), ht, hN, mIu, va_up_self]
  · rw [qset_ne _ _ (by omega), h.2 b hb1 hb2]
    unfold mcell mIu
    rw [va_up_ne _ _ hba]
theorem MAt.long (h : MAt X m s I J) {a N j : Nat} {x : Int64} (ht : mty a = 1) (hN : msz a = N) (h1 : 1 ≤ a) (h2 : a ≤ 29) : MAt (qset X (m + a) (.inl (1, N, .inr (.inl (vp_updL (J a) j x))))) m s I (mJu J a j x) := by
  refine ⟨by rw [qset_ne _ _ (by omega)]; exact h.1, fun b hb1 hb2 => ?_⟩
  by_cases hba : b = a
  · subst hba
    rw [qset_self, mcell, if_pos ht, hN, mJu, va_up_self]
  · rw [qset_ne _ _ (by omega), h.2 b hb1 hb2]
    unfold mcell mJu
    rw [va_up_ne _ _ hba]
theorem MAt.num (h : MAt X m s I J) {j : Nat} {v : Int32} {fs : List Value} (hf : fs = mfs m (upd s j v)) : MAt (qset X m (.inr (5, fs))) m (upd s j v) I J := by
  subst hf
  exact ⟨qset_self _ _ _, fun b hb1 hb2 => by rw [qset_ne _ _ (by omega)]; exact h.2 b hb1 hb2⟩
variable {l : Launch} {s0 : State} {C : qC} {μ : qM} {rm : Room} {Qp : Option Value → qX → Prop} {Ep : String → qX → Prop} {k n : Nat} {pc : Nat} {L : List (Nat × Value)} {st : List Value}
theorem v_mput (B : qB l s0 C) (h : MAt X m s I J) {j : Nat} {v : Int32} (hi : qPut μ pc 5 j) (hj : j < (mfs m s).length) (hset : (mfs m s).set j (.int v) = mfs m (upd s j v)) (hn : narrow (qtt 5 j) (.int v) = .int v) (hfit : fits (qtt 5 j) (.int v) = true)
    (K : ∀ X' : qX, MAt X' m (upd s j v) I J → qSame X X' m (m + 30) → qV l s0 C μ rm Qp Ep k n X' (pc + 3) L st) : qV l s0 C μ rm Qp Ep k n X pc L (.int v :: .ref m :: st) :=
  v_put B hi h.1 hj hn hfit (K _ (h.num hset) ((qSame.rf X m (m + 30)).set _ (by omega) (by omega)))
theorem v_mist (B : qB l s0 C) (h : MAt X m s I J) {a N j : Nat} {i x : Int32} (ht : mty a = 0) (hN : msz a = N) (h1 : 1 ≤ a) (h2 : a ≤ 29) (hij : i = nI j) (hj : j < N) (hN2 : N < 2 ^ 31) (hd : decode μ.2.1 pc = .ok (.iastore, 1))
    (K : ∀ X' : qX, MAt X' m s (mIu I a j x) J → qSame X X' m (m + 30) → qV l s0 C μ rm Qp Ep k n X' (pc + 1) L st) : qV l s0 C μ rm Qp Ep k n X pc L (.int x :: .int i :: .ref (m + a) :: st) := by
  have ha : X.1 (m + a) = some (.inl (0, N, .inl (I a))) := by rw [h.2 a h1 h2, mcell, if_neg (by rw [ht]; decide), ht, hN]
  exact v_iast B ha hij hj hN2 hd (K _ (h.int ht hN h1 h2) ((qSame.rf X m (m + 30)).set _ (by omega) (by omega)))
theorem v_mzst (B : qB l s0 C) (h : MAt X m s I J) {a N j : Nat} {i x : Int32} (ht : mty a = 2) (hN : msz a = N) (h1 : 1 ≤ a) (h2 : a ≤ 29) (hij : i = nI j) (hj : j < N) (hN2 : N < 2 ^ 31) (hx : x = 0 ∨ x = 1) (hd : decode μ.2.1 pc = .ok (.bastore, 1))
    (K : ∀ X' : qX, MAt X' m s (mIu I a j x) J → qSame X X' m (m + 30) → qV l s0 C μ rm Qp Ep k n X' (pc + 1) L st) : qV l s0 C μ rm Qp Ep k n X pc L (.int x :: .int i :: .ref (m + a) :: st) := by
  have ha : X.1 (m + a) = some (.inl (2, N, .inl (I a))) := by rw [h.2 a h1 h2, mcell, if_neg (by rw [ht]; decide), ht, hN]
  exact v_zast B ha hij hj hN2 hx hd (K _ (h.bool ht hN h1 h2) ((qSame.rf X m (m + 30)).set _ (by omega) (by omega)))
theorem v_mlst (B : qB l s0 C) (h : MAt X m s I J) {a N j : Nat} {i : Int32} {x : Int64} (ht : mty a = 1) (hN : msz a = N) (h1 : 1 ≤ a) (h2 : a ≤ 29) (hij : i = nI j) (hj : j < N) (hN2 : N < 2 ^ 31) (hd : decode μ.2.1 pc = .ok (.lastore, 1))
    (K : ∀ X' : qX, MAt X' m s I (mJu J a j x) → qSame X X' m (m + 30) → qV l s0 C μ rm Qp Ep k n X' (pc + 1) L st) : qV l s0 C μ rm Qp Ep k n X pc L (.long x :: .int i :: .ref (m + a) :: st) := by
  have ha : X.1 (m + a) = some (.inl (1, N, .inr (.inl (J a)))) := by rw [h.2 a h1 h2, mcell, if_pos ht, hN]
  exact v_last B ha hij hj hN2 hd (K _ (h.long ht hN h1 h2) ((qSame.rf X m (m + 30)).set _ (by omega) (by omega)))
/-- a page out of the arrays -/
def mPg (I : Nat → Nat → Int32) (J : Nat → Nat → Int64) (p : Nat) (P : Pg) : Prop := PgOk P ∧ I 1 p = nI P.1 ∧ I 2 p = nI P.2.1 ∧ I 3 p = vO P.2.2.1 ∧ I 4 p = nI P.2.2.2.length ∧
  ∀ i, i < P.2.2.2.length → I 6 (16 * p + i) = (en P.2.2.2 i).1 ∧ I 7 (16 * p + i) = nI (en P.2.2.2 i).2.1 ∧ I 8 (16 * p + i) = vO (en P.2.2.2 i).2.2.1 ∧ J 9 (16 * p + i) = (en P.2.2.2 i).2.2.2
theorem nI_mul (a b : Nat) : nI a * nI b = nI (a * b) := (Int32.ofNat_mul a b).symm
theorem n16 (p : Nat) : (16 : Int32) * nI p = nI (16 * p) := nI_mul 16 p
theorem vO_neg {o : Option Nat} (h : oLt o (2 ^ 30)) : vO o < 0 ↔ o = none := by
  cases o with
  | none => exact ⟨fun _ => rfl, fun _ => by decide⟩
  | some t => exact ⟨fun q => absurd q (nI_pos (by have := h t rfl; omega)), fun q => by cases q⟩
theorem c_M_thrown (B : qB l s0 C) (h : MAt X m s I J) : qMet l s0 C m_M_thrown rm_M_thrown [.ref m] X (fun r X' => X = X' ∧ r = some (.int (s 0))) (fun _ _ => False) := by
  obtain ⟨h0, -⟩ := id h
  refine q_of (by decide +kernel) (Nat.le_of_ble_eq_true rfl) ?_
  refine v_L (L' := [(0, .ref m)]) rfl ?_
  refine v_aload_n i_M_thrown_0 rfl ?_
  refine v_get B i_M_thrown_1 (by first | assumption | exact qset_self _ _ _ | (rw [qset_ne _ _ (by omega)]; first | assumption | exact qset_self _ _ _ | (rw [qset_ne _ _ (by omega)]; first | assumption | exact qset_self _ _ _ | (rw [qset_ne _ _ (by omega)]; first | assumption | exact qset_self _ _ _ | (rw [qset_ne _ _ (by omega)]; first | assumption | exact qset_self _ _ _ | (rw [qset_ne _ _ (by omega)]; first | assumption | exact qset_self _ _ _ | (rw [qset_ne _ _ (by omega)]; first | assumption | exact qset_self _ _ _))))))) rfl ?_
  exact v_iret i_M_thrown_4 rfl (by decide) (by decide) ⟨rfl, rfl⟩
/-- the code of the first of four that holds -/
def mcode (a b c d : Bool) : Int32 := if a = true then 1 else if b = true then 2 else if c = true then 3 else if d = true then 4 else 0
theorem c_M_fails (B : qB l s0 C) (h : MAt X m s I J) (a b c d : Bool) : qMet l s0 C m_M_fails rm_M_fails [.ref m, .int (bI a), .int (bI b), .int (bI c), .int (bI d)] X (fun r X' => r = some (.int (bI (a || b || c || d))) ∧ MAt X' m (upd s 0 (mcode a b c d)) I J ∧ qSame X X' m (m + 30)) (fun _ _ => False) := by
  obtain ⟨h0, -⟩ := id h
  refine q_of (by decide +kernel) (Nat.le_of_ble_eq_true rfl) ?_
  refine v_L (L' := [(0, .ref m), (1, .int (bI a)), (2, .int (bI b)), (3, .int (bI c)), (4, .int (bI d))]) rfl ?_
  have go : ∀ v : Int32, v = mcode a b c d → qV l s0 C m_M_fails rm_M_fails (fun r X' => r = some (.int (bI (a || b || c || d))) ∧ MAt X' m (upd s 0 (mcode a b c d)) I J ∧ qSame X X' m (m + 30)) (fun _ _ => False) 0 0 X 35 [(0, .ref m), (1, .int (bI a)), (2, .int (bI b)), (3, .int (bI c)), (4, .int (bI d))] [.int v, .ref m] := by
    intro v hv
    refine v_mput B h (j := 0) i_M_fails_35 (Nat.le_of_ble_eq_true rfl) rfl rfl rfl (fun X1 h1 f1 => ?_)
    obtain ⟨k0, -⟩ := id h1
    refine v_aload_n i_M_fails_38 rfl ?_
    refine v_get B i_M_fails_39 (by first | assumption | exact qset_self _ _ _ | (rw [qset_ne _ _ (by omega)]; first | assumption | exact qset_self _ _ _ | (rw [qset_ne _ _ (by omega)]; first | assumption | exact qset_self _ _ _ | (rw [qset_ne _ _ (by omega)]; first | assumption | exact qset_self _ _ _ | (rw [qset_ne _ _ (by omega)]; first | assumption | exact qset_self _ _ _ | (rw [qset_ne _ _ (by omega)]; first | assumption | exact qset_self _ _ _ | (rw [qset_ne _ _ (by omega)]; first | assumption | exact qset_self _ _ _))))))) rfl ?_
    have hv2 : upd s 0 v 0 = mcode a b c d := by rw [pk_us, hv]
    rw [hv2]
    rw [hv] at h1
    refine v_if_le (tgt := 49) i_M_fails_42 rfl (fun h42 => ?_) (fun h42 => ?_)
    · refine v_iconst (v := 0) i_M_fails_49 rfl ?_
      refine v_zret i_M_fails_50 rfl (Or.inl rfl) (by decide) (by decide) ⟨?_, h1, f1⟩
      cases a <;> cases b <;> cases c <;> cases d <;> first | rfl | exact absurd h42 (by decide)
    · refine v_iconst (v := 1) i_M_fails_45 rfl ?_
      refine v_goto (tgt := 50) i_M_fails_46 rfl ?_
      refine v_zret i_M_fails_50 rfl (Or.inr rfl) (by decide) (by decide) ⟨?_, h1, f1⟩
      cases a <;> cases b <;> cases c <;> cases d <;> first | rfl | exact absurd (by decide) h42
  refine v_aload_n i_M_fails_0 rfl ?_
  refine v_iload_n i_M_fails_1 rfl ?_
  refine v_if_eq (tgt := 9) i_M_fails_2 rfl (fun q1 => ?_) (fun q1 => ?_)
  · have e1 := bI_0.mp q1
    refine v_iload_n i_M_fails_9 rfl ?_
    refine v_if_eq (tgt := 17) i_M_fails_10 rfl (fun q2 => ?_) (fun q2 => ?_)
    · have e2 := bI_0.mp q2
      refine v_iload_n i_M_fails_17 rfl ?_
      refine v_if_eq (tgt := 25) i_M_fails_18 rfl (fun q3 => ?_) (fun q3 => ?_)
      · have e3 := bI_0.mp q3
        refine v_iload i_M_fails_25 rfl ?_
        refine v_if_eq (tgt := 34) i_M_fails_27 rfl (fun q4 => ?_) (fun q4 => ?_)
        · have e4 := bI_0.mp q4
          refine v_iconst (v := 0) i_M_fails_34 rfl ?_
          exact go 0 (by rw [e1, e2, e3, e4]; rfl)
        · have e4 := bI_ne q4
          refine v_iconst (v := 4) i_M_fails_30 rfl ?_
          refine v_goto (tgt := 35) i_M_fails_31 rfl ?_
          exact go 4 (by rw [e1, e2, e3, e4]; rfl)
      · have e3 := bI_ne q3
        refine v_iconst (v := 3) i_M_fails_21 rfl ?_
        refine v_goto (tgt := 35) i_M_fails_22 rfl ?_
        exact go 3 (by rw [e1, e2, e3]; rfl)
    · have e2 := bI_ne q2
      refine v_iconst (v := 2) i_M_fails_13 rfl ?_
      refine v_goto (tgt := 35) i_M_fails_14 rfl ?_
      exact go 2 (by rw [e1, e2]; rfl)
  · have e1 := bI_ne q1
    refine v_iconst (v := 1) i_M_fails_5 rfl ?_
    refine v_goto (tgt := 35) i_M_fails_6 rfl ?_
    exact go 1 (by rw [e1]; rfl)
theorem c_M_isDown (B : qB l s0 C) (h : MAt X m s I J) {b : Bool} (hb : s 25 = bI b) : qMet l s0 C m_M_isDown rm_M_isDown [.ref m] X (fun r X' => r = some (.int (bI b)) ∧ MAt X' m (upd s 0 (bI b)) I J ∧ qSame X X' m (m + 30)) (fun _ _ => False) := by
  obtain ⟨h0, -⟩ := id h
  refine q_of (by decide +kernel) (Nat.le_of_ble_eq_true rfl) ?_
  refine v_L (L' := [(0, .ref m)]) rfl ?_
  refine v_aload_n i_M_isDown_0 rfl ?_
  refine v_aload_n i_M_isDown_1 rfl ?_
  refine v_get B i_M_isDown_2 (by first | assumption | exact qset_self _ _ _ | (rw [qset_ne _ _ (by omega)]; first | assumption | exact qset_self _ _ _ | (rw [qset_ne _ _ (by omega)]; first | assumption | exact qset_self _ _ _ | (rw [qset_ne _ _ (by omega)]; first | assumption | exact qset_self _ _ _ | (rw [qset_ne _ _ (by omega)]; first | assumption | exact qset_self _ _ _ | (rw [qset_ne _ _ (by omega)]; first | assumption | exact qset_self _ _ _ | (rw [qset_ne _ _ (by omega)]; first | assumption | exact qset_self _ _ _))))))) rfl ?_
  refine v_iconst (v := 0) i_M_isDown_5 rfl ?_
  refine v_iconst (v := 0) i_M_isDown_6 rfl ?_
  refine v_iconst (v := 0) i_M_isDown_7 rfl ?_
  rw [hb]
  refine v_inv B i_M_isDown_8 kn_m_M_fails (c_M_fails B h b false false false) h0 rfl rfl (Nat.le_of_ble_eq_true rfl) ⟨by decide, by decide, by first | decide | (simp; omega), by first | decide | (simp; omega)⟩ rfl (fun r X' hq => ?_) (fun _ _ h => False.elim h)
  obtain ⟨rfl, h1, f1⟩ := hq
  have e : mcode b false false false = bI b := by cases b <;> rfl
  rw [e] at h1
  refine v_zret i_M_isDown_11 rfl (bI_01 _) (by decide) (by decide) ⟨?_, h1, f1⟩
  cases b <;> rfl
theorem c_M_isAlive (B : qB l s0 C) (h : MAt X m s I J) {p i v : Nat} {P : Pg} (hP : mPg I J p P) (hp : p < 512) (hi : i < P.2.2.2.length) (hv : v < 2 ^ 30) : qMet l s0 C m_M_isAlive rm_M_isAlive [.ref m, .int (nI (16 * p + i)), .int (nI v)] X (fun r X' => X = X' ∧ r = some (.int (bI (alv (en P.2.2.2 i) v)))) (fun _ _ => False) := by
  obtain ⟨h0, a1, a2, a3, a4, a5, a6, a7, a8, a9, a10, a11, a12, a13, a14, a15, a16, a17, a18, a19, a20, a21, a22, a23, a24, a25, a26, a27, a28, a29⟩ := h.all
  obtain ⟨⟨o1, o2, o3, o4, o5⟩, -, -, -, -, q6⟩ := hP
  obtain ⟨e1, e2, e3, e4⟩ := q6 i hi
  obtain ⟨u1, u2⟩ := o5 i hi
  refine q_of (by decide +kernel) (Nat.le_of_ble_eq_true rfl) ?_
  refine v_L (L' := [(0, .ref m), (1, .int (nI (16 * p + i))), (2, .int (nI v))]) rfl ?_
  refine v_aload_n i_M_isAlive_0 rfl ?_
  refine v_get B i_M_isAlive_1 (by first | assumption | exact qset_self _ _ _ | (rw [qset_ne _ _ (by omega)]; first | assumption | exact qset_self _ _ _ | (rw [qset_ne _ _ (by omega)]; first | assumption | exact qset_self _ _ _ | (rw [qset_ne _ _ (by omega)]; first | assumption | exact qset_self _ _ _ | (rw [qset_ne _ _ (by omega)]; first | assumption | exact qset_self _ _ _ | (rw [qset_ne _ _ (by omega)]; first | assumption | exact qset_self _ _ _ | (rw [qset_ne _ _ (by omega)]; first | assumption | exact qset_self _ _ _))))))) rfl ?_
  refine v_iload_n i_M_isAlive_4 rfl ?_
  refine v_iald B (by first | assumption | exact qset_self _ _ _ | (rw [qset_ne _ _ (by omega)]; first | assumption | exact qset_self _ _ _ | (rw [qset_ne _ _ (by omega)]; first | assumption | exact qset_self _ _ _ | (rw [qset_ne _ _ (by omega)]; first | assumption | exact qset_self _ _ _ | (rw [qset_ne _ _ (by omega)]; first | assumption | exact qset_self _ _ _ | (rw [qset_ne _ _ (by omega)]; first | assumption | exact qset_self _ _ _ | (rw [qset_ne _ _ (by omega)]; first | assumption | exact qset_self _ _ _))))))) rfl (by omega) (by omega) i_M_isAlive_5 ?_
  refine v_iload_n i_M_isAlive_6 rfl ?_
  rw [e2]
  refine v_icmp_gt (tgt := 33) i_M_isAlive_7 rfl (fun h7 => ?_) (fun h7 => ?_)
  · refine v_iconst (v := 0) i_M_isAlive_33 rfl ?_
    refine v_zret i_M_isAlive_34 rfl (Or.inl rfl) (by decide) (by decide) ⟨rfl, ?_⟩
    rw [alv, decide_eq_false (by have := (nI_ltI (by omega) (by omega)).mp h7; omega)]; rfl
  have hle : (en P.2.2.2 i).2.1 ≤ v := by
    have : ¬ v < (en P.2.2.2 i).2.1 := fun q => h7 (nI_lt q (by omega))
    omega
  refine v_aload_n i_M_isAlive_10 rfl ?_
  refine v_get B i_M_isAlive_11 (by first | assumption | exact qset_self _ _ _ | (rw [qset_ne _ _ (by omega)]; first | assumption | exact qset_self _ _ _ | (rw [qset_ne _ _ (by omega)]; first | assumption | exact qset_self _ _ _ | (rw [qset_ne _ _ (by omega)]; first | assumption | exact qset_self _ _ _ | (rw [qset_ne _ _ (by omega)]; first | assumption | exact qset_self _ _ _ | (rw [qset_ne _ _ (by omega)]; first | assumption | exact qset_self _ _ _ | (rw [qset_ne _ _ (by omega)]; first | assumption | exact qset_self _ _ _))))))) rfl ?_
  refine v_iload_n i_M_isAlive_14 rfl ?_
  refine v_iald B (by first | assumption | exact qset_self _ _ _ | (rw [qset_ne _ _ (by omega)]; first | assumption | exact qset_self _ _ _ | (rw [qset_ne _ _ (by omega)]; first | assumption | exact qset_self _ _ _ | (rw [qset_ne _ _ (by omega)]; first | assumption | exact qset_self _ _ _ | (rw [qset_ne _ _ (by omega)]; first | assumption | exact qset_self _ _ _ | (rw [qset_ne _ _ (by omega)]; first | assumption | exact qset_self _ _ _ | (rw [qset_ne _ _ (by omega)]; first | assumption | exact qset_self _ _ _))))))) rfl (by omega) (by omega) i_M_isAlive_15 ?_
  rw [e3]
  refine v_if_lt (tgt := 29) i_M_isAlive_16 rfl (fun h16 => ?_) (fun h16 => ?_)
  · refine v_iconst (v := 1) i_M_isAlive_29 rfl ?_
    refine v_goto (tgt := 34) i_M_isAlive_30 rfl ?_
    refine v_zret i_M_isAlive_34 rfl (Or.inr rfl) (by decide) (by decide) ⟨rfl, ?_⟩
    rw [alv, decide_eq_true hle, (vO_neg u2).mp h16]; rfl
  cases ho : (en P.2.2.2 i).2.2.1 with
  | none => rw [ho] at h16; exact absurd (by decide) h16
  | some t =>
    rw [ho] at e3
    have ht := u2 t ho
    refine v_aload_n i_M_isAlive_19 rfl ?_
    refine v_get B i_M_isAlive_20 (by first | assumption | exact qset_self _ _ _ | (rw [qset_ne _ _ (by omega)]; first | assumption | exact qset_self _ _ _ | (rw [qset_ne _ _ (by omega)]; first | assumption | exact qset_self _ _ _ | (rw [qset_ne _ _ (by omega)]; first | assumption | exact qset_self _ _ _ | (rw [qset_ne _ _ (by omega)]; first | assumption | exact qset_self _ _ _ | (rw [qset_ne _ _ (by omega)]; first | assumption | exact qset_self _ _ _ | (rw [qset_ne _ _ (by omega)]; first | assumption | exact qset_self _ _ _))))))) rfl ?_
    refine v_iload_n i_M_isAlive_23 rfl ?_
    refine v_iald B (by first | assumption | exact qset_self _ _ _ | (rw [qset_ne _ _ (by omega)]; first | assumption | exact qset_self _ _ _ | (rw [qset_ne _ _ (by omega)]; first | assumption | exact qset_self _ _ _ | (rw [qset_ne _ _ (by omega)]; first | assumption | exact qset_self _ _ _ | (rw [qset_ne _ _ (by omega)]; first | assumption | exact qset_self _ _ _ | (rw [qset_ne _ _ (by omega)]; first | assumption | exact qset_self _ _ _ | (rw [qset_ne _ _ (by omega)]; first | assumption | exact qset_self _ _ _))))))) rfl (by omega) (by omega) i_M_isAlive_24 ?_
    refine v_iload_n i_M_isAlive_25 rfl ?_
    rw [e3]
    refine v_icmp_le (tgt := 33) i_M_isAlive_26 rfl (fun h26 => ?_) (fun h26 => ?_)
    · refine v_iconst (v := 0) i_M_isAlive_33 rfl ?_
      refine v_zret i_M_isAlive_34 rfl (Or.inl rfl) (by decide) (by decide) ⟨rfl, ?_⟩
      rw [alv, ho, decide_eq_true hle]
      show _ = some (Value.int (bI (true && decide (v < t))))
      rw [decide_eq_false (by have := (vO_le ht hv).mp h26; omega)]; rfl
    · refine v_iconst (v := 1) i_M_isAlive_29 rfl ?_
      refine v_goto (tgt := 34) i_M_isAlive_30 rfl ?_
      refine v_zret i_M_isAlive_34 rfl (Or.inr rfl) (by decide) (by decide) ⟨rfl, ?_⟩
      rw [alv, ho, decide_eq_true hle]
      show _ = some (Value.int (bI (true && decide (v < t))))
      rw [decide_eq_true (by have : ¬ t ≤ v := fun q => h26 ((vO_le ht hv).mpr q); omega)]; rfl
theorem c_M_serves (B : qB l s0 C) (h : MAt X m s I J) {p v : Nat} {P : Pg} (hP : mPg I J p P) (hp : p < 512) (hv : v < 2 ^ 30) : qMet l s0 C m_M_serves rm_M_serves [.ref m, .int (nI p), .int (nI v)] X (fun r X' => X = X' ∧ r = some (.int (bI (gserves P v)))) (fun _ _ => False) := by
  obtain ⟨h0, a1, a2, a3, a4, a5, a6, a7, a8, a9, a10, a11, a12, a13, a14, a15, a16, a17, a18, a19, a20, a21, a22, a23, a24, a25, a26, a27, a28, a29⟩ := h.all
  obtain ⟨⟨o1, o2, o3, o4, o5⟩, -, e2, e3, -, -⟩ := hP
  refine q_of (by decide +kernel) (Nat.le_of_ble_eq_true rfl) ?_
  refine v_L (L' := [(0, .ref m), (1, .int (nI p)), (2, .int (nI v))]) rfl ?_
  refine v_aload_n i_M_serves_0 rfl ?_
  refine v_get B i_M_serves_1 (by first | assumption | exact qset_self _ _ _ | (rw [qset_ne _ _ (by omega)]; first | assumption | exact qset_self _ _ _ | (rw [qset_ne _ _ (by omega)]; first | assumption | exact qset_self _ _ _ | (rw [qset_ne _ _ (by omega)]; first | assumption | exact qset_self _ _ _ | (rw [qset_ne _ _ (by omega)]; first | assumption | exact qset_self _ _ _ | (rw [qset_ne _ _ (by omega)]; first | assumption | exact qset_self _ _ _ | (rw [qset_ne _ _ (by omega)]; first | assumption | exact qset_self _ _ _))))))) rfl ?_
  refine v_iload_n i_M_serves_4 rfl ?_
  refine v_iald B (by first | assumption | exact qset_self _ _ _ | (rw [qset_ne _ _ (by omega)]; first | assumption | exact qset_self _ _ _ | (rw [qset_ne _ _ (by omega)]; first | assumption | exact qset_self _ _ _ | (rw [qset_ne _ _ (by omega)]; first | assumption | exact qset_self _ _ _ | (rw [qset_ne _ _ (by omega)]; first | assumption | exact qset_self _ _ _ | (rw [qset_ne _ _ (by omega)]; first | assumption | exact qset_self _ _ _ | (rw [qset_ne _ _ (by omega)]; first | assumption | exact qset_self _ _ _))))))) rfl (by omega) (by omega) i_M_serves_5 ?_
  refine v_iload_n i_M_serves_6 rfl ?_
  rw [e2]
  refine v_icmp_gt (tgt := 33) i_M_serves_7 rfl (fun h7 => ?_) (fun h7 => ?_)
  · refine v_iconst (v := 0) i_M_serves_33 rfl ?_
    refine v_zret i_M_serves_34 rfl (Or.inl rfl) (by decide) (by decide) ⟨rfl, ?_⟩
    rw [gserves, decide_eq_false (by have := (nI_ltI (by omega) (by omega)).mp h7; omega)]; rfl
  have hle : P.2.1 ≤ v := by
    have : ¬ v < P.2.1 := fun q => h7 (nI_lt q (by omega))
    omega
  refine v_aload_n i_M_serves_10 rfl ?_
  refine v_get B i_M_serves_11 (by first | assumption | exact qset_self _ _ _ | (rw [qset_ne _ _ (by omega)]; first | assumption | exact qset_self _ _ _ | (rw [qset_ne _ _ (by omega)]; first | assumption | exact qset_self _ _ _ | (rw [qset_ne _ _ (by omega)]; first | assumption | exact qset_self _ _ _ | (rw [qset_ne _ _ (by omega)]; first | assumption | exact qset_self _ _ _ | (rw [qset_ne _ _ (by omega)]; first | assumption | exact qset_self _ _ _ | (rw [qset_ne _ _ (by omega)]; first | assumption | exact qset_self _ _ _))))))) rfl ?_
  refine v_iload_n i_M_serves_14 rfl ?_
  refine v_iald B (by first | assumption | exact qset_self _ _ _ | (rw [qset_ne _ _ (by omega)]; first | assumption | exact qset_self _ _ _ | (rw [qset_ne _ _ (by omega)]; first | assumption | exact qset_self _ _ _ | (rw [qset_ne _ _ (by omega)]; first | assumption | exact qset_self _ _ _ | (rw [qset_ne _ _ (by omega)]; first | assumption | exact qset_self _ _ _ | (rw [qset_ne _ _ (by omega)]; first | assumption | exact qset_self _ _ _ | (rw [qset_ne _ _ (by omega)]; first | assumption | exact qset_self _ _ _))))))) rfl (by omega) (by omega) i_M_serves_15 ?_
  rw [e3]
  refine v_if_lt (tgt := 29) i_M_serves_16 rfl (fun h16 => ?_) (fun h16 => ?_)
  · refine v_iconst (v := 1) i_M_serves_29 rfl ?_
    refine v_goto (tgt := 34) i_M_serves_30 rfl ?_
    refine v_zret i_M_serves_34 rfl (Or.inr rfl) (by decide) (by decide) ⟨rfl, ?_⟩
    rw [gserves, decide_eq_true hle, (vO_neg o3).mp h16]; rfl
  cases ho : P.2.2.1 with
  | none => rw [ho] at h16; exact absurd (by decide) h16
  | some t =>
    rw [ho] at e3
    have ht := o3 t ho
    refine v_aload_n i_M_serves_19 rfl ?_
    refine v_get B i_M_serves_20 (by first | assumption | exact qset_self _ _ _ | (rw [qset_ne _ _ (by omega)]; first | assumption | exact qset_self _ _ _ | (rw [qset_ne _ _ (by omega)]; first | assumption | exact qset_self _ _ _ | (rw [qset_ne _ _ (by omega)]; first | assumption | exact qset_self _ _ _ | (rw [qset_ne _ _ (by omega)]; first | assumption | exact qset_self _ _ _ | (rw [qset_ne _ _ (by omega)]; first | assumption | exact qset_self _ _ _ | (rw [qset_ne _ _ (by omega)]; first | assumption | exact qset_self _ _ _))))))) rfl ?_
    refine v_iload_n i_M_serves_23 rfl ?_
    refine v_iald B (by first | assumption | exact qset_self _ _ _ | (rw [qset_ne _ _ (by omega)]; first | assumption | exact qset_self _ _ _ | (rw [qset_ne _ _ (by omega)]; first | assumption | exact qset_self _ _ _ | (rw [qset_ne _ _ (by omega)]; first | assumption | exact qset_self _ _ _ | (rw [qset_ne _ _ (by omega)]; first | assumption | exact qset_self _ _ _ | (rw [qset_ne _ _ (by omega)]; first | assumption | exact qset_self _ _ _ | (rw [qset_ne _ _ (by omega)]; first | assumption | exact qset_self _ _ _))))))) rfl (by omega) (by omega) i_M_serves_24 ?_
    refine v_iload_n i_M_serves_25 rfl ?_
    rw [e3]
    refine v_icmp_le (tgt := 33) i_M_serves_26 rfl (fun h26 => ?_) (fun h26 => ?_)
    · refine v_iconst (v := 0) i_M_serves_33 rfl ?_
      refine v_zret i_M_serves_34 rfl (Or.inl rfl) (by decide) (by decide) ⟨rfl, ?_⟩
      rw [gserves, ho, decide_eq_true hle]
      show _ = some (Value.int (bI (true && decide (v < t))))
      rw [decide_eq_false (by have := (vO_le ht hv).mp h26; omega)]; rfl
    · refine v_iconst (v := 1) i_M_serves_29 rfl ?_
      refine v_goto (tgt := 34) i_M_serves_30 rfl ?_
      refine v_zret i_M_serves_34 rfl (Or.inr rfl) (by decide) (by decide) ⟨rfl, ?_⟩
      rw [gserves, ho, decide_eq_true hle]
      show _ = some (Value.int (bI (true && decide (v < t))))
      rw [decide_eq_true (by have : ¬ t ≤ v := fun q => h26 ((vO_le ht hv).mpr q); omega)]; rfl
theorem c_M_aliveIn_loop (B : qB l s0 C) (h : MAt X m s I J) {p v : Nat} {P : Pg} (hP : mPg I J p P) (hp : p < 512) (hv : v < 2 ^ 30) : ∀ (j i : Nat), i + j = P.2.2.2.length →
    qV l s0 C m_M_aliveIn rm_M_aliveIn (fun r X' => X = X' ∧ r = some (.int (nI (gliving P.2.2.2 v P.2.2.2.length)))) (fun _ _ => False) 0 0 X 8 [(0, .ref m), (1, .int (nI p)), (2, .int (nI v)), (3, .int (nI (gliving P.2.2.2 v i))), (4, .int (nI (16 * p + i)))] [] := by
  obtain ⟨h0, a1, a2, a3, a4, a5, a6, a7, a8, a9, a10, a11, a12, a13, a14, a15, a16, a17, a18, a19, a20, a21, a22, a23, a24, a25, a26, a27, a28, a29⟩ := h.all
  obtain ⟨⟨o1, o2, o3, o4, o5⟩, -, -, -, e4, -⟩ := id hP
  intro j
  induction j with
  | zero =>
    intro i hij
    refine v_iload i_M_aliveIn_8 rfl ?_
    refine v_bipush (v := 16) i_M_aliveIn_10 rfl ?_
    refine v_iload_n i_M_aliveIn_12 rfl ?_
    refine v_imul i_M_aliveIn_13 ?_
    refine v_aload_n i_M_aliveIn_14 rfl ?_
    refine v_get B i_M_aliveIn_15 (by first | assumption | exact qset_self _ _ _ | (rw [qset_ne _ _ (by omega)]; first | assumption | exact qset_self _ _ _ | (rw [qset_ne _ _ (by omega)]; first | assumption | exact qset_self _ _ _ | (rw [qset_ne _ _ (by omega)]; first | assumption | exact qset_self _ _ _ | (rw [qset_ne _ _ (by omega)]; first | assumption | exact qset_self _ _ _ | (rw [qset_ne _ _ (by omega)]; first | assumption | exact qset_self _ _ _ | (rw [qset_ne _ _ (by omega)]; first | assumption | exact qset_self _ _ _))))))) rfl ?_
    refine v_iload_n i_M_aliveIn_18 rfl ?_
    refine v_iald B (by first | assumption | exact qset_self _ _ _ | (rw [qset_ne _ _ (by omega)]; first | assumption | exact qset_self _ _ _ | (rw [qset_ne _ _ (by omega)]; first | assumption | exact qset_self _ _ _ | (rw [qset_ne _ _ (by omega)]; first | assumption | exact qset_self _ _ _ | (rw [qset_ne _ _ (by omega)]; first | assumption | exact qset_self _ _ _ | (rw [qset_ne _ _ (by omega)]; first | assumption | exact qset_self _ _ _ | (rw [qset_ne _ _ (by omega)]; first | assumption | exact qset_self _ _ _))))))) rfl (by omega) (by omega) i_M_aliveIn_19 ?_
    rw [n16, e4]
    refine v_iadd i_M_aliveIn_20 ?_
    rw [nI_add]
    refine v_icmp_ge (tgt := 48) i_M_aliveIn_21 rfl (fun h21 => ?_) (fun h21 => ?_)
    · refine v_iload_n i_M_aliveIn_48 rfl ?_
      refine v_iret i_M_aliveIn_49 rfl (by decide) (by decide) ⟨rfl, ?_⟩
      rw [show i = P.2.2.2.length by omega]
    · exact absurd (nI_le (by omega) (by omega)) h21
  | succ j ih =>
    intro i hij
    refine v_iload i_M_aliveIn_8 rfl ?_
    refine v_bipush (v := 16) i_M_aliveIn_10 rfl ?_
    refine v_iload_n i_M_aliveIn_12 rfl ?_
    refine v_imul i_M_aliveIn_13 ?_
    refine v_aload_n i_M_aliveIn_14 rfl ?_
    refine v_get B i_M_aliveIn_15 (by first | assumption | exact qset_self _ _ _ | (rw [qset_ne _ _ (by omega)]; first | assumption | exact qset_self _ _ _ | (rw [qset_ne _ _ (by omega)]; first | assumption | exact qset_self _ _ _ | (rw [qset_ne _ _ (by omega)]; first | assumption | exact qset_self _ _ _ | (rw [qset_ne _ _ (by omega)]; first | assumption | exact qset_self _ _ _ | (rw [qset_ne _ _ (by omega)]; first | assumption | exact qset_self _ _ _ | (rw [qset_ne _ _ (by omega)]; first | assumption | exact qset_self _ _ _))))))) rfl ?_
    refine v_iload_n i_M_aliveIn_18 rfl ?_
    refine v_iald B (by first | assumption | exact qset_self _ _ _ | (rw [qset_ne _ _ (by omega)]; first | assumption | exact qset_self _ _ _ | (rw [qset_ne _ _ (by omega)]; first | assumption | exact qset_self _ _ _ | (rw [qset_ne _ _ (by omega)]; first | assumption | exact qset_self _ _ _ | (rw [qset_ne _ _ (by omega)]; first | assumption | exact qset_self _ _ _ | (rw [qset_ne _ _ (by omega)]; first | assumption | exact qset_self _ _ _ | (rw [qset_ne _ _ (by omega)]; first | assumption | exact qset_self _ _ _))))))) rfl (by omega) (by omega) i_M_aliveIn_19 ?_
    rw [n16, e4]
    refine v_iadd i_M_aliveIn_20 ?_
    rw [nI_add]
    refine v_icmp_ge (tgt := 48) i_M_aliveIn_21 rfl (fun h21 => ?_) (fun h21 => ?_)
    · exact absurd h21 (nI_ge (by omega) (by omega))
    refine v_iload_n i_M_aliveIn_24 rfl ?_
    refine v_aload_n i_M_aliveIn_25 rfl ?_
    refine v_iload i_M_aliveIn_26 rfl ?_
    refine v_iload_n i_M_aliveIn_28 rfl ?_
    refine v_inv B i_M_aliveIn_29 kn_m_M_isAlive (c_M_isAlive B h hP hp (i := i) (by omega) hv) h0 rfl rfl (Nat.le_of_ble_eq_true rfl) ⟨by decide, by decide, by first | decide | (simp; omega), by first | decide | (simp; omega)⟩ rfl (fun r X' hq => ?_) (fun _ _ h => False.elim h)
    obtain ⟨rfl, rfl⟩ := hq
    refine v_if_eq (tgt := 39) i_M_aliveIn_32 rfl (fun h32 => ?_) (fun h32 => ?_)
    · refine v_iconst (v := 0) i_M_aliveIn_39 rfl ?_
      refine v_iadd i_M_aliveIn_40 ?_
      refine v_istore_n i_M_aliveIn_41 (by decide) rfl ?_
      refine v_iinc (v := nI (16 * p + (i + 1))) i_M_aliveIn_42 rfl (nI_1 _) (by decide) rfl ?_
      refine v_goto (tgt := 8) i_M_aliveIn_45 rfl ?_
      refine v_loc [(0, .ref m), (1, .int (nI p)), (2, .int (nI v)), (3, .int (nI (gliving P.2.2.2 v (i + 1)))), (4, .int (nI (16 * p + (i + 1))))] ?_ (ih (i + 1) (by omega))
      rw [gliving, if_neg (by rw [bI_0.mp h32]; decide)]
      show _ = _
      rw [show nI (gliving P.2.2.2 v i + 0) = nI (gliving P.2.2.2 v i) + 0 from (nI_add _ 0).symm]
      rfl
    · refine v_iconst (v := 1) i_M_aliveIn_35 rfl ?_
      refine v_goto (tgt := 40) i_M_aliveIn_36 rfl ?_
      refine v_iadd i_M_aliveIn_40 ?_
      refine v_istore_n i_M_aliveIn_41 (by decide) rfl ?_
      refine v_iinc (v := nI (16 * p + (i + 1))) i_M_aliveIn_42 rfl (nI_1 _) (by decide) rfl ?_
      refine v_goto (tgt := 8) i_M_aliveIn_45 rfl ?_
      refine v_loc [(0, .ref m), (1, .int (nI p)), (2, .int (nI v)), (3, .int (nI (gliving P.2.2.2 v (i + 1)))), (4, .int (nI (16 * p + (i + 1))))] ?_ (ih (i + 1) (by omega))
      rw [gliving, if_pos (bI_ne h32)]
      rw [show nI (gliving P.2.2.2 v i + 1) = nI (gliving P.2.2.2 v i) + 1 from (nI_add _ 1).symm]
      rfl
theorem c_M_aliveIn (B : qB l s0 C) (h : MAt X m s I J) {p v : Nat} {P : Pg} (hP : mPg I J p P) (hp : p < 512) (hv : v < 2 ^ 30) : qMet l s0 C m_M_aliveIn rm_M_aliveIn [.ref m, .int (nI p), .int (nI v)] X (fun r X' => X = X' ∧ r = some (.int (nI (gliving P.2.2.2 v P.2.2.2.length)))) (fun _ _ => False) := by
  refine q_of (by decide +kernel) (Nat.le_of_ble_eq_true rfl) ?_
  refine v_L (L' := [(0, .ref m), (1, .int (nI p)), (2, .int (nI v))]) rfl ?_
  refine v_iconst (v := 0) i_M_aliveIn_0 rfl ?_
  refine v_istore_n i_M_aliveIn_1 (by decide) rfl ?_
  refine v_bipush (v := 16) i_M_aliveIn_2 rfl ?_
  refine v_iload_n i_M_aliveIn_4 rfl ?_
  refine v_imul i_M_aliveIn_5 ?_
  rw [n16]
  refine v_istore i_M_aliveIn_6 (by decide) rfl ?_
  refine v_loc [(0, .ref m), (1, .int (nI p)), (2, .int (nI v)), (3, .int (nI (gliving P.2.2.2 v 0))), (4, .int (nI (16 * p + 0)))] rfl ?_
  exact c_M_aliveIn_loop B h hP hp hv _ 0 (Nat.zero_add _)
end MB
