/-! the reference: cut, down, spoil as a whole; the constructor -/
section MV
variable {X X' : qX} {m : Nat} {s : Nat → Int32} {I : Nat → Nat → Int32} {J : Nat → Nat → Int64} {cd : Int32}
variable {pg : Nat → Pg} {made lat : Nat} {ro : Nat → Nat} {pgK : Nat → Pg} {madeK : Nat} {D : Dk} {op : Nat → Int32 × Int64 × Bool}
variable {l : Launch} {s0 : State} {C : qC}
theorem vO_ccut {n : Int32} (h : ¬ n < -1) : vO (ccut n) = n ∧ oLt (ccut n) (2 ^ 31) := by
  unfold ccut
  by_cases q : n = -1
  · rw [if_pos q, q]; exact ⟨rfl, fun t ht => (nomatch ht)⟩
  · rw [if_neg q]
    have hn : ¬ n < 0 := fun z => by
      have a := Int32.lt_iff_toInt_lt.mp z
      have b : ¬ n.toInt < (-1 : Int32).toInt := fun w => h (Int32.lt_iff_toInt_lt.mpr w)
      have e0 : (0 : Int32).toInt = 0 := rfl
      have e1 : (-1 : Int32).toInt = -1 := rfl
      rw [e0] at a
      rw [e1] at b
      exact q (Int32.toInt_inj.mp (by rw [e1]; omega))
    obtain ⟨j, j1, rfl⟩ := nI_of hn
    rw [nI_clamp j1]
    exact ⟨rfl, fun t ht => by cases ht; exact j1⟩
theorem c_M_cutR (B : qB l s0 C) (h : MR X m cd pg made lat ro pgK madeK D op) (n : Int32) : qMet l s0 C m_M_cut rm_M_cut [.ref m, .int n] X (fun r X' => r = none ∧ (D.2.2.2.2 = true ∧ MR X' m 1 pg made lat ro pgK madeK D op ∨ D.2.2.2.2 = false ∧ n < -1 ∧ MR X' m 2 pg made lat ro pgK madeK D op ∨ D.2.2.2.2 = false ∧ ¬ n < -1 ∧ MR X' m 0 pg made lat ro pgK madeK (D.1, D.2.1, D.2.2.1, ccut n, D.2.2.2.2) op) ∧ qSame X X' m (m + 30)) (fun _ _ => False) := by
  obtain ⟨s, I, J, h, hcd, hT, hD⟩ := h
  obtain ⟨⟨a1, a2, a3⟩, ⟨b1, b2, b3, b4, b5, b6⟩, ⟨c1, c2, c3⟩, d, e⟩ := id hD
  refine q_imp (c_M_cut B h b4 n) (fun r X' hq => ?_) (fun _ _ z => z)
  obtain ⟨rfl, h1, f1⟩ := hq
  refine ⟨rfl, ?_, f1⟩
  cases hdn : D.2.2.2.2 with
  | true =>
    rw [hdn, if_pos (by simp)] at h1
    exact Or.inl ⟨rfl, MR.rd hT hD (mRO.of h1 f1)⟩
  | false =>
    right
    by_cases hn : n < -1
    · rw [hdn, if_pos (by rw [decide_eq_true hn]; rfl), decide_eq_true hn] at h1
      exact Or.inl ⟨rfl, hn, MR.rd hT hD (mRO.of h1 f1)⟩
    · rw [hdn, if_neg (by rw [decide_eq_false hn]; decide)] at h1
      obtain ⟨v1, v2⟩ := vO_ccut hn
      have hs1 : sK [0, 26] s (upd (upd s 0 0) 26 n) := ((sK.rf _ _).set (by decide)).set (by decide)
      refine Or.inr ⟨rfl, hn, _, I, J, h1, by rw [pk_un (by decide), pk_us], hT.keep (A := []) (mK.rf _ _ _) hs1 (by decide) (by decide), ?_⟩
      refine ⟨⟨by rw [hs1 11 (by decide)]; exact a1, a2, a3⟩, ⟨by rw [hs1 13 (by decide)]; exact b1, by rw [hs1 20 (by decide)]; exact b2, by rw [hs1 21 (by decide), b3, hdn]; rfl, by rw [hs1 25 (by decide), b4, hdn], ?_, by rw [hs1 27 (by decide)]; exact b6⟩, ⟨c1, v2, c3⟩, d, fun _ => e hdn⟩
      rw [pk_us]
      show n = if false = true then -1 else vO (ccut n)
      rw [if_neg (by decide)]; exact v1.symm
theorem c_M_downR (B : qB l s0 C) (h : MR X m cd pg made lat ro pgK madeK D op) : qMet l s0 C m_M_down rm_M_down [.ref m] X (fun r X' => r = none ∧ (D.2.2.2.2 = true ∧ MR X' m 1 pg made lat ro pgK madeK D op ∨ D.2.2.2.2 = false ∧ MR X' m 0 pg made lat ro pgK madeK (D.1, D.2.1, D.2.2.1, D.2.2.2.1, true) op) ∧ qSame X X' m (m + 30)) (fun _ _ => False) := by
  obtain ⟨s, I, J, h, hcd, hT, hD⟩ := h
  obtain ⟨⟨a1, a2, a3⟩, ⟨b1, b2, b3, b4, b5, b6⟩, ⟨c1, c2, c3⟩, d, e⟩ := id hD
  refine q_imp (c_M_down B h b4) (fun r X' hq => ?_) (fun _ _ z => z)
  obtain ⟨rfl, h1, f1⟩ := hq
  refine ⟨rfl, ?_, f1⟩
  cases hdn : D.2.2.2.2 with
  | true =>
    rw [hdn, if_pos rfl] at h1
    exact Or.inl ⟨rfl, MR.rd hT hD (mRO.of h1 f1)⟩
  | false =>
    right
    rw [hdn, if_neg (by decide)] at h1
    have hs1 : sK [0, 21, 25, 26] s (upd (upd (upd (upd s 0 0) 25 1) 26 (-1)) 21 0) := ((((sK.rf _ _).set (by decide)).set (by decide)).set (by decide)).set (by decide)
    refine ⟨rfl, _, I, J, h1, by rw [pk_un (by decide), pk_un (by decide), pk_un (by decide), pk_us], hT.keep (A := []) (mK.rf _ _ _) hs1 (by decide) (by decide), ?_⟩
    refine ⟨⟨by rw [hs1 11 (by decide)]; exact a1, a2, a3⟩, ⟨by rw [hs1 13 (by decide)]; exact b1, by rw [hs1 20 (by decide)]; exact b2, by rw [pk_us]; rfl, by rw [pk_un (by decide), pk_un (by decide), pk_us]; rfl, by rw [pk_un (by decide), pk_us]; rfl, by rw [hs1 27 (by decide)]; exact b6⟩, ⟨c1, c2, c3⟩, d, fun q => (nomatch q)⟩
theorem lg_fst (b : Lg) (i : Nat) (hi : i < b.length) : ∀ n, dsn (b.set i ((lg b i).1, true)) n = dsn b n
  | 0 => rfl
  | n + 1 => by
    rw [dsn, dsn, lg_fst b i hi n, lg_set _ _ _ _ hi]
    by_cases q : n = i
    · rw [if_pos q, q]
    · rw [if_neg q]
theorem c_M_spoilR (B : qB l s0 C) (h : MR X m cd pg made lat ro pgK madeK D op) (v : Int32) : qMet l s0 C m_M_spoil rm_M_spoil [.ref m, .int v] X (fun r X' => r = none ∧ (∀ i, i < D.1.length → v = nI i → MR X' m 0 pg made lat ro pgK madeK (D.1.set i ((lg D.1 i).1, true), D.2) op) ∧ (¬ (0 ≤ v ∧ v < nI D.1.length) → MR X' m 1 pg made lat ro pgK madeK D op) ∧ qSame X X' m (m + 30)) (fun _ _ => False) := by
  obtain ⟨s, I, J, h, hcd, hT, hD⟩ := h
  obtain ⟨⟨a1, a2, a3⟩, ⟨b1, b2, b3, b4, b5, b6⟩, ⟨c1, c2, c3⟩, d, e⟩ := id hD
  refine q_imp (c_M_spoil B h b2 c1 v) (fun r X' hq => ?_) (fun _ _ z => z)
  obtain ⟨rfl, h1, h2, f1⟩ := hq
  refine ⟨rfl, fun i hi ev => ?_, fun hn => MR.rd hT hD (mRO.of (h2 hn) f1), f1⟩
  have h1 := h1 i hi ev
  have hs1 : sK [0] s (upd s 0 0) := (sK.rf _ _).set (by decide)
  have hk1 : mK [12] I J (mIu I 12 i 1) J := (mK.rf _ _ _).int (by decide)
  have hdl : dlat (D.1.set i ((lg D.1 i).1, true), D.2) = dlat D := by
    show D.2.2.1 + dsn (D.1.set i ((lg D.1 i).1, true)) (D.1.set i ((lg D.1 i).1, true)).length = _
    rw [List.length_set, lg_fst _ _ hi]; rfl
  refine ⟨_, _, J, h1, pk_us, hT.keep hk1 hs1 (by decide) (by decide), ?_⟩
  refine ⟨⟨by rw [hs1 11 (by decide)]; exact a1, a2, fun p hp => (a3 p hp).keep hk1 (by decide)⟩, ⟨by rw [hs1 13 (by decide)]; exact b1, by rw [hs1 20 (by decide), b2]; show _ = nI (D.1.set i ((lg D.1 i).1, true)).length; rw [List.length_set], by rw [hs1 21 (by decide), b3, hdl], by rw [hs1 25 (by decide)]; exact b4, by rw [hs1 26 (by decide)]; exact b5, by rw [hs1 27 (by decide)]; exact b6⟩, ⟨by show (D.1.set i ((lg D.1 i).1, true)).length ≤ 40; rw [List.length_set]; exact c1, c2, by rw [hdl]; exact c3⟩, fun b hb => ?_, fun hd j hj => ?_⟩
  · have hb' : b < D.1.length := by have : b < (D.1.set i ((lg D.1 i).1, true)).length := hb; rw [List.length_set] at this; exact this
    obtain ⟨d1, d2, d3, d4⟩ := d b hb'
    show mIu I 12 i 1 11 b = nI (lg (D.1.set i ((lg D.1 i).1, true)) b).1 ∧ (lg (D.1.set i ((lg D.1 i).1, true)) b).1 ≤ 4 ∧ mIu I 12 i 1 12 b = bI (lg (D.1.set i ((lg D.1 i).1, true)) b).2 ∧ ∀ j, j < (lg (D.1.set i ((lg D.1 i).1, true)) b).1 → mrc (mIu I 12 i 1 13 (4 * b + j)) (mIu I 12 i 1 14 (4 * b + j)) (J 15 (4 * b + j)) (op (D.2.2.1 + dsn (D.1.set i ((lg D.1 i).1, true)) b + j))
    rw [(hk1 11 (by decide)).1, (hk1 13 (by decide)).1, (hk1 14 (by decide)).1, lg_fst _ _ hi, lg_set _ _ _ _ hi, mIu_self]
    by_cases q : b = i
    · subst q
      rw [if_pos rfl, pk_us]
      exact ⟨d1, d2, rfl, d4⟩
    · rw [if_neg q, pk_un q]
      exact ⟨d1, d2, d3, d4⟩
  · rw [(hk1 16 (by decide)).1, (hk1 17 (by decide)).1, hdl]
    rw [hdl] at hj
    exact e hd j hj
end MV
/-- the reference while it is made: a arrays are there -/
def MP (X X0 : qX) (m a : Nat) (fs : List Value) : Prop := X.1 m = some (.inr (5, fs)) ∧ X.2 = m + a ∧ (∀ b, 1 ≤ b → b < a → X.1 (m + b) = some (mcell b (fun _ _ => 0) (fun _ _ => 0))) ∧ ∀ q, q < m → X.1 q = X0.1 q
section MI
variable {l : Launch} {s0 : State} {C : qC} {μ : qM} {rm : Room} {Qp : Option Value → qX → Prop} {Ep : String → qX → Prop} {k n : Nat} {X X0 : qX} {pc : Nat} {L : List (Nat × Value)} {st : List Value} {m a : Nat} {fs : List Value}
theorem v_minit (B : qB l s0 C) (h : MP X X0 m a fs) {ty : ArrayType} {t N j : Nat} {i : Int32} (ha : 1 ≤ a) (hty : (ty = .int ∧ t = 0) ∨ (ty = .long ∧ t = 1) ∨ (ty = .boolean ∧ t = 2)) (hd : decode μ.2.1 pc = .ok (.newarray ty, 2)) (hw : Cond.arrayClass (newarray.typeOf ty) ∈ lw_tbl) (hi : i = nI N) (hN : N < 100000) (hk : k + 1 ≤ rm.cells) (hm : n + N ≤ rm.slots) (hp : qPut μ (pc + 2) 5 j) (hj : j < fs.length) (ht : mty a = t) (hs : msz a = N) (hn : narrow (qtt 5 j) (.ref (m + a)) = .ref (m + a)) (hf : fits (qtt 5 j) (.ref (m + a)) = true) {fs' : List Value} (hset : fs.set j (.ref (m + a)) = fs')
    (K : ∀ X', MP X' X0 m (a + 1) fs' → qV l s0 C μ rm Qp Ep (k + 1) (n + N) X' (pc + 5) L st) : qV l s0 C μ rm Qp Ep k n X pc L (.int i :: .ref m :: st) := by
  obtain ⟨h1, h2, h3, h4⟩ := h
  refine v_newa B hty hd hw hi hN hk hm ?_
  rw [h2]
  refine v_put B hp (by rw [qnew_ne _ _ (by omega)]; exact h1) hj hn hf ?_
  subst hset
  refine K _ ⟨qset_self _ _ _, by rw [qset_2, qnew_2, h2]; omega, fun b b1 b2 => ?_, fun q hq => ?_⟩
  · rw [qset_ne _ _ (by omega)]
    by_cases e : b = a
    · subst e
      have : m + b = X.2 := h2.symm
      rw [this, qnew_self]
      congr 1
      unfold mcell
      rw [ht, hs]
      rcases hty with ⟨-, q⟩ | ⟨-, q⟩ | ⟨-, q⟩ <;> subst q <;> rfl
    · rw [qnew_ne _ _ (by omega)]
      exact h3 b b1 (by omega)
  · rw [qset_ne _ _ (by omega), qnew_ne _ _ (by omega)]
    exact h4 q hq
theorem v_mfld (B : qB l s0 C) (h : MP X X0 m a fs) {j : Nat} {v : Int32} (ha : 1 ≤ a) (hp : qPut μ pc 5 j) (hj : j < fs.length) (hn : narrow (qtt 5 j) (.int v) = .int v) (hf : fits (qtt 5 j) (.int v) = true) {fs' : List Value} (hset : fs.set j (.int v) = fs')
    (K : ∀ X', MP X' X0 m a fs' → qV l s0 C μ rm Qp Ep k n X' (pc + 3) L st) : qV l s0 C μ rm Qp Ep k n X pc L (.int v :: .ref m :: st) := by
  obtain ⟨h1, h2, h3, h4⟩ := h
  refine v_put B hp h1 hj hn hf ?_
  subst hset
  exact K _ ⟨qset_self _ _ _, by rw [qset_2, h2], fun b b1 b2 => by rw [qset_ne _ _ (by omega)]; exact h3 b b1 b2, fun q hq => by rw [qset_ne _ _ (by omega)]; exact h4 q hq⟩
end MI

section MI2
variable {l : Launch} {s0 : State} {C : qC} {X X0 : qX} {m : Nat}
theorem c_M_init_1 (B : qB l s0 C) (h : MP X X0 m 1 [.int 0, .null, .null, .null, .null, .null, .null, .null, .null, .null, .int 0, .int 0, .int 0, .int 0, .null, .null, .null, .null, .null, .null, .int 0, .int 0, .null, .null, .null, .int 0, .int 0, .int 0, .int 0, .int 0, .int 0, .null, .null, .int 0, .null, .null, .null, .null, .null, .int 0, .null, .null, .null, .null]) {Qp : Option Value → qX → Prop} (K : ∀ X', MP X' X0 m 5 [.int 0, .ref (m + 1), .ref (m + 2), .ref (m + 3), .ref (m + 4), .null, .null, .null, .null, .null, .int 0, .int 0, .int 0, .int 0, .null, .null, .null, .null, .null, .null, .int 0, .int 0, .null, .null, .null, .int 0, .int 0, .int 0, .int 0, .int 0, .int 0, .null, .null, .int 0, .null, .null, .null, .null, .null, .int 0, .null, .null, .null, .null] → qV l s0 C m_M_init rm_M_init Qp (fun _ _ => False) 4 2048 X' 44 [(0, .ref m)] [.int 256, .ref m]) : qV l s0 C m_M_init rm_M_init Qp (fun _ _ => False) 0 0 X 8 [(0, .ref m)] [.int 512, .ref m] := by
  refine v_minit B h (t := 0) (N := 512) (j := 1) (by decide) (Or.inl ⟨rfl, rfl⟩) i_M_init_8 wa_I rfl (by decide) (by decide) (by decide) i_M_init_10 (Nat.le_of_ble_eq_true rfl) rfl rfl rfl rfl (fs' := [.int 0, .ref (m + 1), .null, .null, .null, .null, .null, .null, .null, .null, .int 0, .int 0, .int 0, .int 0, .null, .null, .null, .null, .null, .null, .int 0, .int 0, .null, .null, .null, .int 0, .int 0, .int 0, .int 0, .int 0, .int 0, .null, .null, .int 0, .null, .null, .null, .null, .null, .int 0, .null, .null, .null, .null]) rfl (fun Y1 p1 => ?_)
  refine v_aload_n i_M_init_13 rfl ?_
  refine v_sipush (v := 512) i_M_init_14 rfl ?_
  refine v_minit B p1 (t := 0) (N := 512) (j := 2) (by decide) (Or.inl ⟨rfl, rfl⟩) i_M_init_17 wa_I rfl (by decide) (by decide) (by decide) i_M_init_19 (Nat.le_of_ble_eq_true rfl) rfl rfl rfl rfl (fs' := [.int 0, .ref (m + 1), .ref (m + 2), .null, .null, .null, .null, .null, .null, .null, .int 0, .int 0, .int 0, .int 0, .null, .null, .null, .null, .null, .null, .int 0, .int 0, .null, .null, .null, .int 0, .int 0, .int 0, .int 0, .int 0, .int 0, .null, .null, .int 0, .null, .null, .null, .null, .null, .int 0, .null, .null, .null, .null]) rfl (fun Y2 p2 => ?_)
  refine v_aload_n i_M_init_22 rfl ?_
  refine v_sipush (v := 512) i_M_init_23 rfl ?_
  refine v_minit B p2 (t := 0) (N := 512) (j := 3) (by decide) (Or.inl ⟨rfl, rfl⟩) i_M_init_26 wa_I rfl (by decide) (by decide) (by decide) i_M_init_28 (Nat.le_of_ble_eq_true rfl) rfl rfl rfl rfl (fs' := [.int 0, .ref (m + 1), .ref (m + 2), .ref (m + 3), .null, .null, .null, .null, .null, .null, .int 0, .int 0, .int 0, .int 0, .null, .null, .null, .null, .null, .null, .int 0, .int 0, .null, .null, .null, .int 0, .int 0, .int 0, .int 0, .int 0, .int 0, .null, .null, .int 0, .null, .null, .null, .null, .null, .int 0, .null, .null, .null, .null]) rfl (fun Y3 p3 => ?_)
  refine v_aload_n i_M_init_31 rfl ?_
  refine v_sipush (v := 512) i_M_init_32 rfl ?_
  refine v_minit B p3 (t := 0) (N := 512) (j := 4) (by decide) (Or.inl ⟨rfl, rfl⟩) i_M_init_35 wa_I rfl (by decide) (by decide) (by decide) i_M_init_37 (Nat.le_of_ble_eq_true rfl) rfl rfl rfl rfl (fs' := [.int 0, .ref (m + 1), .ref (m + 2), .ref (m + 3), .ref (m + 4), .null, .null, .null, .null, .null, .int 0, .int 0, .int 0, .int 0, .null, .null, .null, .null, .null, .null, .int 0, .int 0, .null, .null, .null, .int 0, .int 0, .int 0, .int 0, .int 0, .int 0, .null, .null, .int 0, .null, .null, .null, .null, .null, .int 0, .null, .null, .null, .null]) rfl (fun Y4 p4 => ?_)
  refine v_aload_n i_M_init_40 rfl ?_
  refine v_sipush (v := 256) i_M_init_41 rfl ?_
  exact K _ p4
theorem c_M_init_2 (B : qB l s0 C) (h : MP X X0 m 5 [.int 0, .ref (m + 1), .ref (m + 2), .ref (m + 3), .ref (m + 4), .null, .null, .null, .null, .null, .int 0, .int 0, .int 0, .int 0, .null, .null, .null, .null, .null, .null, .int 0, .int 0, .null, .null, .null, .int 0, .int 0, .int 0, .int 0, .int 0, .int 0, .null, .null, .int 0, .null, .null, .null, .null, .null, .int 0, .null, .null, .null, .null]) {Qp : Option Value → qX → Prop} (K : ∀ X', MP X' X0 m 9 [.int 0, .ref (m + 1), .ref (m + 2), .ref (m + 3), .ref (m + 4), .ref (m + 5), .ref (m + 6), .ref (m + 7), .ref (m + 8), .null, .int 0, .int 0, .int 0, .int 0, .null, .null, .null, .null, .null, .null, .int 0, .int 0, .null, .null, .null, .int 0, .int 0, .int 0, .int 0, .int 0, .int 0, .null, .null, .int 0, .null, .null, .null, .null, .null, .int 0, .null, .null, .null, .null] → qV l s0 C m_M_init rm_M_init Qp (fun _ _ => False) 8 26880 X' 80 [(0, .ref m)] [.int 8192, .ref m]) : qV l s0 C m_M_init rm_M_init Qp (fun _ _ => False) 4 2048 X 44 [(0, .ref m)] [.int 256, .ref m] := by
  refine v_minit B h (t := 2) (N := 256) (j := 5) (by decide) (Or.inr (Or.inr ⟨rfl, rfl⟩)) i_M_init_44 wa_Z rfl (by decide) (by decide) (by decide) i_M_init_46 (Nat.le_of_ble_eq_true rfl) rfl rfl rfl rfl (fs' := [.int 0, .ref (m + 1), .ref (m + 2), .ref (m + 3), .ref (m + 4), .ref (m + 5), .null, .null, .null, .null, .int 0, .int 0, .int 0, .int 0, .null, .null, .null, .null, .null, .null, .int 0, .int 0, .null, .null, .null, .int 0, .int 0, .int 0, .int 0, .int 0, .int 0, .null, .null, .int 0, .null, .null, .null, .null, .null, .int 0, .null, .null, .null, .null]) rfl (fun Y1 p1 => ?_)
  refine v_aload_n i_M_init_49 rfl ?_
  refine v_sipush (v := 8192) i_M_init_50 rfl ?_
  refine v_minit B p1 (t := 0) (N := 8192) (j := 6) (by decide) (Or.inl ⟨rfl, rfl⟩) i_M_init_53 wa_I rfl (by decide) (by decide) (by decide) i_M_init_55 (Nat.le_of_ble_eq_true rfl) rfl rfl rfl rfl (fs' := [.int 0, .ref (m + 1), .ref (m + 2), .ref (m + 3), .ref (m + 4), .ref (m + 5), .ref (m + 6), .null, .null, .null, .int 0, .int 0, .int 0, .int 0, .null, .null, .null, .null, .null, .null, .int 0, .int 0, .null, .null, .null, .int 0, .int 0, .int 0, .int 0, .int 0, .int 0, .null, .null, .int 0, .null, .null, .null, .null, .null, .int 0, .null, .null, .null, .null]) rfl (fun Y2 p2 => ?_)
  refine v_aload_n i_M_init_58 rfl ?_
  refine v_sipush (v := 8192) i_M_init_59 rfl ?_
  refine v_minit B p2 (t := 0) (N := 8192) (j := 7) (by decide) (Or.inl ⟨rfl, rfl⟩) i_M_init_62 wa_I rfl (by decide) (by decide) (by decide) i_M_init_64 (Nat.le_of_ble_eq_true rfl) rfl rfl rfl rfl (fs' := [.int 0, .ref (m + 1), .ref (m + 2), .ref (m + 3), .ref (m + 4), .ref (m + 5), .ref (m + 6), .ref (m + 7), .null, .null, .int 0, .int 0, .int 0, .int 0, .null, .null, .null, .null, .null, .null, .int 0, .int 0, .null, .null, .null, .int 0, .int 0, .int 0, .int 0, .int 0, .int 0, .null, .null, .int 0, .null, .null, .null, .null, .null, .int 0, .null, .null, .null, .null]) rfl (fun Y3 p3 => ?_)
  refine v_aload_n i_M_init_67 rfl ?_
  refine v_sipush (v := 8192) i_M_init_68 rfl ?_
  refine v_minit B p3 (t := 0) (N := 8192) (j := 8) (by decide) (Or.inl ⟨rfl, rfl⟩) i_M_init_71 wa_I rfl (by decide) (by decide) (by decide) i_M_init_73 (Nat.le_of_ble_eq_true rfl) rfl rfl rfl rfl (fs' := [.int 0, .ref (m + 1), .ref (m + 2), .ref (m + 3), .ref (m + 4), .ref (m + 5), .ref (m + 6), .ref (m + 7), .ref (m + 8), .null, .int 0, .int 0, .int 0, .int 0, .null, .null, .null, .null, .null, .null, .int 0, .int 0, .null, .null, .null, .int 0, .int 0, .int 0, .int 0, .int 0, .int 0, .null, .null, .int 0, .null, .null, .null, .null, .null, .int 0, .null, .null, .null, .null]) rfl (fun Y4 p4 => ?_)
  refine v_aload_n i_M_init_76 rfl ?_
  refine v_sipush (v := 8192) i_M_init_77 rfl ?_
  exact K _ p4
theorem c_M_init_3 (B : qB l s0 C) (h : MP X X0 m 9 [.int 0, .ref (m + 1), .ref (m + 2), .ref (m + 3), .ref (m + 4), .ref (m + 5), .ref (m + 6), .ref (m + 7), .ref (m + 8), .null, .int 0, .int 0, .int 0, .int 0, .null, .null, .null, .null, .null, .null, .int 0, .int 0, .null, .null, .null, .int 0, .int 0, .int 0, .int 0, .int 0, .int 0, .null, .null, .int 0, .null, .null, .null, .null, .null, .int 0, .null, .null, .null, .null]) {Qp : Option Value → qX → Prop} (K : ∀ X', MP X' X0 m 11 [.int 0, .ref (m + 1), .ref (m + 2), .ref (m + 3), .ref (m + 4), .ref (m + 5), .ref (m + 6), .ref (m + 7), .ref (m + 8), .ref (m + 9), .int 1, .int 1, .int 0, .int 0, .ref (m + 10), .null, .null, .null, .null, .null, .int 0, .int 0, .null, .null, .null, .int 0, .int 0, .int 0, .int 0, .int 0, .int 0, .null, .null, .int 0, .null, .null, .null, .null, .null, .int 0, .null, .null, .null, .null] → qV l s0 C m_M_init rm_M_init Qp (fun _ _ => False) 10 40072 X' 107 [(0, .ref m)] [.int 40, .ref m]) : qV l s0 C m_M_init rm_M_init Qp (fun _ _ => False) 8 26880 X 80 [(0, .ref m)] [.int 8192, .ref m] := by
  refine v_minit B h (t := 1) (N := 8192) (j := 9) (by decide) (Or.inr (Or.inl ⟨rfl, rfl⟩)) i_M_init_80 wa_J rfl (by decide) (by decide) (by decide) i_M_init_82 (Nat.le_of_ble_eq_true rfl) rfl rfl rfl rfl (fs' := [.int 0, .ref (m + 1), .ref (m + 2), .ref (m + 3), .ref (m + 4), .ref (m + 5), .ref (m + 6), .ref (m + 7), .ref (m + 8), .ref (m + 9), .int 0, .int 0, .int 0, .int 0, .null, .null, .null, .null, .null, .null, .int 0, .int 0, .null, .null, .null, .int 0, .int 0, .int 0, .int 0, .int 0, .int 0, .null, .null, .int 0, .null, .null, .null, .null, .null, .int 0, .null, .null, .null, .null]) rfl (fun Y1 p1 => ?_)
  refine v_aload_n i_M_init_85 rfl ?_
  refine v_iconst (v := 1) i_M_init_86 rfl ?_
  refine v_mfld B p1 (j := 10) (by decide) i_M_init_87 (Nat.le_of_ble_eq_true rfl) rfl rfl (fs' := [.int 0, .ref (m + 1), .ref (m + 2), .ref (m + 3), .ref (m + 4), .ref (m + 5), .ref (m + 6), .ref (m + 7), .ref (m + 8), .ref (m + 9), .int 1, .int 0, .int 0, .int 0, .null, .null, .null, .null, .null, .null, .int 0, .int 0, .null, .null, .null, .int 0, .int 0, .int 0, .int 0, .int 0, .int 0, .null, .null, .int 0, .null, .null, .null, .null, .null, .int 0, .null, .null, .null, .null]) rfl (fun Y2 p2 => ?_)
  refine v_aload_n i_M_init_90 rfl ?_
  refine v_iconst (v := 1) i_M_init_91 rfl ?_
  refine v_mfld B p2 (j := 11) (by decide) i_M_init_92 (Nat.le_of_ble_eq_true rfl) rfl rfl (fs' := [.int 0, .ref (m + 1), .ref (m + 2), .ref (m + 3), .ref (m + 4), .ref (m + 5), .ref (m + 6), .ref (m + 7), .ref (m + 8), .ref (m + 9), .int 1, .int 1, .int 0, .int 0, .null, .null, .null, .null, .null, .null, .int 0, .int 0, .null, .null, .null, .int 0, .int 0, .int 0, .int 0, .int 0, .int 0, .null, .null, .int 0, .null, .null, .null, .null, .null, .int 0, .null, .null, .null, .null]) rfl (fun Y3 p3 => ?_)
  refine v_aload_n i_M_init_95 rfl ?_
  refine v_sipush (v := 5000) i_M_init_96 rfl ?_
  refine v_minit B p3 (t := 0) (N := 5000) (j := 14) (by decide) (Or.inl ⟨rfl, rfl⟩) i_M_init_99 wa_I rfl (by decide) (by decide) (by decide) i_M_init_101 (Nat.le_of_ble_eq_true rfl) rfl rfl rfl rfl (fs' := [.int 0, .ref (m + 1), .ref (m + 2), .ref (m + 3), .ref (m + 4), .ref (m + 5), .ref (m + 6), .ref (m + 7), .ref (m + 8), .ref (m + 9), .int 1, .int 1, .int 0, .int 0, .ref (m + 10), .null, .null, .null, .null, .null, .int 0, .int 0, .null, .null, .null, .int 0, .int 0, .int 0, .int 0, .int 0, .int 0, .null, .null, .int 0, .null, .null, .null, .null, .null, .int 0, .null, .null, .null, .null]) rfl (fun Y4 p4 => ?_)
  refine v_aload_n i_M_init_104 rfl ?_
  refine v_bipush (v := 40) i_M_init_105 rfl ?_
  exact K _ p4
theorem c_M_init_4 (B : qB l s0 C) (h : MP X X0 m 11 [.int 0, .ref (m + 1), .ref (m + 2), .ref (m + 3), .ref (m + 4), .ref (m + 5), .ref (m + 6), .ref (m + 7), .ref (m + 8), .ref (m + 9), .int 1, .int 1, .int 0, .int 0, .ref (m + 10), .null, .null, .null, .null, .null, .int 0, .int 0, .null, .null, .null, .int 0, .int 0, .int 0, .int 0, .int 0, .int 0, .null, .null, .int 0, .null, .null, .null, .null, .null, .int 0, .null, .null, .null, .null]) {Qp : Option Value → qX → Prop} (K : ∀ X', MP X' X0 m 15 [.int 0, .ref (m + 1), .ref (m + 2), .ref (m + 3), .ref (m + 4), .ref (m + 5), .ref (m + 6), .ref (m + 7), .ref (m + 8), .ref (m + 9), .int 1, .int 1, .int 0, .int 0, .ref (m + 10), .ref (m + 11), .ref (m + 12), .ref (m + 13), .ref (m + 14), .null, .int 0, .int 0, .null, .null, .null, .int 0, .int 0, .int 0, .int 0, .int 0, .int 0, .null, .null, .int 0, .null, .null, .null, .null, .null, .int 0, .null, .null, .null, .null] → qV l s0 C m_M_init rm_M_init Qp (fun _ _ => False) 14 40472 X' 142 [(0, .ref m)] [.int 160, .ref m]) : qV l s0 C m_M_init rm_M_init Qp (fun _ _ => False) 10 40072 X 107 [(0, .ref m)] [.int 40, .ref m] := by
  refine v_minit B h (t := 0) (N := 40) (j := 15) (by decide) (Or.inl ⟨rfl, rfl⟩) i_M_init_107 wa_I rfl (by decide) (by decide) (by decide) i_M_init_109 (Nat.le_of_ble_eq_true rfl) rfl rfl rfl rfl (fs' := [.int 0, .ref (m + 1), .ref (m + 2), .ref (m + 3), .ref (m + 4), .ref (m + 5), .ref (m + 6), .ref (m + 7), .ref (m + 8), .ref (m + 9), .int 1, .int 1, .int 0, .int 0, .ref (m + 10), .ref (m + 11), .null, .null, .null, .null, .int 0, .int 0, .null, .null, .null, .int 0, .int 0, .int 0, .int 0, .int 0, .int 0, .null, .null, .int 0, .null, .null, .null, .null, .null, .int 0, .null, .null, .null, .null]) rfl (fun Y1 p1 => ?_)
  refine v_aload_n i_M_init_112 rfl ?_
  refine v_bipush (v := 40) i_M_init_113 rfl ?_
  refine v_minit B p1 (t := 2) (N := 40) (j := 16) (by decide) (Or.inr (Or.inr ⟨rfl, rfl⟩)) i_M_init_115 wa_Z rfl (by decide) (by decide) (by decide) i_M_init_117 (Nat.le_of_ble_eq_true rfl) rfl rfl rfl rfl (fs' := [.int 0, .ref (m + 1), .ref (m + 2), .ref (m + 3), .ref (m + 4), .ref (m + 5), .ref (m + 6), .ref (m + 7), .ref (m + 8), .ref (m + 9), .int 1, .int 1, .int 0, .int 0, .ref (m + 10), .ref (m + 11), .ref (m + 12), .null, .null, .null, .int 0, .int 0, .null, .null, .null, .int 0, .int 0, .int 0, .int 0, .int 0, .int 0, .null, .null, .int 0, .null, .null, .null, .null, .null, .int 0, .null, .null, .null, .null]) rfl (fun Y2 p2 => ?_)
  refine v_aload_n i_M_init_120 rfl ?_
  refine v_sipush (v := 160) i_M_init_121 rfl ?_
  refine v_minit B p2 (t := 2) (N := 160) (j := 17) (by decide) (Or.inr (Or.inr ⟨rfl, rfl⟩)) i_M_init_124 wa_Z rfl (by decide) (by decide) (by decide) i_M_init_126 (Nat.le_of_ble_eq_true rfl) rfl rfl rfl rfl (fs' := [.int 0, .ref (m + 1), .ref (m + 2), .ref (m + 3), .ref (m + 4), .ref (m + 5), .ref (m + 6), .ref (m + 7), .ref (m + 8), .ref (m + 9), .int 1, .int 1, .int 0, .int 0, .ref (m + 10), .ref (m + 11), .ref (m + 12), .ref (m + 13), .null, .null, .int 0, .int 0, .null, .null, .null, .int 0, .int 0, .int 0, .int 0, .int 0, .int 0, .null, .null, .int 0, .null, .null, .null, .null, .null, .int 0, .null, .null, .null, .null]) rfl (fun Y3 p3 => ?_)
  refine v_aload_n i_M_init_129 rfl ?_
  refine v_sipush (v := 160) i_M_init_130 rfl ?_
  refine v_minit B p3 (t := 0) (N := 160) (j := 18) (by decide) (Or.inl ⟨rfl, rfl⟩) i_M_init_133 wa_I rfl (by decide) (by decide) (by decide) i_M_init_135 (Nat.le_of_ble_eq_true rfl) rfl rfl rfl rfl (fs' := [.int 0, .ref (m + 1), .ref (m + 2), .ref (m + 3), .ref (m + 4), .ref (m + 5), .ref (m + 6), .ref (m + 7), .ref (m + 8), .ref (m + 9), .int 1, .int 1, .int 0, .int 0, .ref (m + 10), .ref (m + 11), .ref (m + 12), .ref (m + 13), .ref (m + 14), .null, .int 0, .int 0, .null, .null, .null, .int 0, .int 0, .int 0, .int 0, .int 0, .int 0, .null, .null, .int 0, .null, .null, .null, .null, .null, .int 0, .null, .null, .null, .null]) rfl (fun Y4 p4 => ?_)
  refine v_aload_n i_M_init_138 rfl ?_
  refine v_sipush (v := 160) i_M_init_139 rfl ?_
  exact K _ p4
theorem c_M_init_5 (B : qB l s0 C) (h : MP X X0 m 15 [.int 0, .ref (m + 1), .ref (m + 2), .ref (m + 3), .ref (m + 4), .ref (m + 5), .ref (m + 6), .ref (m + 7), .ref (m + 8), .ref (m + 9), .int 1, .int 1, .int 0, .int 0, .ref (m + 10), .ref (m + 11), .ref (m + 12), .ref (m + 13), .ref (m + 14), .null, .int 0, .int 0, .null, .null, .null, .int 0, .int 0, .int 0, .int 0, .int 0, .int 0, .null, .null, .int 0, .null, .null, .null, .null, .null, .int 0, .null, .null, .null, .null]) {Qp : Option Value → qX → Prop} (K : ∀ X', MP X' X0 m 19 [.int 0, .ref (m + 1), .ref (m + 2), .ref (m + 3), .ref (m + 4), .ref (m + 5), .ref (m + 6), .ref (m + 7), .ref (m + 8), .ref (m + 9), .int 1, .int 1, .int 0, .int 0, .ref (m + 10), .ref (m + 11), .ref (m + 12), .ref (m + 13), .ref (m + 14), .ref (m + 15), .int 0, .int 0, .ref (m + 16), .ref (m + 17), .ref (m + 18), .int 0, .int 0, .int 0, .int 0, .int 0, .int 0, .null, .null, .int 0, .null, .null, .null, .null, .null, .int 0, .null, .null, .null, .null] → qV l s0 C m_M_init rm_M_init Qp (fun _ _ => False) 18 55632 X' 176 [(0, .ref m)] [.int (-1), .ref m]) : qV l s0 C m_M_init rm_M_init Qp (fun _ _ => False) 14 40472 X 142 [(0, .ref m)] [.int 160, .ref m] := by
  refine v_minit B h (t := 1) (N := 160) (j := 19) (by decide) (Or.inr (Or.inl ⟨rfl, rfl⟩)) i_M_init_142 wa_J rfl (by decide) (by decide) (by decide) i_M_init_144 (Nat.le_of_ble_eq_true rfl) rfl rfl rfl rfl (fs' := [.int 0, .ref (m + 1), .ref (m + 2), .ref (m + 3), .ref (m + 4), .ref (m + 5), .ref (m + 6), .ref (m + 7), .ref (m + 8), .ref (m + 9), .int 1, .int 1, .int 0, .int 0, .ref (m + 10), .ref (m + 11), .ref (m + 12), .ref (m + 13), .ref (m + 14), .ref (m + 15), .int 0, .int 0, .null, .null, .null, .int 0, .int 0, .int 0, .int 0, .int 0, .int 0, .null, .null, .int 0, .null, .null, .null, .null, .null, .int 0, .null, .null, .null, .null]) rfl (fun Y1 p1 => ?_)
  refine v_aload_n i_M_init_147 rfl ?_
  refine v_sipush (v := 5000) i_M_init_148 rfl ?_
  refine v_minit B p1 (t := 2) (N := 5000) (j := 22) (by decide) (Or.inr (Or.inr ⟨rfl, rfl⟩)) i_M_init_151 wa_Z rfl (by decide) (by decide) (by decide) i_M_init_153 (Nat.le_of_ble_eq_true rfl) rfl rfl rfl rfl (fs' := [.int 0, .ref (m + 1), .ref (m + 2), .ref (m + 3), .ref (m + 4), .ref (m + 5), .ref (m + 6), .ref (m + 7), .ref (m + 8), .ref (m + 9), .int 1, .int 1, .int 0, .int 0, .ref (m + 10), .ref (m + 11), .ref (m + 12), .ref (m + 13), .ref (m + 14), .ref (m + 15), .int 0, .int 0, .ref (m + 16), .null, .null, .int 0, .int 0, .int 0, .int 0, .int 0, .int 0, .null, .null, .int 0, .null, .null, .null, .null, .null, .int 0, .null, .null, .null, .null]) rfl (fun Y2 p2 => ?_)
  refine v_aload_n i_M_init_156 rfl ?_
  refine v_sipush (v := 5000) i_M_init_157 rfl ?_
  refine v_minit B p2 (t := 0) (N := 5000) (j := 23) (by decide) (Or.inl ⟨rfl, rfl⟩) i_M_init_160 wa_I rfl (by decide) (by decide) (by decide) i_M_init_162 (Nat.le_of_ble_eq_true rfl) rfl rfl rfl rfl (fs' := [.int 0, .ref (m + 1), .ref (m + 2), .ref (m + 3), .ref (m + 4), .ref (m + 5), .ref (m + 6), .ref (m + 7), .ref (m + 8), .ref (m + 9), .int 1, .int 1, .int 0, .int 0, .ref (m + 10), .ref (m + 11), .ref (m + 12), .ref (m + 13), .ref (m + 14), .ref (m + 15), .int 0, .int 0, .ref (m + 16), .ref (m + 17), .null, .int 0, .int 0, .int 0, .int 0, .int 0, .int 0, .null, .null, .int 0, .null, .null, .null, .null, .null, .int 0, .null, .null, .null, .null]) rfl (fun Y3 p3 => ?_)
  refine v_aload_n i_M_init_165 rfl ?_
  refine v_sipush (v := 5000) i_M_init_166 rfl ?_
  refine v_minit B p3 (t := 1) (N := 5000) (j := 24) (by decide) (Or.inr (Or.inl ⟨rfl, rfl⟩)) i_M_init_169 wa_J rfl (by decide) (by decide) (by decide) i_M_init_171 (Nat.le_of_ble_eq_true rfl) rfl rfl rfl rfl (fs' := [.int 0, .ref (m + 1), .ref (m + 2), .ref (m + 3), .ref (m + 4), .ref (m + 5), .ref (m + 6), .ref (m + 7), .ref (m + 8), .ref (m + 9), .int 1, .int 1, .int 0, .int 0, .ref (m + 10), .ref (m + 11), .ref (m + 12), .ref (m + 13), .ref (m + 14), .ref (m + 15), .int 0, .int 0, .ref (m + 16), .ref (m + 17), .ref (m + 18), .int 0, .int 0, .int 0, .int 0, .int 0, .int 0, .null, .null, .int 0, .null, .null, .null, .null, .null, .int 0, .null, .null, .null, .null]) rfl (fun Y4 p4 => ?_)
  refine v_aload_n i_M_init_174 rfl ?_
  refine v_iconst (v := (-1)) i_M_init_175 rfl ?_
  exact K _ p4
theorem c_M_init_6 (B : qB l s0 C) (h : MP X X0 m 19 [.int 0, .ref (m + 1), .ref (m + 2), .ref (m + 3), .ref (m + 4), .ref (m + 5), .ref (m + 6), .ref (m + 7), .ref (m + 8), .ref (m + 9), .int 1, .int 1, .int 0, .int 0, .ref (m + 10), .ref (m + 11), .ref (m + 12), .ref (m + 13), .ref (m + 14), .ref (m + 15), .int 0, .int 0, .ref (m + 16), .ref (m + 17), .ref (m + 18), .int 0, .int 0, .int 0, .int 0, .int 0, .int 0, .null, .null, .int 0, .null, .null, .null, .null, .null, .int 0, .null, .null, .null, .null]) {Qp : Option Value → qX → Prop} (K : ∀ X', MP X' X0 m 22 [.int 0, .ref (m + 1), .ref (m + 2), .ref (m + 3), .ref (m + 4), .ref (m + 5), .ref (m + 6), .ref (m + 7), .ref (m + 8), .ref (m + 9), .int 1, .int 1, .int 0, .int 0, .ref (m + 10), .ref (m + 11), .ref (m + 12), .ref (m + 13), .ref (m + 14), .ref (m + 15), .int 0, .int 0, .ref (m + 16), .ref (m + 17), .ref (m + 18), .int 0, .int (-1), .int 0, .int 0, .int 0, .int 0, .ref (m + 19), .ref (m + 20), .int 0, .ref (m + 21), .null, .null, .null, .null, .int 0, .null, .null, .null, .null] → qV l s0 C m_M_init rm_M_init Qp (fun _ _ => False) 21 55676 X' 204 [(0, .ref m)] [.int 40, .ref m]) : qV l s0 C m_M_init rm_M_init Qp (fun _ _ => False) 18 55632 X 176 [(0, .ref m)] [.int (-1), .ref m] := by
  refine v_mfld B h (j := 26) (by decide) i_M_init_176 (Nat.le_of_ble_eq_true rfl) rfl rfl (fs' := [.int 0, .ref (m + 1), .ref (m + 2), .ref (m + 3), .ref (m + 4), .ref (m + 5), .ref (m + 6), .ref (m + 7), .ref (m + 8), .ref (m + 9), .int 1, .int 1, .int 0, .int 0, .ref (m + 10), .ref (m + 11), .ref (m + 12), .ref (m + 13), .ref (m + 14), .ref (m + 15), .int 0, .int 0, .ref (m + 16), .ref (m + 17), .ref (m + 18), .int 0, .int (-1), .int 0, .int 0, .int 0, .int 0, .null, .null, .int 0, .null, .null, .null, .null, .null, .int 0, .null, .null, .null, .null]) rfl (fun Y1 p1 => ?_)
  refine v_aload_n i_M_init_179 rfl ?_
  refine v_iconst (v := 2) i_M_init_180 rfl ?_
  refine v_minit B p1 (t := 0) (N := 2) (j := 31) (by decide) (Or.inl ⟨rfl, rfl⟩) i_M_init_181 wa_I rfl (by decide) (by decide) (by decide) i_M_init_183 (Nat.le_of_ble_eq_true rfl) rfl rfl rfl rfl (fs' := [.int 0, .ref (m + 1), .ref (m + 2), .ref (m + 3), .ref (m + 4), .ref (m + 5), .ref (m + 6), .ref (m + 7), .ref (m + 8), .ref (m + 9), .int 1, .int 1, .int 0, .int 0, .ref (m + 10), .ref (m + 11), .ref (m + 12), .ref (m + 13), .ref (m + 14), .ref (m + 15), .int 0, .int 0, .ref (m + 16), .ref (m + 17), .ref (m + 18), .int 0, .int (-1), .int 0, .int 0, .int 0, .int 0, .ref (m + 19), .null, .int 0, .null, .null, .null, .null, .null, .int 0, .null, .null, .null, .null]) rfl (fun Y2 p2 => ?_)
  refine v_aload_n i_M_init_186 rfl ?_
  refine v_iconst (v := 2) i_M_init_187 rfl ?_
  refine v_minit B p2 (t := 1) (N := 2) (j := 32) (by decide) (Or.inr (Or.inl ⟨rfl, rfl⟩)) i_M_init_188 wa_J rfl (by decide) (by decide) (by decide) i_M_init_190 (Nat.le_of_ble_eq_true rfl) rfl rfl rfl rfl (fs' := [.int 0, .ref (m + 1), .ref (m + 2), .ref (m + 3), .ref (m + 4), .ref (m + 5), .ref (m + 6), .ref (m + 7), .ref (m + 8), .ref (m + 9), .int 1, .int 1, .int 0, .int 0, .ref (m + 10), .ref (m + 11), .ref (m + 12), .ref (m + 13), .ref (m + 14), .ref (m + 15), .int 0, .int 0, .ref (m + 16), .ref (m + 17), .ref (m + 18), .int 0, .int (-1), .int 0, .int 0, .int 0, .int 0, .ref (m + 19), .ref (m + 20), .int 0, .null, .null, .null, .null, .null, .int 0, .null, .null, .null, .null]) rfl (fun Y3 p3 => ?_)
  refine v_aload_n i_M_init_193 rfl ?_
  refine v_bipush (v := 40) i_M_init_194 rfl ?_
  refine v_minit B p3 (t := 0) (N := 40) (j := 34) (by decide) (Or.inl ⟨rfl, rfl⟩) i_M_init_196 wa_I rfl (by decide) (by decide) (by decide) i_M_init_198 (Nat.le_of_ble_eq_true rfl) rfl rfl rfl rfl (fs' := [.int 0, .ref (m + 1), .ref (m + 2), .ref (m + 3), .ref (m + 4), .ref (m + 5), .ref (m + 6), .ref (m + 7), .ref (m + 8), .ref (m + 9), .int 1, .int 1, .int 0, .int 0, .ref (m + 10), .ref (m + 11), .ref (m + 12), .ref (m + 13), .ref (m + 14), .ref (m + 15), .int 0, .int 0, .ref (m + 16), .ref (m + 17), .ref (m + 18), .int 0, .int (-1), .int 0, .int 0, .int 0, .int 0, .ref (m + 19), .ref (m + 20), .int 0, .ref (m + 21), .null, .null, .null, .null, .int 0, .null, .null, .null, .null]) rfl (fun Y4 p4 => ?_)
  refine v_aload_n i_M_init_201 rfl ?_
  refine v_bipush (v := 40) i_M_init_202 rfl ?_
  exact K _ p4
theorem c_M_init_7 (B : qB l s0 C) (h : MP X X0 m 22 [.int 0, .ref (m + 1), .ref (m + 2), .ref (m + 3), .ref (m + 4), .ref (m + 5), .ref (m + 6), .ref (m + 7), .ref (m + 8), .ref (m + 9), .int 1, .int 1, .int 0, .int 0, .ref (m + 10), .ref (m + 11), .ref (m + 12), .ref (m + 13), .ref (m + 14), .ref (m + 15), .int 0, .int 0, .ref (m + 16), .ref (m + 17), .ref (m + 18), .int 0, .int (-1), .int 0, .int 0, .int 0, .int 0, .ref (m + 19), .ref (m + 20), .int 0, .ref (m + 21), .null, .null, .null, .null, .int 0, .null, .null, .null, .null]) {Qp : Option Value → qX → Prop} (K : ∀ X', MP X' X0 m 26 [.int 0, .ref (m + 1), .ref (m + 2), .ref (m + 3), .ref (m + 4), .ref (m + 5), .ref (m + 6), .ref (m + 7), .ref (m + 8), .ref (m + 9), .int 1, .int 1, .int 0, .int 0, .ref (m + 10), .ref (m + 11), .ref (m + 12), .ref (m + 13), .ref (m + 14), .ref (m + 15), .int 0, .int 0, .ref (m + 16), .ref (m + 17), .ref (m + 18), .int 0, .int (-1), .int 0, .int 0, .int 0, .int 0, .ref (m + 19), .ref (m + 20), .int 0, .ref (m + 21), .ref (m + 22), .ref (m + 23), .ref (m + 24), .ref (m + 25), .int 0, .null, .null, .null, .null] → qV l s0 C m_M_init rm_M_init Qp (fun _ _ => False) 25 64156 X' 239 [(0, .ref m)] [.int 4200, .ref m]) : qV l s0 C m_M_init rm_M_init Qp (fun _ _ => False) 21 55676 X 204 [(0, .ref m)] [.int 40, .ref m] := by
  refine v_minit B h (t := 1) (N := 40) (j := 35) (by decide) (Or.inr (Or.inl ⟨rfl, rfl⟩)) i_M_init_204 wa_J rfl (by decide) (by decide) (by decide) i_M_init_206 (Nat.le_of_ble_eq_true rfl) rfl rfl rfl rfl (fs' := [.int 0, .ref (m + 1), .ref (m + 2), .ref (m + 3), .ref (m + 4), .ref (m + 5), .ref (m + 6), .ref (m + 7), .ref (m + 8), .ref (m + 9), .int 1, .int 1, .int 0, .int 0, .ref (m + 10), .ref (m + 11), .ref (m + 12), .ref (m + 13), .ref (m + 14), .ref (m + 15), .int 0, .int 0, .ref (m + 16), .ref (m + 17), .ref (m + 18), .int 0, .int (-1), .int 0, .int 0, .int 0, .int 0, .ref (m + 19), .ref (m + 20), .int 0, .ref (m + 21), .ref (m + 22), .null, .null, .null, .int 0, .null, .null, .null, .null]) rfl (fun Y1 p1 => ?_)
  refine v_aload_n i_M_init_209 rfl ?_
  refine v_bipush (v := 40) i_M_init_210 rfl ?_
  refine v_minit B p1 (t := 0) (N := 40) (j := 36) (by decide) (Or.inl ⟨rfl, rfl⟩) i_M_init_212 wa_I rfl (by decide) (by decide) (by decide) i_M_init_214 (Nat.le_of_ble_eq_true rfl) rfl rfl rfl rfl (fs' := [.int 0, .ref (m + 1), .ref (m + 2), .ref (m + 3), .ref (m + 4), .ref (m + 5), .ref (m + 6), .ref (m + 7), .ref (m + 8), .ref (m + 9), .int 1, .int 1, .int 0, .int 0, .ref (m + 10), .ref (m + 11), .ref (m + 12), .ref (m + 13), .ref (m + 14), .ref (m + 15), .int 0, .int 0, .ref (m + 16), .ref (m + 17), .ref (m + 18), .int 0, .int (-1), .int 0, .int 0, .int 0, .int 0, .ref (m + 19), .ref (m + 20), .int 0, .ref (m + 21), .ref (m + 22), .ref (m + 23), .null, .null, .int 0, .null, .null, .null, .null]) rfl (fun Y2 p2 => ?_)
  refine v_aload_n i_M_init_217 rfl ?_
  refine v_sipush (v := 4200) i_M_init_218 rfl ?_
  refine v_minit B p2 (t := 0) (N := 4200) (j := 37) (by decide) (Or.inl ⟨rfl, rfl⟩) i_M_init_221 wa_I rfl (by decide) (by decide) (by decide) i_M_init_223 (Nat.le_of_ble_eq_true rfl) rfl rfl rfl rfl (fs' := [.int 0, .ref (m + 1), .ref (m + 2), .ref (m + 3), .ref (m + 4), .ref (m + 5), .ref (m + 6), .ref (m + 7), .ref (m + 8), .ref (m + 9), .int 1, .int 1, .int 0, .int 0, .ref (m + 10), .ref (m + 11), .ref (m + 12), .ref (m + 13), .ref (m + 14), .ref (m + 15), .int 0, .int 0, .ref (m + 16), .ref (m + 17), .ref (m + 18), .int 0, .int (-1), .int 0, .int 0, .int 0, .int 0, .ref (m + 19), .ref (m + 20), .int 0, .ref (m + 21), .ref (m + 22), .ref (m + 23), .ref (m + 24), .null, .int 0, .null, .null, .null, .null]) rfl (fun Y3 p3 => ?_)
  refine v_aload_n i_M_init_226 rfl ?_
  refine v_sipush (v := 4200) i_M_init_227 rfl ?_
  refine v_minit B p3 (t := 1) (N := 4200) (j := 38) (by decide) (Or.inr (Or.inl ⟨rfl, rfl⟩)) i_M_init_230 wa_J rfl (by decide) (by decide) (by decide) i_M_init_232 (Nat.le_of_ble_eq_true rfl) rfl rfl rfl rfl (fs' := [.int 0, .ref (m + 1), .ref (m + 2), .ref (m + 3), .ref (m + 4), .ref (m + 5), .ref (m + 6), .ref (m + 7), .ref (m + 8), .ref (m + 9), .int 1, .int 1, .int 0, .int 0, .ref (m + 10), .ref (m + 11), .ref (m + 12), .ref (m + 13), .ref (m + 14), .ref (m + 15), .int 0, .int 0, .ref (m + 16), .ref (m + 17), .ref (m + 18), .int 0, .int (-1), .int 0, .int 0, .int 0, .int 0, .ref (m + 19), .ref (m + 20), .int 0, .ref (m + 21), .ref (m + 22), .ref (m + 23), .ref (m + 24), .ref (m + 25), .int 0, .null, .null, .null, .null]) rfl (fun Y4 p4 => ?_)
  refine v_aload_n i_M_init_235 rfl ?_
  refine v_sipush (v := 4200) i_M_init_236 rfl ?_
  exact K _ p4
theorem c_M_init_8 (B : qB l s0 C) (h : MP X X0 m 26 [.int 0, .ref (m + 1), .ref (m + 2), .ref (m + 3), .ref (m + 4), .ref (m + 5), .ref (m + 6), .ref (m + 7), .ref (m + 8), .ref (m + 9), .int 1, .int 1, .int 0, .int 0, .ref (m + 10), .ref (m + 11), .ref (m + 12), .ref (m + 13), .ref (m + 14), .ref (m + 15), .int 0, .int 0, .ref (m + 16), .ref (m + 17), .ref (m + 18), .int 0, .int (-1), .int 0, .int 0, .int 0, .int 0, .ref (m + 19), .ref (m + 20), .int 0, .ref (m + 21), .ref (m + 22), .ref (m + 23), .ref (m + 24), .ref (m + 25), .int 0, .null, .null, .null, .null]) {Qp : Option Value → qX → Prop} (K : ∀ X', MP X' X0 m 30 [.int 0, .ref (m + 1), .ref (m + 2), .ref (m + 3), .ref (m + 4), .ref (m + 5), .ref (m + 6), .ref (m + 7), .ref (m + 8), .ref (m + 9), .int 1, .int 1, .int 0, .int 0, .ref (m + 10), .ref (m + 11), .ref (m + 12), .ref (m + 13), .ref (m + 14), .ref (m + 15), .int 0, .int 0, .ref (m + 16), .ref (m + 17), .ref (m + 18), .int 0, .int (-1), .int 0, .int 0, .int 0, .int 0, .ref (m + 19), .ref (m + 20), .int 0, .ref (m + 21), .ref (m + 22), .ref (m + 23), .ref (m + 24), .ref (m + 25), .int 0, .ref (m + 26), .ref (m + 27), .ref (m + 28), .ref (m + 29)] → qV l s0 C m_M_init rm_M_init Qp (fun _ _ => False) 29 80956 X' 271 [(0, .ref m)] []) : qV l s0 C m_M_init rm_M_init Qp (fun _ _ => False) 25 64156 X 239 [(0, .ref m)] [.int 4200, .ref m] := by
  refine v_minit B h (t := 0) (N := 4200) (j := 40) (by decide) (Or.inl ⟨rfl, rfl⟩) i_M_init_239 wa_I rfl (by decide) (by decide) (by decide) i_M_init_241 (Nat.le_of_ble_eq_true rfl) rfl rfl rfl rfl (fs' := [.int 0, .ref (m + 1), .ref (m + 2), .ref (m + 3), .ref (m + 4), .ref (m + 5), .ref (m + 6), .ref (m + 7), .ref (m + 8), .ref (m + 9), .int 1, .int 1, .int 0, .int 0, .ref (m + 10), .ref (m + 11), .ref (m + 12), .ref (m + 13), .ref (m + 14), .ref (m + 15), .int 0, .int 0, .ref (m + 16), .ref (m + 17), .ref (m + 18), .int 0, .int (-1), .int 0, .int 0, .int 0, .int 0, .ref (m + 19), .ref (m + 20), .int 0, .ref (m + 21), .ref (m + 22), .ref (m + 23), .ref (m + 24), .ref (m + 25), .int 0, .ref (m + 26), .null, .null, .null]) rfl (fun Y1 p1 => ?_)
  refine v_aload_n i_M_init_244 rfl ?_
  refine v_sipush (v := 4200) i_M_init_245 rfl ?_
  refine v_minit B p1 (t := 1) (N := 4200) (j := 41) (by decide) (Or.inr (Or.inl ⟨rfl, rfl⟩)) i_M_init_248 wa_J rfl (by decide) (by decide) (by decide) i_M_init_250 (Nat.le_of_ble_eq_true rfl) rfl rfl rfl rfl (fs' := [.int 0, .ref (m + 1), .ref (m + 2), .ref (m + 3), .ref (m + 4), .ref (m + 5), .ref (m + 6), .ref (m + 7), .ref (m + 8), .ref (m + 9), .int 1, .int 1, .int 0, .int 0, .ref (m + 10), .ref (m + 11), .ref (m + 12), .ref (m + 13), .ref (m + 14), .ref (m + 15), .int 0, .int 0, .ref (m + 16), .ref (m + 17), .ref (m + 18), .int 0, .int (-1), .int 0, .int 0, .int 0, .int 0, .ref (m + 19), .ref (m + 20), .int 0, .ref (m + 21), .ref (m + 22), .ref (m + 23), .ref (m + 24), .ref (m + 25), .int 0, .ref (m + 26), .ref (m + 27), .null, .null]) rfl (fun Y2 p2 => ?_)
  refine v_aload_n i_M_init_253 rfl ?_
  refine v_sipush (v := 4200) i_M_init_254 rfl ?_
  refine v_minit B p2 (t := 0) (N := 4200) (j := 42) (by decide) (Or.inl ⟨rfl, rfl⟩) i_M_init_257 wa_I rfl (by decide) (by decide) (by decide) i_M_init_259 (Nat.le_of_ble_eq_true rfl) rfl rfl rfl rfl (fs' := [.int 0, .ref (m + 1), .ref (m + 2), .ref (m + 3), .ref (m + 4), .ref (m + 5), .ref (m + 6), .ref (m + 7), .ref (m + 8), .ref (m + 9), .int 1, .int 1, .int 0, .int 0, .ref (m + 10), .ref (m + 11), .ref (m + 12), .ref (m + 13), .ref (m + 14), .ref (m + 15), .int 0, .int 0, .ref (m + 16), .ref (m + 17), .ref (m + 18), .int 0, .int (-1), .int 0, .int 0, .int 0, .int 0, .ref (m + 19), .ref (m + 20), .int 0, .ref (m + 21), .ref (m + 22), .ref (m + 23), .ref (m + 24), .ref (m + 25), .int 0, .ref (m + 26), .ref (m + 27), .ref (m + 28), .null]) rfl (fun Y3 p3 => ?_)
  refine v_aload_n i_M_init_262 rfl ?_
  refine v_sipush (v := 4200) i_M_init_263 rfl ?_
  refine v_minit B p3 (t := 0) (N := 4200) (j := 43) (by decide) (Or.inl ⟨rfl, rfl⟩) i_M_init_266 wa_I rfl (by decide) (by decide) (by decide) i_M_init_268 (Nat.le_of_ble_eq_true rfl) rfl rfl rfl rfl (fs' := [.int 0, .ref (m + 1), .ref (m + 2), .ref (m + 3), .ref (m + 4), .ref (m + 5), .ref (m + 6), .ref (m + 7), .ref (m + 8), .ref (m + 9), .int 1, .int 1, .int 0, .int 0, .ref (m + 10), .ref (m + 11), .ref (m + 12), .ref (m + 13), .ref (m + 14), .ref (m + 15), .int 0, .int 0, .ref (m + 16), .ref (m + 17), .ref (m + 18), .int 0, .int (-1), .int 0, .int 0, .int 0, .int 0, .ref (m + 19), .ref (m + 20), .int 0, .ref (m + 21), .ref (m + 22), .ref (m + 23), .ref (m + 24), .ref (m + 25), .int 0, .ref (m + 26), .ref (m + 27), .ref (m + 28), .ref (m + 29)]) rfl (fun Y4 p4 => ?_)
  exact K _ p4
theorem c_M_init_a (B : qB l s0 C) (h0 : X.1 m = some (.inr (5, qz 5))) (ha : X.2 = m + 1) {Qp : Option Value → qX → Prop} (K : ∀ X1, MP X1 X m 30 (mfs m (upd (upd (upd (fun _ => 0) 10 1) 11 1) 26 (-1))) → qV l s0 C m_M_init rm_M_init Qp (fun _ _ => False) 29 80956 X1 271 [(0, .ref m)] []) : qV l s0 C m_M_init rm_M_init Qp (fun _ _ => False) 0 0 X 0 [(0, .ref m)] [] := by
  have p1 : MP X X m 1 (qz 5) := ⟨h0, ha, fun b b1 b2 => by omega, fun _ _ => rfl⟩
  refine v_aload_n i_M_init_0 rfl ?_
  refine v_obj B i_M_init_1 wo_1 wo_2 (by decide) (by decide) ?_
  refine v_aload_n i_M_init_4 rfl ?_
  refine v_sipush (v := 512) i_M_init_5 rfl ?_
  refine c_M_init_1 B p1 (fun X1 q1 => ?_)
  refine c_M_init_2 B q1 (fun X2 q2 => ?_)
  refine c_M_init_3 B q2 (fun X3 q3 => ?_)
  refine c_M_init_4 B q3 (fun X4 q4 => ?_)
  refine c_M_init_5 B q4 (fun X5 q5 => ?_)
  refine c_M_init_6 B q5 (fun X6 q6 => ?_)
  refine c_M_init_7 B q6 (fun X7 q7 => ?_)
  refine c_M_init_8 B q7 (fun X8 q8 => ?_)
  exact K _ q8
theorem c_M_init (B : qB l s0 C) (h0 : X.1 m = some (.inr (5, qz 5))) (ha : X.2 = m + 1) : qMet l s0 C m_M_init rm_M_init [.ref m] X (fun r X' => r = none ∧ X'.2 = m + 30 ∧ (∀ q, q < m → X'.1 q = X.1 q) ∧ ∀ op, MR X' m 0 (fun _ => (0, 0, none, [])) 1 0 (fun _ => 0) (fun _ => (0, 0, none, [])) 1 ([], 0, 0, none, false) op) (fun _ _ => False) := by
  refine q_of (by decide +kernel) (Nat.le_of_ble_eq_true rfl) ?_
  refine v_L (L' := [(0, .ref m)]) rfl ?_
  refine c_M_init_a B h0 ha (fun X1 p1 => ?_)
  obtain ⟨q1, q2, q3, q4⟩ := p1
  have h1 : MAt X1 m (upd (upd (upd (fun _ => 0) 10 1) 11 1) 26 (-1)) (fun _ _ => 0) (fun _ _ => 0) := ⟨q1, fun b b1 b2 => q3 b b1 (by omega)⟩
  obtain ⟨k1, -⟩ := id h1
  refine v_aload_n i_M_init_271 rfl ?_
  refine v_get B i_M_init_272 (by first | assumption | exact qset_self _ _ _ | (rw [qset_ne _ _ (by omega)]; first | assumption | exact qset_self _ _ _ | (rw [qset_ne _ _ (by omega)]; first | assumption | exact qset_self _ _ _ | (rw [qset_ne _ _ (by omega)]; first | assumption | exact qset_self _ _ _ | (rw [qset_ne _ _ (by omega)]; first | assumption | exact qset_self _ _ _ | (rw [qset_ne _ _ (by omega)]; first | assumption | exact qset_self _ _ _ | (rw [qset_ne _ _ (by omega)]; first | assumption | exact qset_self _ _ _))))))) rfl ?_
  refine v_iconst (v := 0) i_M_init_275 rfl ?_
  refine v_iconst (v := 0) i_M_init_276 rfl ?_
  refine v_mist B h1 (a := 2) (N := 512) (j := 0) rfl rfl (by decide) (by decide) (rfl) (by omega) (by omega) i_M_init_277 (fun X2 h2 f2 => ?_)
  obtain ⟨k2, -⟩ := id h2
  refine v_aload_n i_M_init_278 rfl ?_
  refine v_get B i_M_init_279 (by first | assumption | exact qset_self _ _ _ | (rw [qset_ne _ _ (by omega)]; first | assumption | exact qset_self _ _ _ | (rw [qset_ne _ _ (by omega)]; first | assumption | exact qset_self _ _ _ | (rw [qset_ne _ _ (by omega)]; first | assumption | exact qset_self _ _ _ | (rw [qset_ne _ _ (by omega)]; first | assumption | exact qset_self _ _ _ | (rw [qset_ne _ _ (by omega)]; first | assumption | exact qset_self _ _ _ | (rw [qset_ne _ _ (by omega)]; first | assumption | exact qset_self _ _ _))))))) rfl ?_
  refine v_iconst (v := 0) i_M_init_282 rfl ?_
  refine v_iconst (v := (-1)) i_M_init_283 rfl ?_
  refine v_mist B h2 (a := 3) (N := 512) (j := 0) rfl rfl (by decide) (by decide) (rfl) (by omega) (by omega) i_M_init_284 (fun X3 h3 f3 => ?_)
  obtain ⟨k3, -⟩ := id h3
  refine v_aload_n i_M_init_285 rfl ?_
  refine v_sipush (v := 256) i_M_init_286 rfl ?_
  refine v_iconst (v := 0) i_M_init_289 rfl ?_
  refine v_iconst (v := 1) i_M_init_290 rfl ?_
  refine v_inv B i_M_init_291 kn_m_M_copyPages (c_M_copyPages (T := 256) (S := 0) (n := 1) B h3 (by omega) (by omega) (by omega)) k3 rfl rfl (Nat.le_of_ble_eq_true rfl) ⟨by decide, by decide, by first | decide | (simp; omega), by first | decide | (simp; omega)⟩ rfl (fun r X' hq => ?_) (fun _ _ h => False.elim h)
  obtain ⟨rfl, I4, J4, h4, hc4, hk4, hf4⟩ := hq
  have hP : mPg (mIu (mIu (fun _ _ => 0) 2 0 0) 3 0 (-1)) (fun _ _ => 0) (0 + 0) (0, 0, none, []) := by
    refine ⟨⟨by decide, by decide, fun t ht => (nomatch ht), by decide, fun i hi => by simp at hi⟩, ?_, ?_, ?_, ?_, fun i hi => by simp at hi⟩
    · rw [mIu_ne (by decide), mIu_ne (by decide)]; rfl
    · rw [mIu_ne (by decide), mIu_self, pk_us]; rfl
    · rw [mIu_self, pk_us]; rfl
    · rw [mIu_ne (by decide), mIu_ne (by decide)]; rfl
  refine v_vret i_M_init_294 rfl (by decide) (by decide) ⟨rfl, ?_, fun q hq => ?_, fun op => ⟨_, I4, J4, h4, rfl, ?_, ?_⟩⟩
  · rw [hf4.1, f3.1, f2.1]; exact q2
  · rw [hf4.2 q (Or.inl hq), f3.2 q (Or.inl hq), f2.2 q (Or.inl hq)]; exact q4 q hq
  · refine ⟨rfl, ⟨by decide, by decide, by decide, by decide⟩, rfl, fun p hp => ?_, fun w hw => ?_, fun p hp => ?_⟩
    · obtain rfl : p = 0 := by omega
      exact hc4.other (q := 0) (by omega) hP
    · rw [(hk4 10 (by decide)).1, mIu_ne (by decide), mIu_ne (by decide)]; exact ⟨rfl, by show 0 < 256; omega⟩
    · rw [(hk4 5 (by decide)).1, mIu_ne (by decide), mIu_ne (by decide)]; rfl
  · refine ⟨⟨rfl, ⟨by decide, by decide⟩, fun p hp => ?_⟩, ⟨rfl, rfl, rfl, rfl, rfl, rfl⟩, ⟨by decide, fun t ht => (nomatch ht), by decide⟩, fun b hb => absurd hb (Nat.not_lt_zero _), fun _ i hi => absurd hi (Nat.not_lt_zero _)⟩
    obtain rfl : p = 0 := by omega
    exact hc4.page (p := 0) (by omega) hP
end MI2
