/-! the reference: more readings, small acts -/
section MN
variable {μ : qM} {rm : Room} {Qp : Option Value → qX → Prop} {Ep : String → qX → Prop} {k n pc : Nat} {L : List (Nat × Value)} {st : List Value}
variable {X X' : qX} {l : Launch} {s0 : State} {C : qC}
theorem v_neg {x : Bool} {off off2 : Int} {tgt e : Nat} (h1 : decode μ.2.1 pc = .ok (.ifCond .ne off, 3)) (t1 : (pc : Int) + off = (tgt : Int)) (h2 : decode μ.2.1 (pc + 3) = .ok (.iconst 1, 1)) (h3 : decode μ.2.1 (pc + 3 + 1) = .ok (.goto off2, 3)) (t3 : ((pc + 3 + 1 : Nat) : Int) + off2 = (e : Int)) (h4 : decode μ.2.1 tgt = .ok (.iconst 0, 1)) (he : tgt + 1 = e)
    (K : qV l s0 C μ rm Qp Ep k n X e L (.int (bI (!x)) :: st)) : qV l s0 C μ rm Qp Ep k n X pc L (.int (bI x) :: st) := by
  subst he
  cases x with
  | true => exact v_if_ne h1 t1 (fun _ => v_iconst (v := 0) h4 rfl K) (fun q => absurd q (by decide))
  | false => exact v_if_ne h1 t1 (fun q => absurd rfl q) (fun _ => v_iconst (v := 1) h2 rfl (v_goto h3 t3 K))
end MN
section MQ
variable {X X' : qX} {m : Nat} {s : Nat → Int32} {I : Nat → Nat → Int32} {J : Nat → Nat → Int64}
variable {pg : Nat → Pg} {made lat rb : Nat} {dt : Nat → Bool} {ro : Nat → Nat}
variable {l : Launch} {s0 : State} {C : qC}
theorem c_M_record (B : qB l s0 C) (h : MAt X m s I J) {w : Nat} (hw : s 21 = nI w) (hlt : w < 5000) (p : Bool) (k : Int32) (x : Int64) : qMet l s0 C m_M_record rm_M_record [.ref m, .int (bI p), .int k, .long x] X (fun r X' => r = none ∧ MAt X' m (upd s 21 (nI (w + 1))) (mIu (mIu I 16 w (bI p)) 17 w k) (mJu J 18 w x) ∧ qSame X X' m (m + 30)) (fun _ _ => False) := by
  obtain ⟨h0, -⟩ := id h
  refine q_of (by decide +kernel) (Nat.le_of_ble_eq_true rfl) ?_
  refine v_L (L' := [(0, .ref m), (1, .int (bI p)), (2, .int k), (3, .long x)]) rfl ?_
  refine v_aload_n i_M_record_0 rfl ?_
  refine v_get B i_M_record_1 (by first | assumption | exact qset_self _ _ _ | (rw [qset_ne _ _ (by omega)]; first | assumption | exact qset_self _ _ _ | (rw [qset_ne _ _ (by omega)]; first | assumption | exact qset_self _ _ _ | (rw [qset_ne _ _ (by omega)]; first | assumption | exact qset_self _ _ _ | (rw [qset_ne _ _ (by omega)]; first | assumption | exact qset_self _ _ _ | (rw [qset_ne _ _ (by omega)]; first | assumption | exact qset_self _ _ _ | (rw [qset_ne _ _ (by omega)]; first | assumption | exact qset_self _ _ _))))))) rfl ?_
  refine v_aload_n i_M_record_4 rfl ?_
  refine v_get B i_M_record_5 (by first | assumption | exact qset_self _ _ _ | (rw [qset_ne _ _ (by omega)]; first | assumption | exact qset_self _ _ _ | (rw [qset_ne _ _ (by omega)]; first | assumption | exact qset_self _ _ _ | (rw [qset_ne _ _ (by omega)]; first | assumption | exact qset_self _ _ _ | (rw [qset_ne _ _ (by omega)]; first | assumption | exact qset_self _ _ _ | (rw [qset_ne _ _ (by omega)]; first | assumption | exact qset_self _ _ _ | (rw [qset_ne _ _ (by omega)]; first | assumption | exact qset_self _ _ _))))))) rfl ?_
  refine v_iload_n i_M_record_8 rfl ?_
  rw [hw]
  refine v_mzst B h (a := 16) (N := 5000) (j := w) rfl rfl (by decide) (by decide) (rfl) (by omega) (by omega) (by first | exact Or.inl rfl | exact Or.inr rfl | assumption | exact bI_01 _) i_M_record_9 (fun X1 h1 f1 => ?_)
  obtain ⟨b0, -⟩ := id h1
  refine v_aload_n i_M_record_10 rfl ?_
  refine v_get B i_M_record_11 (by first | assumption | exact qset_self _ _ _ | (rw [qset_ne _ _ (by omega)]; first | assumption | exact qset_self _ _ _ | (rw [qset_ne _ _ (by omega)]; first | assumption | exact qset_self _ _ _ | (rw [qset_ne _ _ (by omega)]; first | assumption | exact qset_self _ _ _ | (rw [qset_ne _ _ (by omega)]; first | assumption | exact qset_self _ _ _ | (rw [qset_ne _ _ (by omega)]; first | assumption | exact qset_self _ _ _ | (rw [qset_ne _ _ (by omega)]; first | assumption | exact qset_self _ _ _))))))) rfl ?_
  refine v_aload_n i_M_record_14 rfl ?_
  refine v_get B i_M_record_15 (by first | assumption | exact qset_self _ _ _ | (rw [qset_ne _ _ (by omega)]; first | assumption | exact qset_self _ _ _ | (rw [qset_ne _ _ (by omega)]; first | assumption | exact qset_self _ _ _ | (rw [qset_ne _ _ (by omega)]; first | assumption | exact qset_self _ _ _ | (rw [qset_ne _ _ (by omega)]; first | assumption | exact qset_self _ _ _ | (rw [qset_ne _ _ (by omega)]; first | assumption | exact qset_self _ _ _ | (rw [qset_ne _ _ (by omega)]; first | assumption | exact qset_self _ _ _))))))) rfl ?_
  refine v_iload_n i_M_record_18 rfl ?_
  rw [hw]
  refine v_mist B h1 (a := 17) (N := 5000) (j := w) rfl rfl (by decide) (by decide) (rfl) (by omega) (by omega) i_M_record_19 (fun X2 h2 f2 => ?_)
  obtain ⟨c0, -⟩ := id h2
  refine v_aload_n i_M_record_20 rfl ?_
  refine v_get B i_M_record_21 (by first | assumption | exact qset_self _ _ _ | (rw [qset_ne _ _ (by omega)]; first | assumption | exact qset_self _ _ _ | (rw [qset_ne _ _ (by omega)]; first | assumption | exact qset_self _ _ _ | (rw [qset_ne _ _ (by omega)]; first | assumption | exact qset_self _ _ _ | (rw [qset_ne _ _ (by omega)]; first | assumption | exact qset_self _ _ _ | (rw [qset_ne _ _ (by omega)]; first | assumption | exact qset_self _ _ _ | (rw [qset_ne _ _ (by omega)]; first | assumption | exact qset_self _ _ _))))))) rfl ?_
  refine v_aload_n i_M_record_24 rfl ?_
  refine v_get B i_M_record_25 (by first | assumption | exact qset_self _ _ _ | (rw [qset_ne _ _ (by omega)]; first | assumption | exact qset_self _ _ _ | (rw [qset_ne _ _ (by omega)]; first | assumption | exact qset_self _ _ _ | (rw [qset_ne _ _ (by omega)]; first | assumption | exact qset_self _ _ _ | (rw [qset_ne _ _ (by omega)]; first | assumption | exact qset_self _ _ _ | (rw [qset_ne _ _ (by omega)]; first | assumption | exact qset_self _ _ _ | (rw [qset_ne _ _ (by omega)]; first | assumption | exact qset_self _ _ _))))))) rfl ?_
  refine v_lload_n i_M_record_28 rfl ?_
  rw [hw]
  refine v_mlst B h2 (a := 18) (N := 5000) (j := w) rfl rfl (by decide) (by decide) (rfl) (by omega) (by omega) i_M_record_29 (fun X3 h3 f3 => ?_)
  obtain ⟨d0, -⟩ := id h3
  refine v_aload_n i_M_record_30 rfl ?_
  refine v_dup i_M_record_31 rfl ?_
  refine v_get B i_M_record_32 (by first | assumption | exact qset_self _ _ _ | (rw [qset_ne _ _ (by omega)]; first | assumption | exact qset_self _ _ _ | (rw [qset_ne _ _ (by omega)]; first | assumption | exact qset_self _ _ _ | (rw [qset_ne _ _ (by omega)]; first | assumption | exact qset_self _ _ _ | (rw [qset_ne _ _ (by omega)]; first | assumption | exact qset_self _ _ _ | (rw [qset_ne _ _ (by omega)]; first | assumption | exact qset_self _ _ _ | (rw [qset_ne _ _ (by omega)]; first | assumption | exact qset_self _ _ _))))))) rfl ?_
  refine v_iconst (v := 1) i_M_record_35 rfl ?_
  refine v_iadd i_M_record_36 ?_
  rw [hw, nI_1]
  refine v_mput B h3 (j := 21) i_M_record_37 (Nat.le_of_ble_eq_true rfl) rfl rfl rfl (fun X4 h4 f4 => ?_)
  refine v_vret i_M_record_40 rfl (by decide) (by decide) ⟨rfl, h4, ((f1.trans f2).trans f3).trans f4⟩
theorem c_M_goDown (B : qB l s0 C) (h : MAt X m s I J)  : qMet l s0 C m_M_goDown rm_M_goDown [.ref m] X (fun r X' => r = none ∧ MAt X' m (upd (upd (upd s 25 1) 26 (-1)) 21 0) I J ∧ qSame X X' m (m + 30)) (fun _ _ => False) := by
  obtain ⟨h0, -⟩ := id h
  refine q_of (by decide +kernel) (Nat.le_of_ble_eq_true rfl) ?_
  refine v_L (L' := [(0, .ref m)]) rfl ?_
  refine v_aload_n i_M_goDown_0 rfl ?_
  refine v_iconst (v := 1) i_M_goDown_1 rfl ?_
  refine v_mput B h (j := 25) i_M_goDown_2 (Nat.le_of_ble_eq_true rfl) rfl rfl rfl (fun X1 h1 f1 => ?_)
  refine v_aload_n i_M_goDown_5 rfl ?_
  refine v_iconst (v := (-1)) i_M_goDown_6 rfl ?_
  refine v_mput B h1 (j := 26) i_M_goDown_7 (Nat.le_of_ble_eq_true rfl) rfl rfl rfl (fun X2 h2 f2 => ?_)
  refine v_aload_n i_M_goDown_10 rfl ?_
  refine v_iconst (v := 0) i_M_goDown_11 rfl ?_
  refine v_mput B h2 (j := 21) i_M_goDown_12 (Nat.le_of_ble_eq_true rfl) rfl rfl rfl (fun X3 h3 f3 => ?_)
  refine v_vret i_M_goDown_15 rfl (by decide) (by decide) ⟨rfl, h3, (f1.trans f2).trans f3⟩
theorem vO_map {c : Option Nat} (hc : oLt c (2 ^ 31)) (h0 : ¬ c = some 0) : (¬ vO c = 0) ∧ vO c - (if 0 < vO c then 1 else 0) = vO (c.map (fun t => t - 1)) := by
  cases c with
  | none => exact ⟨by decide, by decide⟩
  | some t =>
    have ht := hc t rfl
    have h1 : 0 < t := Nat.pos_of_ne_zero (fun z => h0 (by rw [z]))
    refine ⟨nI_ne0 h1 ht, ?_⟩
    show nI t - (if 0 < nI t then 1 else 0) = nI (t - 1)
    rw [if_pos (show (0 : Int32) < nI t from nI_lt (a := 0) h1 ht)]
    obtain ⟨u, rfl⟩ : ∃ u, t = u + 1 := ⟨t - 1, by omega⟩
    exact nI_pred u
theorem c_M_writes (B : qB l s0 C) (h : MAt X m s I J) {c : Option Nat} {wr : Nat} (hc : s 26 = vO c) (hcl : oLt c (2 ^ 31)) (hw : s 27 = nI wr) : qMet l s0 C m_M_writes rm_M_writes [.ref m] X (fun r X' => r = some (.int (bI (!decide (c = some 0)))) ∧ MAt X' m (if c = some 0 then upd (upd (upd s 25 1) 26 (-1)) 21 0 else upd (upd s 26 (vO (c.map (fun t => t - 1)))) 27 (nI (wr + 1))) I J ∧ qSame X X' m (m + 30)) (fun _ _ => False) := by
  obtain ⟨h0, -⟩ := id h
  refine q_of (by decide +kernel) (Nat.le_of_ble_eq_true rfl) ?_
  refine v_L (L' := [(0, .ref m)]) rfl ?_
  refine v_aload_n i_M_writes_0 rfl ?_
  refine v_get B i_M_writes_1 (by first | assumption | exact qset_self _ _ _ | (rw [qset_ne _ _ (by omega)]; first | assumption | exact qset_self _ _ _ | (rw [qset_ne _ _ (by omega)]; first | assumption | exact qset_self _ _ _ | (rw [qset_ne _ _ (by omega)]; first | assumption | exact qset_self _ _ _ | (rw [qset_ne _ _ (by omega)]; first | assumption | exact qset_self _ _ _ | (rw [qset_ne _ _ (by omega)]; first | assumption | exact qset_self _ _ _ | (rw [qset_ne _ _ (by omega)]; first | assumption | exact qset_self _ _ _))))))) rfl ?_
  rw [hc]
  by_cases h0c : c = some 0
  · subst h0c
    refine v_if_ne (tgt := 13) i_M_writes_4 rfl (fun q4 => absurd rfl q4) (fun _ => ?_)
    refine v_aload_n i_M_writes_7 rfl ?_
    refine v_inv B i_M_writes_8 kn_m_M_goDown (c_M_goDown B h) h0 rfl rfl (Nat.le_of_ble_eq_true rfl) ⟨by decide, by decide, by first | decide | (simp; omega), by first | decide | (simp; omega)⟩ rfl (fun r X' hq => ?_) (fun _ _ h => False.elim h)
    obtain ⟨rfl, h1, f1⟩ := hq
    refine v_iconst (v := 0) i_M_writes_11 rfl ?_
    refine v_zret i_M_writes_12 rfl (Or.inl rfl) (by decide) (by decide) ⟨by rw [decide_eq_true rfl]; rfl, by rw [if_pos rfl]; exact h1, f1⟩
  · obtain ⟨v1, v2⟩ := vO_map hcl h0c
    refine v_if_ne (tgt := 13) i_M_writes_4 rfl (fun _ => ?_) (fun q4 => absurd q4 v1)
    have fin : ∀ z : Int32, z = (if 0 < vO c then 1 else 0) → qV l s0 C m_M_writes rm_M_writes (fun r X' => r = some (.int (bI (!decide (c = some 0)))) ∧ MAt X' m (if c = some 0 then upd (upd (upd s 25 1) 26 (-1)) 21 0 else upd (upd s 26 (vO (c.map (fun t => t - 1)))) 27 (nI (wr + 1))) I J ∧ qSame X X' m (m + 30)) (fun _ _ => False) 0 0 X 30 [(0, .ref m)] [.int z, .int (vO c), .ref m] := by
      intro z hz
      subst hz
      refine v_isub i_M_writes_30 ?_
      rw [v2]
      refine v_mput B h (j := 26) i_M_writes_31 (Nat.le_of_ble_eq_true rfl) rfl rfl rfl (fun X1 h1 f1 => ?_)
      obtain ⟨b0, -⟩ := id h1
      refine v_aload_n i_M_writes_34 rfl ?_
      refine v_dup i_M_writes_35 rfl ?_
      refine v_get B i_M_writes_36 (by first | assumption | exact qset_self _ _ _ | (rw [qset_ne _ _ (by omega)]; first | assumption | exact qset_self _ _ _ | (rw [qset_ne _ _ (by omega)]; first | assumption | exact qset_self _ _ _ | (rw [qset_ne _ _ (by omega)]; first | assumption | exact qset_self _ _ _ | (rw [qset_ne _ _ (by omega)]; first | assumption | exact qset_self _ _ _ | (rw [qset_ne _ _ (by omega)]; first | assumption | exact qset_self _ _ _ | (rw [qset_ne _ _ (by omega)]; first | assumption | exact qset_self _ _ _))))))) rfl ?_
      rw [pk_un (by decide), hw]
      refine v_iconst (v := 1) i_M_writes_39 rfl ?_
      refine v_iadd i_M_writes_40 ?_
      rw [nI_1]
      refine v_mput B h1 (j := 27) i_M_writes_41 (Nat.le_of_ble_eq_true rfl) rfl rfl rfl (fun X2 h2 f2 => ?_)
      refine v_iconst (v := 1) i_M_writes_44 rfl ?_
      refine v_zret i_M_writes_45 rfl (Or.inr rfl) (by decide) (by decide) ⟨by rw [decide_eq_false h0c]; rfl, by rw [if_neg h0c]; exact h2, f1.trans f2⟩
    refine v_aload_n i_M_writes_13 rfl ?_
    refine v_dup i_M_writes_14 rfl ?_
    refine v_get B i_M_writes_15 (by first | assumption | exact qset_self _ _ _ | (rw [qset_ne _ _ (by omega)]; first | assumption | exact qset_self _ _ _ | (rw [qset_ne _ _ (by omega)]; first | assumption | exact qset_self _ _ _ | (rw [qset_ne _ _ (by omega)]; first | assumption | exact qset_self _ _ _ | (rw [qset_ne _ _ (by omega)]; first | assumption | exact qset_self _ _ _ | (rw [qset_ne _ _ (by omega)]; first | assumption | exact qset_self _ _ _ | (rw [qset_ne _ _ (by omega)]; first | assumption | exact qset_self _ _ _))))))) rfl ?_
    rw [hc]
    refine v_aload_n i_M_writes_18 rfl ?_
    refine v_get B i_M_writes_19 (by first | assumption | exact qset_self _ _ _ | (rw [qset_ne _ _ (by omega)]; first | assumption | exact qset_self _ _ _ | (rw [qset_ne _ _ (by omega)]; first | assumption | exact qset_self _ _ _ | (rw [qset_ne _ _ (by omega)]; first | assumption | exact qset_self _ _ _ | (rw [qset_ne _ _ (by omega)]; first | assumption | exact qset_self _ _ _ | (rw [qset_ne _ _ (by omega)]; first | assumption | exact qset_self _ _ _ | (rw [qset_ne _ _ (by omega)]; first | assumption | exact qset_self _ _ _))))))) rfl ?_
    rw [hc]
    refine v_if_le (tgt := 29) i_M_writes_22 rfl (fun q22 => ?_) (fun q22 => ?_)
    · refine v_iconst (v := 0) i_M_writes_29 rfl ?_
      exact fin 0 (by rw [if_neg (fun z => by have := Int32.lt_iff_toInt_lt.mp z; have := Int32.le_iff_toInt_le.mp q22; omega)])
    · refine v_iconst (v := 1) i_M_writes_25 rfl ?_
      refine v_goto (tgt := 30) i_M_writes_26 rfl ?_
      exact fin 1 (by rw [if_pos (Int32.lt_iff_toInt_lt.mpr (by have : ¬ (vO c).toInt ≤ (0 : Int32).toInt := fun z => q22 (Int32.le_iff_toInt_le.mpr z); omega))])
theorem c_M_get (B : qB l s0 C) (h : MAt X m s I J) {b : Bool} (hb : s 25 = bI b) (hl : s 12 = nI lat) (hlt : lat < 4000) (hT : MT s I J pg made lat dt ro rb) (hrb : lat ≤ rb) (v k : Int32) (hd : ∀ j, j ≤ lat → mdOK pg made j k 16 (ro j)) : qMet l s0 C m_M_get rm_M_get [.ref m, .int v, .int k] X (fun r X' => ∃ z th, r = some (.long z) ∧ (b = false → ∀ j, j ≤ lat → v = nI j → th = (gslot (pg (tlf pg made j k 16 (ro j))) k j).isSome ∧ ∀ i, gslot (pg (tlf pg made j k 16 (ro j))) k j = some i → z = (en (pg (tlf pg made j k 16 (ro j))).2.2.2 i).2.2.2) ∧ mRO X X' m s I J (mcode b (!(ver v lat)) (!th) false)) (fun _ _ => False) := by
  obtain ⟨h0, -⟩ := id h
  refine q_of (by decide +kernel) (Nat.le_of_ble_eq_true rfl) ?_
  refine v_L (L' := [(0, .ref m), (1, .int v), (2, .int k)]) rfl ?_
  obtain ⟨t1, ⟨t2, t2b, t2c, t2d⟩, t3, t4, t5, t6⟩ := id hT
  have ho16 : ∀ j, j ≤ lat → tlf pg made j k 16 (ro j) < made ∧ oLt (gslot (pg (tlf pg made j k 16 (ro j))) k j) 16 := fun j j1 => by
    have hlf := tlf_level t2b (fun p hp => (t4 p hp).1.2.2.2.1) (hd j j1)
    refine ⟨hlf.2, fun t ht => ?_⟩
    have := gslot_lt ht
    have := (t4 _ hlf.2).1.2.2.2.1
    omega
  have main : ∀ th : Bool, (b = false → ∀ j, j ≤ lat → v = nI j → th = (gslot (pg (tlf pg made j k 16 (ro j))) k j).isSome) → (th = true → b = false ∧ ver v lat = true) → qV l s0 C m_M_get rm_M_get (fun r X' => ∃ z th, r = some (.long z) ∧ (b = false → ∀ j, j ≤ lat → v = nI j → th = (gslot (pg (tlf pg made j k 16 (ro j))) k j).isSome ∧ ∀ i, gslot (pg (tlf pg made j k 16 (ro j))) k j = some i → z = (en (pg (tlf pg made j k 16 (ro j))).2.2.2 i).2.2.2) ∧ mRO X X' m s I J (mcode b (!(ver v lat)) (!th) false)) (fun _ _ => False) 0 0 X 29 [(0, .ref m), (1, .int v), (2, .int k)] [.int (bI th)] := by
    intro th hth hth2
    refine v_istore_n i_M_get_29 (by decide) rfl ?_
    refine v_aload_n i_M_get_30 rfl ?_
    refine v_aload_n i_M_get_31 rfl ?_
    refine v_get B i_M_get_32 (by first | assumption | exact qset_self _ _ _ | (rw [qset_ne _ _ (by omega)]; first | assumption | exact qset_self _ _ _ | (rw [qset_ne _ _ (by omega)]; first | assumption | exact qset_self _ _ _ | (rw [qset_ne _ _ (by omega)]; first | assumption | exact qset_self _ _ _ | (rw [qset_ne _ _ (by omega)]; first | assumption | exact qset_self _ _ _ | (rw [qset_ne _ _ (by omega)]; first | assumption | exact qset_self _ _ _ | (rw [qset_ne _ _ (by omega)]; first | assumption | exact qset_self _ _ _))))))) rfl ?_
    refine v_aload_n i_M_get_35 rfl ?_
    refine v_iload_n i_M_get_36 rfl ?_
    rw [hb]
    refine v_inv B i_M_get_37 kn_m_M_isVersion (c_M_isVersion B h hl v) h0 rfl rfl (Nat.le_of_ble_eq_true rfl) ⟨by decide, by decide, by first | decide | (simp; omega), by first | decide | (simp; omega)⟩ rfl (fun r X' hq => ?_) (fun _ _ h => False.elim h)
    obtain ⟨rfl, rfl⟩ := hq
    refine v_neg (tgt := 47) (e := 48) i_M_get_40 rfl i_M_get_43 i_M_get_44 rfl i_M_get_47 rfl ?_
    refine v_iload_n i_M_get_48 rfl ?_
    refine v_neg (tgt := 56) (e := 57) i_M_get_49 rfl i_M_get_52 i_M_get_53 rfl i_M_get_56 rfl ?_
    refine v_iconst (v := 0) i_M_get_57 rfl ?_
    refine v_inv B i_M_get_58 kn_m_M_fails (c_M_fails B h b (!(ver v lat)) (!th) false) h0 rfl rfl (Nat.le_of_ble_eq_true rfl) ⟨by decide, by decide, by first | decide | (simp; omega), by first | decide | (simp; omega)⟩ rfl (fun r X' hq => ?_) (fun _ _ h => False.elim h)
    obtain ⟨rfl, h1, f1⟩ := hq
    have ho := mRO.of h1 f1
    obtain ⟨k0, -⟩ := id h1
    by_cases hf : (b || !(ver v lat) || !th || false) = true
    · rw [hf]
      refine v_if_eq (tgt := 68) i_M_get_61 rfl (fun q61 => absurd q61 (by decide)) (fun _ => ?_)
      refine v_lconst (v := 0) i_M_get_64 rfl ?_
      refine v_goto (tgt := 79) i_M_get_65 rfl ?_
      refine v_lret i_M_get_79 rfl (by decide) (by decide) ⟨0, th, rfl, fun hb0 j hj hvj => ⟨hth hb0 j hj hvj, fun i hi => ?_⟩, ho⟩
      rw [hb0, hvj, ver_nI hj hlt, hth hb0 j hj hvj, hi] at hf; exact absurd hf (by simp)
    · rw [Bool.not_eq_true] at hf
      rw [hf]
      simp only [Bool.or_false, Bool.or_eq_false_iff, Bool.not_eq_false'] at hf
      obtain ⟨j, j1, rfl⟩ := ver_of hf.1.2 hlt
      have hth' := hth hf.1.1 j j1 rfl
      rw [hf.2] at hth'
      obtain ⟨i, hi⟩ := Option.isSome_iff_exists.mp hth'.symm
      obtain ⟨hp, ho6⟩ := ho16 j j1
      have hi16 := ho6 i hi
      refine v_if_eq (tgt := 68) i_M_get_61 rfl (fun _ => ?_) (fun q61 => absurd rfl q61)
      refine v_aload_n i_M_get_68 rfl ?_
      refine v_get B i_M_get_69 (by first | assumption | exact qset_self _ _ _ | (rw [qset_ne _ _ (by omega)]; first | assumption | exact qset_self _ _ _ | (rw [qset_ne _ _ (by omega)]; first | assumption | exact qset_self _ _ _ | (rw [qset_ne _ _ (by omega)]; first | assumption | exact qset_self _ _ _ | (rw [qset_ne _ _ (by omega)]; first | assumption | exact qset_self _ _ _ | (rw [qset_ne _ _ (by omega)]; first | assumption | exact qset_self _ _ _ | (rw [qset_ne _ _ (by omega)]; first | assumption | exact qset_self _ _ _))))))) rfl ?_
      refine v_aload_n i_M_get_72 rfl ?_
      refine v_iload_n i_M_get_73 rfl ?_
      refine v_iload_n i_M_get_74 rfl ?_
      refine v_inv B i_M_get_75 kn_m_M_leafEntry (c_M_leafEntry B h1 k t4 t2b (by omega) (t5 j (by omega)).1 (n := 16) (hd j j1)) k0 rfl rfl (Nat.le_of_ble_eq_true rfl) ⟨by decide, by decide, by first | decide | (simp; omega), by first | decide | (simp; omega)⟩ rfl (fun r X' hq => ?_) (fun _ _ h => False.elim h)
      obtain ⟨rfl, rfl⟩ := hq
      rw [hi, show vA (tlf pg made j k 16 (ro j)) (some i) = nI (16 * tlf pg made j k 16 (ro j) + i) from rfl]
      obtain ⟨_, _, _, _, _, _, _, _, _, b9, _⟩ := h1.all
      refine v_lald (j := 16 * tlf pg made j k 16 (ro j) + i) B b9 rfl (by omega) (by omega) i_M_get_78 ?_
      have e9 := ((t4 _ hp).2.2.2.2.2 i (gslot_lt hi)).2.2.2
      rw [e9]
      refine v_lret i_M_get_79 rfl (by decide) (by decide) ⟨_, th, rfl, fun hb0 j' hj' e => ?_, ho⟩
      obtain rfl := (nI_eq (by omega) (by omega)).mp e
      exact ⟨by rw [hf.2, hi]; rfl, fun i' hi' => by rw [hi] at hi'; cases hi'; rfl⟩
  refine v_aload_n i_M_get_0 rfl ?_
  refine v_get B i_M_get_1 (by first | assumption | exact qset_self _ _ _ | (rw [qset_ne _ _ (by omega)]; first | assumption | exact qset_self _ _ _ | (rw [qset_ne _ _ (by omega)]; first | assumption | exact qset_self _ _ _ | (rw [qset_ne _ _ (by omega)]; first | assumption | exact qset_self _ _ _ | (rw [qset_ne _ _ (by omega)]; first | assumption | exact qset_self _ _ _ | (rw [qset_ne _ _ (by omega)]; first | assumption | exact qset_self _ _ _ | (rw [qset_ne _ _ (by omega)]; first | assumption | exact qset_self _ _ _))))))) rfl ?_
  rw [hb]
  cases b with
  | true =>
    refine v_if_ne (tgt := 28) i_M_get_4 rfl (fun _ => ?_) (fun q4 => absurd q4 (by decide))
    refine v_iconst (v := 0) i_M_get_28 rfl ?_
    exact main false (fun q => (nomatch q)) (fun q => (nomatch q))
  | false =>
    refine v_if_ne (tgt := 28) i_M_get_4 rfl (fun q4 => absurd rfl q4) (fun _ => ?_)
    refine v_aload_n i_M_get_7 rfl ?_
    refine v_iload_n i_M_get_8 rfl ?_
    refine v_inv B i_M_get_9 kn_m_M_isVersion (c_M_isVersion B h hl v) h0 rfl rfl (Nat.le_of_ble_eq_true rfl) ⟨by decide, by decide, by first | decide | (simp; omega), by first | decide | (simp; omega)⟩ rfl (fun r X' hq => ?_) (fun _ _ h => False.elim h)
    obtain ⟨rfl, rfl⟩ := hq
    refine v_if_eq (tgt := 28) i_M_get_12 rfl (fun q12 => ?_) (fun q12 => ?_)
    · have hv := bI_0.mp q12
      refine v_iconst (v := 0) i_M_get_28 rfl ?_
      exact main false (fun _ j hj e => by rw [e, ver_nI hj hlt] at hv; cases hv) (fun q => (nomatch q))
    · have hv := bI_ne q12
      obtain ⟨j, j1, rfl⟩ := ver_of hv hlt
      refine v_aload_n i_M_get_15 rfl ?_
      refine v_iload_n i_M_get_16 rfl ?_
      refine v_iload_n i_M_get_17 rfl ?_
      refine v_inv B i_M_get_18 kn_m_M_leafEntry (c_M_leafEntry B h k t4 t2b (by omega) (t5 j (by omega)).1 (n := 16) (hd j j1)) h0 rfl rfl (Nat.le_of_ble_eq_true rfl) ⟨by decide, by decide, by first | decide | (simp; omega), by first | decide | (simp; omega)⟩ rfl (fun r X' hq => ?_) (fun _ _ h => False.elim h)
      obtain ⟨rfl, rfl⟩ := hq
      obtain ⟨hp, ho6⟩ := ho16 j j1
      have hneg := vA_lt0 (p := tlf pg made j k 16 (ro j)) (by omega) ho6
      refine v_if_lt (tgt := 28) i_M_get_21 rfl (fun q21 => ?_) (fun q21 => ?_)
      · refine v_iconst (v := 0) i_M_get_28 rfl ?_
        exact main false (fun _ j' hj' e => by rw [← (nI_eq (by omega) (by omega)).mp e]; exact (hneg.mp q21).symm) (fun q => (nomatch q))
      · refine v_iconst (v := 1) i_M_get_24 rfl ?_
        refine v_goto (tgt := 29) i_M_get_25 rfl ?_
        refine main true (fun _ j' hj' e => ?_) (fun _ => ⟨rfl, hv⟩)
        rw [← (nI_eq (by omega) (by omega)).mp e]
        cases hq : (gslot (pg (tlf pg made j k 16 (ro j))) k j).isSome
        · exact absurd (hneg.mpr hq) q21
        · rfl
theorem c_M_alive (B : qB l s0 C) (h : MAt X m s I J) {b : Bool} (hb : s 25 = bI b) (hl : s 12 = nI lat) (hlt : lat < 4000) (hT : MT s I J pg made lat dt ro rb) (hrb : lat ≤ rb) (p v : Int32) : qMet l s0 C m_M_alive rm_M_alive [.ref m, .int p, .int v] X (fun r X' => ∃ z, r = some (.int z) ∧ (b = false → ∀ i j, i < made → j ≤ lat → p = nI i → v = nI j → z = (if gserves (pg i) j = true then nI (gliving (pg i).2.2.2 j (pg i).2.2.2.length) else -1)) ∧ mRO X X' m s I J (mcode b (!(pgn p made) || !(ver v lat)) false false)) (fun _ _ => False) := by
  obtain ⟨h0, -⟩ := id h
  refine q_of (by decide +kernel) (Nat.le_of_ble_eq_true rfl) ?_
  refine v_L (L' := [(0, .ref m), (1, .int p), (2, .int v)]) rfl ?_
  obtain ⟨t1, ⟨t2, t2b, t2c, t2d⟩, t3, t4, t5, t6⟩ := id hT
  have main : ∀ f : Bool, f = (!(pgn p made) || !(ver v lat)) → qV l s0 C m_M_alive rm_M_alive (fun r X' => ∃ z, r = some (.int z) ∧ (b = false → ∀ i j, i < made → j ≤ lat → p = nI i → v = nI j → z = (if gserves (pg i) j = true then nI (gliving (pg i).2.2.2 j (pg i).2.2.2.length) else -1)) ∧ mRO X X' m s I J (mcode b (!(pgn p made) || !(ver v lat)) false false)) (fun _ _ => False) 0 0 X 26 [(0, .ref m), (1, .int p), (2, .int v)] [.int (bI f), .int (bI b), .ref m] := by
    intro f hfe
    refine v_iconst (v := 0) i_M_alive_26 rfl ?_
    refine v_iconst (v := 0) i_M_alive_27 rfl ?_
    refine v_inv B i_M_alive_28 kn_m_M_fails (c_M_fails B h b f false false) h0 rfl rfl (Nat.le_of_ble_eq_true rfl) ⟨by decide, by decide, by first | decide | (simp; omega), by first | decide | (simp; omega)⟩ rfl (fun r X' hq => ?_) (fun _ _ h => False.elim h)
    obtain ⟨rfl, h1, f1⟩ := hq
    have ho := mRO.of h1 f1
    rw [hfe] at ho
    obtain ⟨k0, -⟩ := id h1
    by_cases hf : (b || f || false || false) = true
    · rw [hf]
      refine v_if_eq (tgt := 36) i_M_alive_31 rfl (fun q31 => absurd q31 (by decide)) (fun _ => ?_)
      refine v_iconst (v := 0) i_M_alive_34 rfl ?_
      refine v_iret i_M_alive_35 rfl (by decide) (by decide) ⟨0, rfl, fun hb0 i j hi hj e1 e2 => ?_, ho⟩
      rw [hb0, hfe, e1, e2, ver_nI hj hlt, show pgn (nI i) made = true from decide_eq_true ⟨nI_pos' (by omega), nI_lt hi (by omega)⟩] at hf; exact absurd hf (by decide)
    · rw [Bool.not_eq_true] at hf
      rw [hf]
      simp only [Bool.or_false, Bool.or_eq_false_iff] at hf
      have hf2 := hf.2
      rw [hfe] at hf2
      simp only [Bool.or_eq_false_iff, Bool.not_eq_false'] at hf2
      obtain ⟨i, i1, rfl⟩ := pgn_of hf2.1 t2b
      obtain ⟨j, j1, rfl⟩ := ver_of hf2.2 hlt
      refine v_if_eq (tgt := 36) i_M_alive_31 rfl (fun _ => ?_) (fun q31 => absurd rfl q31)
      refine v_aload_n i_M_alive_36 rfl ?_
      refine v_iload_n i_M_alive_37 rfl ?_
      refine v_iload_n i_M_alive_38 rfl ?_
      refine v_inv B i_M_alive_39 kn_m_M_serves (c_M_serves B h1 (t4 i i1) (by omega) (v := j) (by omega)) k0 rfl rfl (Nat.le_of_ble_eq_true rfl) ⟨by decide, by decide, by first | decide | (simp; omega), by first | decide | (simp; omega)⟩ rfl (fun r X' hq => ?_) (fun _ _ h => False.elim h)
      obtain ⟨rfl, rfl⟩ := hq
      cases hs : gserves (pg i) j with
      | true =>
        refine v_if_eq (tgt := 54) i_M_alive_42 rfl (fun q42 => absurd q42 (by decide)) (fun _ => ?_)
        refine v_aload_n i_M_alive_45 rfl ?_
        refine v_iload_n i_M_alive_46 rfl ?_
        refine v_iload_n i_M_alive_47 rfl ?_
        refine v_inv B i_M_alive_48 kn_m_M_aliveIn (c_M_aliveIn B h1 (t4 i i1) (by omega) (v := j) (by omega)) k0 rfl rfl (Nat.le_of_ble_eq_true rfl) ⟨by decide, by decide, by first | decide | (simp; omega), by first | decide | (simp; omega)⟩ rfl (fun r X' hq => ?_) (fun _ _ h => False.elim h)
        obtain ⟨rfl, rfl⟩ := hq
        refine v_goto (tgt := 55) i_M_alive_51 rfl ?_
        refine v_iret i_M_alive_55 rfl (by decide) (by decide) ⟨_, rfl, fun _ i' j' hi' hj' e1 e2 => ?_, ho⟩
        rw [← (nI_eq (by omega) (by omega)).mp e1, ← (nI_eq (by omega) (by omega)).mp e2, hs, if_pos rfl]
      | false =>
        refine v_if_eq (tgt := 54) i_M_alive_42 rfl (fun _ => ?_) (fun q42 => absurd rfl q42)
        refine v_iconst (v := (-1)) i_M_alive_54 rfl ?_
        refine v_iret i_M_alive_55 rfl (by decide) (by decide) ⟨_, rfl, fun _ i' j' hi' hj' e1 e2 => ?_, ho⟩
        rw [← (nI_eq (by omega) (by omega)).mp e1, ← (nI_eq (by omega) (by omega)).mp e2, hs, if_neg (by decide)]
  refine v_aload_n i_M_alive_0 rfl ?_
  refine v_aload_n i_M_alive_1 rfl ?_
  refine v_get B i_M_alive_2 (by first | assumption | exact qset_self _ _ _ | (rw [qset_ne _ _ (by omega)]; first | assumption | exact qset_self _ _ _ | (rw [qset_ne _ _ (by omega)]; first | assumption | exact qset_self _ _ _ | (rw [qset_ne _ _ (by omega)]; first | assumption | exact qset_self _ _ _ | (rw [qset_ne _ _ (by omega)]; first | assumption | exact qset_self _ _ _ | (rw [qset_ne _ _ (by omega)]; first | assumption | exact qset_self _ _ _ | (rw [qset_ne _ _ (by omega)]; first | assumption | exact qset_self _ _ _))))))) rfl ?_
  refine v_aload_n i_M_alive_5 rfl ?_
  refine v_iload_n i_M_alive_6 rfl ?_
  rw [hb]
  refine v_inv B i_M_alive_7 kn_m_M_isPage (c_M_isPage B h t1 p) h0 rfl rfl (Nat.le_of_ble_eq_true rfl) ⟨by decide, by decide, by first | decide | (simp; omega), by first | decide | (simp; omega)⟩ rfl (fun r X' hq => ?_) (fun _ _ h => False.elim h)
  obtain ⟨rfl, rfl⟩ := hq
  refine v_if_eq (tgt := 21) i_M_alive_10 rfl (fun q10 => ?_) (fun q10 => ?_)
  · have hp := bI_0.mp q10
    refine v_iconst (v := 1) i_M_alive_21 rfl ?_
    refine v_goto (tgt := 26) i_M_alive_22 rfl ?_
    exact main true (by rw [hp]; rfl)
  · have hp := bI_ne q10
    refine v_aload_n i_M_alive_13 rfl ?_
    refine v_iload_n i_M_alive_14 rfl ?_
    refine v_inv B i_M_alive_15 kn_m_M_isVersion (c_M_isVersion B h hl v) h0 rfl rfl (Nat.le_of_ble_eq_true rfl) ⟨by decide, by decide, by first | decide | (simp; omega), by first | decide | (simp; omega)⟩ rfl (fun r X' hq => ?_) (fun _ _ h => False.elim h)
    obtain ⟨rfl, rfl⟩ := hq
    refine v_if_ne (tgt := 25) i_M_alive_18 rfl (fun q18 => ?_) (fun q18 => ?_)
    · have hv := bI_ne q18
      refine v_iconst (v := 0) i_M_alive_25 rfl ?_
      exact main false (by rw [hp, hv]; rfl)
    · have hv := bI_0.mp q18
      refine v_iconst (v := 1) i_M_alive_21 rfl ?_
      refine v_goto (tgt := 26) i_M_alive_22 rfl ?_
      exact main true (by rw [hp, hv]; rfl)
end MQ
