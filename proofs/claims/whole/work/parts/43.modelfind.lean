/-! the reference finds entries -/
/-- an entry's number among all: -1 for none -/
def vA (p : Nat) (o : Option Nat) : Int32 := match o with
  | none => -1
  | some i => nI (16 * p + i)
theorem vA_neg {p : Nat} {o : Option Nat} (hp : p < 512) (h : oLt o 16) : vA p o < 0 ↔ o = none := by
  cases o with
  | none => exact ⟨fun _ => rfl, fun _ => show (-1 : Int32) < 0 from by decide⟩
  | some t => exact ⟨fun q => absurd q (nI_pos (by have := h t rfl; omega)), fun q => by cases q⟩
/-- the least key, the first of equals -/
def gfst (es : List Ent) (v : Nat) : Nat → Option Nat
  | 0 => none
  | n + 1 => if alv (en es n) v = true ∧ (∀ b, gfst es v n = some b → (en es n).1 < (en es b).1) then some n else gfst es v n
theorem gfst_lt (es : List Ent) (v : Nat) : ∀ n b, gfst es v n = some b → b < n
  | 0, b, h => by cases h
  | n + 1, b, h => by
    unfold gfst at h
    split at h
    · cases h; omega
    · have := gfst_lt es v n b h; omega
theorem gabo_fst (es : List Ent) (K : Int) (v : Nat) : ∀ n, gbel es K v n = none → gabo es K v n = gfst es v n
  | 0, _ => rfl
  | n + 1, h => by
    unfold gbel at h
    split at h
    · cases h
    · rename_i hc
      have ih := gabo_fst es K v n h
      unfold gabo gfst
      rw [ih]
      by_cases ha : alv (en es n) v = true
      · have hk : K ≤ (en es n).1.toInt := by
          refine Int.le_of_lt (Int.not_le.mp (fun q => hc ⟨ha, q, fun b hb => ?_⟩))
          rw [h] at hb; cases hb
        by_cases hf : ∀ b, gfst es v n = some b → (en es n).1 < (en es b).1
        · rw [if_pos ⟨ha, hk, hf⟩, if_pos ⟨ha, hf⟩]
        · rw [if_neg (fun q => hf q.2.2), if_neg (fun q => hf q.2)]
      · rw [if_neg (fun q => ha q.1), if_neg (fun q => ha q.1)]
section MF
variable {X X' : qX} {m : Nat} {s : Nat → Int32} {I : Nat → Nat → Int32} {J : Nat → Nat → Int64}
variable {l : Launch} {s0 : State} {C : qC}
theorem c_M_standing_loop (B : qB l s0 C) (h : MAt X m s I J) {p v : Nat} {P : Pg} (k : Int32) (hP : mPg I J p P) (hp : p < 512) (hv : v < 2 ^ 30) : ∀ (j i : Nat), i + j = P.2.2.2.length → qV l s0 C m_M_standing rm_M_standing (fun r X' => X = X' ∧ r = some (.int (vA p (gstand P k v)))) (fun _ _ => False) 0 0 X 12 [(0, .ref m), (1, .int (nI p)), (2, .int (nI v)), (3, .int k), (4, .int (vA p (gbel P.2.2.2 k.toInt v i))), (5, .int (vA p (gfst P.2.2.2 v i))), (6, .int (nI (16 * p + i)))] [] := by
  obtain ⟨h0, a1, a2, a3, a4, a5, a6, a7, a8, a9, a10, a11, a12, a13, a14, a15, a16, a17, a18, a19, a20, a21, a22, a23, a24, a25, a26, a27, a28, a29⟩ := h.all
  obtain ⟨⟨o1, o2, o3, o4, o5⟩, -, -, -, e4, e6⟩ := id hP
  intro j
  induction j with
  | zero =>
    intro i hij
    have hi : i = P.2.2.2.length := by omega
    subst hi
    refine v_iload i_M_standing_12 rfl ?_
    refine v_bipush (v := 16) i_M_standing_14 rfl ?_
    refine v_iload_n i_M_standing_16 rfl ?_
    refine v_imul i_M_standing_17 ?_
    refine v_aload_n i_M_standing_18 rfl ?_
    refine v_get B i_M_standing_19 (by first | assumption | exact qset_self _ _ _ | (rw [qset_ne _ _ (by omega)]; first | assumption | exact qset_self _ _ _ | (rw [qset_ne _ _ (by omega)]; first | assumption | exact qset_self _ _ _ | (rw [qset_ne _ _ (by omega)]; first | assumption | exact qset_self _ _ _ | (rw [qset_ne _ _ (by omega)]; first | assumption | exact qset_self _ _ _ | (rw [qset_ne _ _ (by omega)]; first | assumption | exact qset_self _ _ _ | (rw [qset_ne _ _ (by omega)]; first | assumption | exact qset_self _ _ _))))))) rfl ?_
    refine v_iload_n i_M_standing_22 rfl ?_
    refine v_iald B (by first | assumption | exact qset_self _ _ _ | (rw [qset_ne _ _ (by omega)]; first | assumption | exact qset_self _ _ _ | (rw [qset_ne _ _ (by omega)]; first | assumption | exact qset_self _ _ _ | (rw [qset_ne _ _ (by omega)]; first | assumption | exact qset_self _ _ _ | (rw [qset_ne _ _ (by omega)]; first | assumption | exact qset_self _ _ _ | (rw [qset_ne _ _ (by omega)]; first | assumption | exact qset_self _ _ _ | (rw [qset_ne _ _ (by omega)]; first | assumption | exact qset_self _ _ _))))))) rfl (by omega) (by omega) i_M_standing_23 ?_
    rw [n16, e4]
    refine v_iadd i_M_standing_24 ?_
    rw [nI_add]
    refine v_icmp_ge (tgt := 117) i_M_standing_25 rfl (fun h25 => ?_) (fun h25 => ?_)
    · refine v_iload i_M_standing_117 rfl ?_
      have hb : oLt (gbel P.2.2.2 k.toInt v P.2.2.2.length) 16 := fun t ht => by have := gbel_lt _ _ _ _ _ ht; omega
      refine v_if_ge (tgt := 127) i_M_standing_119 rfl (fun h119 => ?_) (fun h119 => ?_)
      · refine v_iload i_M_standing_127 rfl ?_
        refine v_iret i_M_standing_129 rfl (by decide) (by decide) ⟨rfl, ?_⟩
        have hne : ¬ vA p (gbel P.2.2.2 k.toInt v P.2.2.2.length) < 0 := fun q => by
          have h7 := Int32.le_iff_toInt_le.mp h119
          have h8 := Int32.lt_iff_toInt_lt.mp q
          omega
        unfold gstand
        cases hg : gbel P.2.2.2 k.toInt v P.2.2.2.length with
        | none => rw [hg] at hne; exact absurd (show (-1 : Int32) < 0 from by decide) hne
        | some b => rfl
      · refine v_iload i_M_standing_122 rfl ?_
        refine v_goto (tgt := 129) i_M_standing_124 rfl ?_
        refine v_iret i_M_standing_129 rfl (by decide) (by decide) ⟨rfl, ?_⟩
        have hn : gbel P.2.2.2 k.toInt v P.2.2.2.length = none := by
          cases hg : gbel P.2.2.2 k.toInt v P.2.2.2.length with
          | none => rfl
          | some b =>
            rw [hg] at h119
            have := hb b hg
            exact absurd (nI_pos' (by omega)) h119
        unfold gstand
        rw [hn, gabo_fst _ _ _ _ hn]
    · exact absurd (nI_le (by omega) (by omega)) h25
  | succ j ih =>
    intro i hij
    obtain ⟨k1, -, -, -⟩ := e6 i (by omega)
    have hbl : oLt (gbel P.2.2.2 k.toInt v i) 16 := fun t ht => by have := gbel_lt _ _ _ _ _ ht; omega
    have hfl : oLt (gfst P.2.2.2 v i) 16 := fun t ht => by have := gfst_lt _ _ _ _ ht; omega
    have tail : ∀ b f : Option Nat, gbel P.2.2.2 k.toInt v (i + 1) = b → gfst P.2.2.2 v (i + 1) = f → qV l s0 C m_M_standing rm_M_standing (fun r X' => X = X' ∧ r = some (.int (vA p (gstand P k v)))) (fun _ _ => False) 0 0 X 111 [(0, .ref m), (1, .int (nI p)), (2, .int (nI v)), (3, .int k), (4, .int (vA p b)), (5, .int (vA p f)), (6, .int (nI (16 * p + i)))] [] := by
      intro b f hb hf
      refine v_iinc (v := nI (16 * p + (i + 1))) i_M_standing_111 rfl (nI_1 _) (by decide) rfl ?_
      refine v_goto (tgt := 12) i_M_standing_114 rfl ?_
      exact v_loc [(0, .ref m), (1, .int (nI p)), (2, .int (nI v)), (3, .int k), (4, .int (vA p (gbel P.2.2.2 k.toInt v (i + 1)))), (5, .int (vA p (gfst P.2.2.2 v (i + 1)))), (6, .int (nI (16 * p + (i + 1))))] (by rw [hb, hf]; rfl) (ih (i + 1) (by omega))
    have second : ∀ f : Option Nat, gfst P.2.2.2 v (i + 1) = f → alv (en P.2.2.2 i) v = true → qV l s0 C m_M_standing rm_M_standing (fun r X' => X = X' ∧ r = some (.int (vA p (gstand P k v)))) (fun _ _ => False) 0 0 X 69 [(0, .ref m), (1, .int (nI p)), (2, .int (nI v)), (3, .int k), (4, .int (vA p (gbel P.2.2.2 k.toInt v i))), (5, .int (vA p f)), (6, .int (nI (16 * p + i)))] [] := by
      intro f hf ha
      have keepb : ¬ ((en P.2.2.2 i).1.toInt ≤ k.toInt ∧ ∀ b, gbel P.2.2.2 k.toInt v i = some b → (en P.2.2.2 b).1 < (en P.2.2.2 i).1) → qV l s0 C m_M_standing rm_M_standing (fun r X' => X = X' ∧ r = some (.int (vA p (gstand P k v)))) (fun _ _ => False) 0 0 X 107 [(0, .ref m), (1, .int (nI p)), (2, .int (nI v)), (3, .int k), (4, .int (vA p (gbel P.2.2.2 k.toInt v i))), (5, .int (vA p f)), (6, .int (nI (16 * p + i)))] [] := by
        intro hn
        refine v_iload i_M_standing_107 rfl ?_
        refine v_istore i_M_standing_109 (by decide) rfl ?_
        exact v_loc [(0, .ref m), (1, .int (nI p)), (2, .int (nI v)), (3, .int k), (4, .int (vA p (gbel P.2.2.2 k.toInt v i))), (5, .int (vA p f)), (6, .int (nI (16 * p + i)))] rfl (tail _ f (by rw [gbel, if_neg (fun q => hn q.2)]) hf)
      have takeb : ((en P.2.2.2 i).1.toInt ≤ k.toInt ∧ ∀ b, gbel P.2.2.2 k.toInt v i = some b → (en P.2.2.2 b).1 < (en P.2.2.2 i).1) → qV l s0 C m_M_standing rm_M_standing (fun r X' => X = X' ∧ r = some (.int (vA p (gstand P k v)))) (fun _ _ => False) 0 0 X 102 [(0, .ref m), (1, .int (nI p)), (2, .int (nI v)), (3, .int k), (4, .int (vA p (gbel P.2.2.2 k.toInt v i))), (5, .int (vA p f)), (6, .int (nI (16 * p + i)))] [] := by
        intro hy
        refine v_iload i_M_standing_102 rfl ?_
        refine v_goto (tgt := 109) i_M_standing_104 rfl ?_
        refine v_istore i_M_standing_109 (by decide) rfl ?_
        exact v_loc [(0, .ref m), (1, .int (nI p)), (2, .int (nI v)), (3, .int k), (4, .int (vA p (some i))), (5, .int (vA p f)), (6, .int (nI (16 * p + i)))] rfl (tail (some i) f (by rw [gbel, if_pos ⟨ha, hy⟩]) hf)
      refine v_aload_n i_M_standing_69 rfl ?_
      refine v_get B i_M_standing_70 (by first | assumption | exact qset_self _ _ _ | (rw [qset_ne _ _ (by omega)]; first | assumption | exact qset_self _ _ _ | (rw [qset_ne _ _ (by omega)]; first | assumption | exact qset_self _ _ _ | (rw [qset_ne _ _ (by omega)]; first | assumption | exact qset_self _ _ _ | (rw [qset_ne _ _ (by omega)]; first | assumption | exact qset_self _ _ _ | (rw [qset_ne _ _ (by omega)]; first | assumption | exact qset_self _ _ _ | (rw [qset_ne _ _ (by omega)]; first | assumption | exact qset_self _ _ _))))))) rfl ?_
      refine v_iload i_M_standing_73 rfl ?_
      refine v_iald B (by first | assumption | exact qset_self _ _ _ | (rw [qset_ne _ _ (by omega)]; first | assumption | exact qset_self _ _ _ | (rw [qset_ne _ _ (by omega)]; first | assumption | exact qset_self _ _ _ | (rw [qset_ne _ _ (by omega)]; first | assumption | exact qset_self _ _ _ | (rw [qset_ne _ _ (by omega)]; first | assumption | exact qset_self _ _ _ | (rw [qset_ne _ _ (by omega)]; first | assumption | exact qset_self _ _ _ | (rw [qset_ne _ _ (by omega)]; first | assumption | exact qset_self _ _ _))))))) rfl (by omega) (by omega) i_M_standing_75 ?_
      refine v_iload_n i_M_standing_76 rfl ?_
      rw [k1]
      refine v_icmp_gt (tgt := 107) i_M_standing_77 rfl (fun h77 => ?_) (fun h77 => ?_)
      · refine keepb (fun q => ?_)
        have := Int32.lt_iff_toInt_lt.mp h77
        omega
      have hk : (en P.2.2.2 i).1.toInt ≤ k.toInt := Int.not_lt.mp (fun q => h77 (Int32.lt_iff_toInt_lt.mpr q))
      refine v_iload i_M_standing_80 rfl ?_
      refine v_if_lt (tgt := 102) i_M_standing_82 rfl (fun h82 => ?_) (fun h82 => ?_)
      · refine takeb ⟨hk, fun b hb => ?_⟩
        rw [(vA_neg hp hbl).mp h82] at hb; cases hb
      cases hg : gbel P.2.2.2 k.toInt v i with
      | none => rw [hg] at h82; exact absurd (show (-1 : Int32) < 0 from by decide) h82
      | some b =>
        have hb := gbel_lt _ _ _ _ _ hg
        obtain ⟨k2, -, -, -⟩ := e6 b (by omega)
        rw [hg] at keepb takeb
        refine v_loc [(0, .ref m), (1, .int (nI p)), (2, .int (nI v)), (3, .int k), (4, .int (nI (16 * p + b))), (5, .int (vA p f)), (6, .int (nI (16 * p + i)))] rfl ?_
        refine v_aload_n i_M_standing_85 rfl ?_
        refine v_get B i_M_standing_86 (by first | assumption | exact qset_self _ _ _ | (rw [qset_ne _ _ (by omega)]; first | assumption | exact qset_self _ _ _ | (rw [qset_ne _ _ (by omega)]; first | assumption | exact qset_self _ _ _ | (rw [qset_ne _ _ (by omega)]; first | assumption | exact qset_self _ _ _ | (rw [qset_ne _ _ (by omega)]; first | assumption | exact qset_self _ _ _ | (rw [qset_ne _ _ (by omega)]; first | assumption | exact qset_self _ _ _ | (rw [qset_ne _ _ (by omega)]; first | assumption | exact qset_self _ _ _))))))) rfl ?_
        refine v_iload i_M_standing_89 rfl ?_
        refine v_iald B (by first | assumption | exact qset_self _ _ _ | (rw [qset_ne _ _ (by omega)]; first | assumption | exact qset_self _ _ _ | (rw [qset_ne _ _ (by omega)]; first | assumption | exact qset_self _ _ _ | (rw [qset_ne _ _ (by omega)]; first | assumption | exact qset_self _ _ _ | (rw [qset_ne _ _ (by omega)]; first | assumption | exact qset_self _ _ _ | (rw [qset_ne _ _ (by omega)]; first | assumption | exact qset_self _ _ _ | (rw [qset_ne _ _ (by omega)]; first | assumption | exact qset_self _ _ _))))))) rfl (by omega) (by omega) i_M_standing_91 ?_
        refine v_aload_n i_M_standing_92 rfl ?_
        refine v_get B i_M_standing_93 (by first | assumption | exact qset_self _ _ _ | (rw [qset_ne _ _ (by omega)]; first | assumption | exact qset_self _ _ _ | (rw [qset_ne _ _ (by omega)]; first | assumption | exact qset_self _ _ _ | (rw [qset_ne _ _ (by omega)]; first | assumption | exact qset_self _ _ _ | (rw [qset_ne _ _ (by omega)]; first | assumption | exact qset_self _ _ _ | (rw [qset_ne _ _ (by omega)]; first | assumption | exact qset_self _ _ _ | (rw [qset_ne _ _ (by omega)]; first | assumption | exact qset_self _ _ _))))))) rfl ?_
        refine v_iload i_M_standing_96 rfl ?_
        refine v_iald B (by first | assumption | exact qset_self _ _ _ | (rw [qset_ne _ _ (by omega)]; first | assumption | exact qset_self _ _ _ | (rw [qset_ne _ _ (by omega)]; first | assumption | exact qset_self _ _ _ | (rw [qset_ne _ _ (by omega)]; first | assumption | exact qset_self _ _ _ | (rw [qset_ne _ _ (by omega)]; first | assumption | exact qset_self _ _ _ | (rw [qset_ne _ _ (by omega)]; first | assumption | exact qset_self _ _ _ | (rw [qset_ne _ _ (by omega)]; first | assumption | exact qset_self _ _ _))))))) rfl (by omega) (by omega) i_M_standing_98 ?_
        rw [k1, k2]
        refine v_icmp_le (tgt := 107) i_M_standing_99 rfl (fun h99 => ?_) (fun h99 => ?_)
        · refine keepb (fun q => ?_)
          have := Int32.lt_iff_toInt_lt.mp (q.2 b rfl)
          have := Int32.le_iff_toInt_le.mp h99
          omega
        · refine takeb ⟨hk, fun c hc => ?_⟩
          cases hc
          exact Int32.lt_iff_toInt_lt.mpr (Int.not_le.mp (fun q => h99 (Int32.le_iff_toInt_le.mpr q)))
    refine v_iload i_M_standing_12 rfl ?_
    refine v_bipush (v := 16) i_M_standing_14 rfl ?_
    refine v_iload_n i_M_standing_16 rfl ?_
    refine v_imul i_M_standing_17 ?_
    refine v_aload_n i_M_standing_18 rfl ?_
    refine v_get B i_M_standing_19 (by first | assumption | exact qset_self _ _ _ | (rw [qset_ne _ _ (by omega)]; first | assumption | exact qset_self _ _ _ | (rw [qset_ne _ _ (by omega)]; first | assumption | exact qset_self _ _ _ | (rw [qset_ne _ _ (by omega)]; first | assumption | exact qset_self _ _ _ | (rw [qset_ne _ _ (by omega)]; first | assumption | exact qset_self _ _ _ | (rw [qset_ne _ _ (by omega)]; first | assumption | exact qset_self _ _ _ | (rw [qset_ne _ _ (by omega)]; first | assumption | exact qset_self _ _ _))))))) rfl ?_
    refine v_iload_n i_M_standing_22 rfl ?_
    refine v_iald B (by first | assumption | exact qset_self _ _ _ | (rw [qset_ne _ _ (by omega)]; first | assumption | exact qset_self _ _ _ | (rw [qset_ne _ _ (by omega)]; first | assumption | exact qset_self _ _ _ | (rw [qset_ne _ _ (by omega)]; first | assumption | exact qset_self _ _ _ | (rw [qset_ne _ _ (by omega)]; first | assumption | exact qset_self _ _ _ | (rw [qset_ne _ _ (by omega)]; first | assumption | exact qset_self _ _ _ | (rw [qset_ne _ _ (by omega)]; first | assumption | exact qset_self _ _ _))))))) rfl (by omega) (by omega) i_M_standing_23 ?_
    rw [n16, e4]
    refine v_iadd i_M_standing_24 ?_
    rw [nI_add]
    refine v_icmp_ge (tgt := 117) i_M_standing_25 rfl (fun h25 => ?_) (fun h25 => ?_)
    · exact absurd h25 (nI_ge (by omega) (by omega))
    refine v_aload_n i_M_standing_28 rfl ?_
    refine v_iload i_M_standing_29 rfl ?_
    refine v_iload_n i_M_standing_31 rfl ?_
    refine v_inv B i_M_standing_32 kn_m_M_isAlive (c_M_isAlive B h hP hp (i := i) (by omega) hv) h0 rfl rfl (Nat.le_of_ble_eq_true rfl) ⟨by decide, by decide, by first | decide | (simp; omega), by first | decide | (simp; omega)⟩ rfl (fun r X' hq => ?_) (fun _ _ h => False.elim h)
    obtain ⟨rfl, rfl⟩ := hq
    refine v_if_eq (tgt := 111) i_M_standing_35 rfl (fun h35 => ?_) (fun h35 => ?_)
    · have hn : ¬ alv (en P.2.2.2 i) v = true := by rw [bI_0.mp h35]; decide
      exact tail _ _ (by rw [gbel, if_neg (fun q => hn q.1)]) (by rw [gfst, if_neg (fun q => hn q.1)])
    have ha := bI_ne h35
    have keepf : ¬ (∀ b, gfst P.2.2.2 v i = some b → (en P.2.2.2 i).1 < (en P.2.2.2 b).1) → qV l s0 C m_M_standing rm_M_standing (fun r X' => X = X' ∧ r = some (.int (vA p (gstand P k v)))) (fun _ _ => False) 0 0 X 65 [(0, .ref m), (1, .int (nI p)), (2, .int (nI v)), (3, .int k), (4, .int (vA p (gbel P.2.2.2 k.toInt v i))), (5, .int (vA p (gfst P.2.2.2 v i))), (6, .int (nI (16 * p + i)))] [] := by
      intro hn
      refine v_iload i_M_standing_65 rfl ?_
      refine v_istore i_M_standing_67 (by decide) rfl ?_
      exact v_loc [(0, .ref m), (1, .int (nI p)), (2, .int (nI v)), (3, .int k), (4, .int (vA p (gbel P.2.2.2 k.toInt v i))), (5, .int (vA p (gfst P.2.2.2 v i))), (6, .int (nI (16 * p + i)))] rfl (second _ (by rw [gfst, if_neg (fun q => hn q.2)]) ha)
    have takef : (∀ b, gfst P.2.2.2 v i = some b → (en P.2.2.2 i).1 < (en P.2.2.2 b).1) → qV l s0 C m_M_standing rm_M_standing (fun r X' => X = X' ∧ r = some (.int (vA p (gstand P k v)))) (fun _ _ => False) 0 0 X 60 [(0, .ref m), (1, .int (nI p)), (2, .int (nI v)), (3, .int k), (4, .int (vA p (gbel P.2.2.2 k.toInt v i))), (5, .int (vA p (gfst P.2.2.2 v i))), (6, .int (nI (16 * p + i)))] [] := by
      intro hy
      refine v_iload i_M_standing_60 rfl ?_
      refine v_goto (tgt := 67) i_M_standing_62 rfl ?_
      refine v_istore i_M_standing_67 (by decide) rfl ?_
      exact v_loc [(0, .ref m), (1, .int (nI p)), (2, .int (nI v)), (3, .int k), (4, .int (vA p (gbel P.2.2.2 k.toInt v i))), (5, .int (vA p (some i))), (6, .int (nI (16 * p + i)))] rfl (second (some i) (by rw [gfst, if_pos ⟨ha, hy⟩]) ha)
    refine v_iload i_M_standing_38 rfl ?_
    refine v_if_lt (tgt := 60) i_M_standing_40 rfl (fun h40 => ?_) (fun h40 => ?_)
    · refine takef (fun b hb => ?_)
      rw [(vA_neg hp hfl).mp h40] at hb; cases hb
    cases hg : gfst P.2.2.2 v i with
    | none => rw [hg] at h40; exact absurd (show (-1 : Int32) < 0 from by decide) h40
    | some b =>
      have hb := gfst_lt _ _ _ _ hg
      obtain ⟨k2, -, -, -⟩ := e6 b (by omega)
      rw [hg] at keepf takef
      refine v_loc [(0, .ref m), (1, .int (nI p)), (2, .int (nI v)), (3, .int k), (4, .int (vA p (gbel P.2.2.2 k.toInt v i))), (5, .int (nI (16 * p + b))), (6, .int (nI (16 * p + i)))] rfl ?_
      refine v_aload_n i_M_standing_43 rfl ?_
      refine v_get B i_M_standing_44 (by first | assumption | exact qset_self _ _ _ | (rw [qset_ne _ _ (by omega)]; first | assumption | exact qset_self _ _ _ | (rw [qset_ne _ _ (by omega)]; first | assumption | exact qset_self _ _ _ | (rw [qset_ne _ _ (by omega)]; first | assumption | exact qset_self _ _ _ | (rw [qset_ne _ _ (by omega)]; first | assumption | exact qset_self _ _ _ | (rw [qset_ne _ _ (by omega)]; first | assumption | exact qset_self _ _ _ | (rw [qset_ne _ _ (by omega)]; first | assumption | exact qset_self _ _ _))))))) rfl ?_
      refine v_iload i_M_standing_47 rfl ?_
      refine v_iald B (by first | assumption | exact qset_self _ _ _ | (rw [qset_ne _ _ (by omega)]; first | assumption | exact qset_self _ _ _ | (rw [qset_ne _ _ (by omega)]; first | assumption | exact qset_self _ _ _ | (rw [qset_ne _ _ (by omega)]; first | assumption | exact qset_self _ _ _ | (rw [qset_ne _ _ (by omega)]; first | assumption | exact qset_self _ _ _ | (rw [qset_ne _ _ (by omega)]; first | assumption | exact qset_self _ _ _ | (rw [qset_ne _ _ (by omega)]; first | assumption | exact qset_self _ _ _))))))) rfl (by omega) (by omega) i_M_standing_49 ?_
      refine v_aload_n i_M_standing_50 rfl ?_
      refine v_get B i_M_standing_51 (by first | assumption | exact qset_self _ _ _ | (rw [qset_ne _ _ (by omega)]; first | assumption | exact qset_self _ _ _ | (rw [qset_ne _ _ (by omega)]; first | assumption | exact qset_self _ _ _ | (rw [qset_ne _ _ (by omega)]; first | assumption | exact qset_self _ _ _ | (rw [qset_ne _ _ (by omega)]; first | assumption | exact qset_self _ _ _ | (rw [qset_ne _ _ (by omega)]; first | assumption | exact qset_self _ _ _ | (rw [qset_ne _ _ (by omega)]; first | assumption | exact qset_self _ _ _))))))) rfl ?_
      refine v_iload i_M_standing_54 rfl ?_
      refine v_iald B (by first | assumption | exact qset_self _ _ _ | (rw [qset_ne _ _ (by omega)]; first | assumption | exact qset_self _ _ _ | (rw [qset_ne _ _ (by omega)]; first | assumption | exact qset_self _ _ _ | (rw [qset_ne _ _ (by omega)]; first | assumption | exact qset_self _ _ _ | (rw [qset_ne _ _ (by omega)]; first | assumption | exact qset_self _ _ _ | (rw [qset_ne _ _ (by omega)]; first | assumption | exact qset_self _ _ _ | (rw [qset_ne _ _ (by omega)]; first | assumption | exact qset_self _ _ _))))))) rfl (by omega) (by omega) i_M_standing_56 ?_
      rw [k1, k2]
      refine v_icmp_ge (tgt := 65) i_M_standing_57 rfl (fun h57 => ?_) (fun h57 => ?_)
      · refine keepf (fun q => ?_)
        have := Int32.lt_iff_toInt_lt.mp (q b rfl)
        have := Int32.le_iff_toInt_le.mp h57
        omega
      · refine takef (fun c hc => ?_)
        cases hc
        exact Int32.lt_iff_toInt_lt.mpr (Int.not_le.mp (fun q => h57 (Int32.le_iff_toInt_le.mpr q)))
theorem c_M_standing (B : qB l s0 C) (h : MAt X m s I J) {p v : Nat} {P : Pg} (k : Int32) (hP : mPg I J p P) (hp : p < 512) (hv : v < 2 ^ 30) : qMet l s0 C m_M_standing rm_M_standing [.ref m, .int (nI p), .int (nI v), .int k] X (fun r X' => X = X' ∧ r = some (.int (vA p (gstand P k v)))) (fun _ _ => False) := by
  refine q_of (by decide +kernel) (Nat.le_of_ble_eq_true rfl) ?_
  refine v_L (L' := [(0, .ref m), (1, .int (nI p)), (2, .int (nI v)), (3, .int k)]) rfl ?_
  refine v_iconst (v := (-1)) i_M_standing_0 rfl ?_
  refine v_istore i_M_standing_1 (by decide) rfl ?_
  refine v_iconst (v := (-1)) i_M_standing_3 rfl ?_
  refine v_istore i_M_standing_4 (by decide) rfl ?_
  refine v_bipush (v := 16) i_M_standing_6 rfl ?_
  refine v_iload_n i_M_standing_8 rfl ?_
  refine v_imul i_M_standing_9 ?_
  rw [n16]
  refine v_istore i_M_standing_10 (by decide) rfl ?_
  exact v_loc [(0, .ref m), (1, .int (nI p)), (2, .int (nI v)), (3, .int k), (4, .int (vA p (gbel P.2.2.2 k.toInt v 0))), (5, .int (vA p (gfst P.2.2.2 v 0))), (6, .int (nI (16 * p + 0)))] rfl (c_M_standing_loop B h k hP hp hv _ 0 (Nat.zero_add _))
theorem c_M_neighbour_loop (B : qB l s0 C) (h : MAt X m s I J) {p v d : Nat} {P : Pg} (hP : mPg I J p P) (hp : p < 512) (hv : v < 2 ^ 30) (hd : d < P.2.2.2.length) : ∀ (j i : Nat), i + j = P.2.2.2.length → qV l s0 C m_M_neighbour rm_M_neighbour (fun r X' => X = X' ∧ r = some (.int (vA p (gneigh P (nI d) v)))) (fun _ _ => False) 0 0 X 12 [(0, .ref m), (1, .int (nI p)), (2, .int (nI v)), (3, .int (nI (16 * p + d))), (4, .int (vA p (gabo P.2.2.2 ((en P.2.2.2 d).1.toInt + 1) v i))), (5, .int (vA p (gbel P.2.2.2 ((en P.2.2.2 d).1.toInt - 1) v i))), (6, .int (nI (16 * p + i)))] [] := by
  obtain ⟨h0, a1, a2, a3, a4, a5, a6, a7, a8, a9, a10, a11, a12, a13, a14, a15, a16, a17, a18, a19, a20, a21, a22, a23, a24, a25, a26, a27, a28, a29⟩ := h.all
  obtain ⟨⟨o1, o2, o3, o4, o5⟩, -, -, -, e4, e6⟩ := id hP
  obtain ⟨kd, -, -, -⟩ := e6 d hd
  intro j
  induction j with
  | zero =>
    intro i hij
    have hi : i = P.2.2.2.length := by omega
    subst hi
    refine v_iload i_M_neighbour_12 rfl ?_
    refine v_bipush (v := 16) i_M_neighbour_14 rfl ?_
    refine v_iload_n i_M_neighbour_16 rfl ?_
    refine v_imul i_M_neighbour_17 ?_
    refine v_aload_n i_M_neighbour_18 rfl ?_
    refine v_get B i_M_neighbour_19 (by first | assumption | exact qset_self _ _ _ | (rw [qset_ne _ _ (by omega)]; first | assumption | exact qset_self _ _ _ | (rw [qset_ne _ _ (by omega)]; first | assumption | exact qset_self _ _ _ | (rw [qset_ne _ _ (by omega)]; first | assumption | exact qset_self _ _ _ | (rw [qset_ne _ _ (by omega)]; first | assumption | exact qset_self _ _ _ | (rw [qset_ne _ _ (by omega)]; first | assumption | exact qset_self _ _ _ | (rw [qset_ne _ _ (by omega)]; first | assumption | exact qset_self _ _ _))))))) rfl ?_
    refine v_iload_n i_M_neighbour_22 rfl ?_
    refine v_iald B (by first | assumption | exact qset_self _ _ _ | (rw [qset_ne _ _ (by omega)]; first | assumption | exact qset_self _ _ _ | (rw [qset_ne _ _ (by omega)]; first | assumption | exact qset_self _ _ _ | (rw [qset_ne _ _ (by omega)]; first | assumption | exact qset_self _ _ _ | (rw [qset_ne _ _ (by omega)]; first | assumption | exact qset_self _ _ _ | (rw [qset_ne _ _ (by omega)]; first | assumption | exact qset_self _ _ _ | (rw [qset_ne _ _ (by omega)]; first | assumption | exact qset_self _ _ _))))))) rfl (by omega) (by omega) i_M_neighbour_23 ?_
    rw [n16, e4]
    refine v_iadd i_M_neighbour_24 ?_
    rw [nI_add]
    refine v_icmp_ge (tgt := 144) i_M_neighbour_25 rfl (fun h25 => ?_) (fun h25 => ?_)
    · refine v_iload i_M_neighbour_144 rfl ?_
      have hb : oLt (gabo P.2.2.2 ((en P.2.2.2 d).1.toInt + 1) v P.2.2.2.length) 16 := fun t ht => by have := gabo_lt _ _ _ _ _ ht; omega
      refine v_if_ge (tgt := 154) i_M_neighbour_146 rfl (fun h119 => ?_) (fun h119 => ?_)
      · refine v_iload i_M_neighbour_154 rfl ?_
        refine v_iret i_M_neighbour_156 rfl (by decide) (by decide) ⟨rfl, ?_⟩
        have hne : ¬ vA p (gabo P.2.2.2 ((en P.2.2.2 d).1.toInt + 1) v P.2.2.2.length) < 0 := fun q => by
          have h7 := Int32.le_iff_toInt_le.mp h119
          have h8 := Int32.lt_iff_toInt_lt.mp q
          omega
        unfold gneigh gnext
        rw [gkeyAt_nI hd o4]
        cases hg : gabo P.2.2.2 ((en P.2.2.2 d).1.toInt + 1) v P.2.2.2.length with
        | none => rw [hg] at hne; exact absurd (show (-1 : Int32) < 0 from by decide) hne
        | some b => rfl
      · refine v_iload i_M_neighbour_149 rfl ?_
        refine v_goto (tgt := 156) i_M_neighbour_151 rfl ?_
        refine v_iret i_M_neighbour_156 rfl (by decide) (by decide) ⟨rfl, ?_⟩
        have hn : (gabo P.2.2.2 ((en P.2.2.2 d).1.toInt + 1) v P.2.2.2.length) = none := by
          cases hg : gabo P.2.2.2 ((en P.2.2.2 d).1.toInt + 1) v P.2.2.2.length with
          | none => rfl
          | some b =>
            rw [hg] at h119
            have := hb b hg
            exact absurd (nI_pos' (by omega)) h119
        unfold gneigh gnext
        rw [gkeyAt_nI hd o4, hn]
    · exact absurd (nI_le (by omega) (by omega)) h25
  | succ j ih =>
    intro i hij
    obtain ⟨k1, -, -, -⟩ := e6 i (by omega)
    have hal : oLt (gabo P.2.2.2 ((en P.2.2.2 d).1.toInt + 1) v i) 16 := fun t ht => by have := gabo_lt _ _ _ _ _ ht; omega
    have hbl : oLt (gbel P.2.2.2 ((en P.2.2.2 d).1.toInt - 1) v i) 16 := fun t ht => by have := gbel_lt _ _ _ _ _ ht; omega
    have tail : ∀ b f : Option Nat, (gabo P.2.2.2 ((en P.2.2.2 d).1.toInt + 1) v (i + 1)) = b → (gbel P.2.2.2 ((en P.2.2.2 d).1.toInt - 1) v (i + 1)) = f → qV l s0 C m_M_neighbour rm_M_neighbour (fun r X' => X = X' ∧ r = some (.int (vA p (gneigh P (nI d) v)))) (fun _ _ => False) 0 0 X 138 [(0, .ref m), (1, .int (nI p)), (2, .int (nI v)), (3, .int (nI (16 * p + d))), (4, .int (vA p b)), (5, .int (vA p f)), (6, .int (nI (16 * p + i)))] [] := by
      intro b f hb hf
      refine v_iinc (v := nI (16 * p + (i + 1))) i_M_neighbour_138 rfl (nI_1 _) (by decide) rfl ?_
      refine v_goto (tgt := 12) i_M_neighbour_141 rfl ?_
      exact v_loc [(0, .ref m), (1, .int (nI p)), (2, .int (nI v)), (3, .int (nI (16 * p + d))), (4, .int (vA p (gabo P.2.2.2 ((en P.2.2.2 d).1.toInt + 1) v (i + 1)))), (5, .int (vA p (gbel P.2.2.2 ((en P.2.2.2 d).1.toInt - 1) v (i + 1)))), (6, .int (nI (16 * p + (i + 1))))] (by rw [hb, hf]; rfl) (ih (i + 1) (by omega))
    have second : ∀ f : Option Nat, (gabo P.2.2.2 ((en P.2.2.2 d).1.toInt + 1) v (i + 1)) = f → alv (en P.2.2.2 i) v = true → qV l s0 C m_M_neighbour rm_M_neighbour (fun r X' => X = X' ∧ r = some (.int (vA p (gneigh P (nI d) v)))) (fun _ _ => False) 0 0 X 91 [(0, .ref m), (1, .int (nI p)), (2, .int (nI v)), (3, .int (nI (16 * p + d))), (4, .int (vA p f)), (5, .int (vA p (gbel P.2.2.2 ((en P.2.2.2 d).1.toInt - 1) v i))), (6, .int (nI (16 * p + i)))] [] := by
      intro f hf ha
      have keepb : ¬ ((en P.2.2.2 i).1.toInt ≤ (en P.2.2.2 d).1.toInt - 1 ∧ ∀ b, (gbel P.2.2.2 ((en P.2.2.2 d).1.toInt - 1) v i) = some b → (en P.2.2.2 b).1 < (en P.2.2.2 i).1) → qV l s0 C m_M_neighbour rm_M_neighbour (fun r X' => X = X' ∧ r = some (.int (vA p (gneigh P (nI d) v)))) (fun _ _ => False) 0 0 X 134 [(0, .ref m), (1, .int (nI p)), (2, .int (nI v)), (3, .int (nI (16 * p + d))), (4, .int (vA p f)), (5, .int (vA p (gbel P.2.2.2 ((en P.2.2.2 d).1.toInt - 1) v i))), (6, .int (nI (16 * p + i)))] [] := by
        intro hn
        refine v_iload i_M_neighbour_134 rfl ?_
        refine v_istore i_M_neighbour_136 (by decide) rfl ?_
        exact v_loc [(0, .ref m), (1, .int (nI p)), (2, .int (nI v)), (3, .int (nI (16 * p + d))), (4, .int (vA p f)), (5, .int (vA p (gbel P.2.2.2 ((en P.2.2.2 d).1.toInt - 1) v i))), (6, .int (nI (16 * p + i)))] rfl (tail f _ hf (by rw [gbel, if_neg (fun q => hn q.2)]))
      have takeb : ((en P.2.2.2 i).1.toInt ≤ (en P.2.2.2 d).1.toInt - 1 ∧ ∀ b, (gbel P.2.2.2 ((en P.2.2.2 d).1.toInt - 1) v i) = some b → (en P.2.2.2 b).1 < (en P.2.2.2 i).1) → qV l s0 C m_M_neighbour rm_M_neighbour (fun r X' => X = X' ∧ r = some (.int (vA p (gneigh P (nI d) v)))) (fun _ _ => False) 0 0 X 129 [(0, .ref m), (1, .int (nI p)), (2, .int (nI v)), (3, .int (nI (16 * p + d))), (4, .int (vA p f)), (5, .int (vA p (gbel P.2.2.2 ((en P.2.2.2 d).1.toInt - 1) v i))), (6, .int (nI (16 * p + i)))] [] := by
        intro hy
        refine v_iload i_M_neighbour_129 rfl ?_
        refine v_goto (tgt := 136) i_M_neighbour_131 rfl ?_
        refine v_istore i_M_neighbour_136 (by decide) rfl ?_
        exact v_loc [(0, .ref m), (1, .int (nI p)), (2, .int (nI v)), (3, .int (nI (16 * p + d))), (4, .int (vA p f)), (5, .int (vA p (some i))), (6, .int (nI (16 * p + i)))] rfl (tail f (some i) hf (by rw [gbel, if_pos ⟨ha, hy⟩]))
      refine v_aload_n i_M_neighbour_91 rfl ?_
      refine v_get B i_M_neighbour_92 (by first | assumption | exact qset_self _ _ _ | (rw [qset_ne _ _ (by omega)]; first | assumption | exact qset_self _ _ _ | (rw [qset_ne _ _ (by omega)]; first | assumption | exact qset_self _ _ _ | (rw [qset_ne _ _ (by omega)]; first | assumption | exact qset_self _ _ _ | (rw [qset_ne _ _ (by omega)]; first | assumption | exact qset_self _ _ _ | (rw [qset_ne _ _ (by omega)]; first | assumption | exact qset_self _ _ _ | (rw [qset_ne _ _ (by omega)]; first | assumption | exact qset_self _ _ _))))))) rfl ?_
      refine v_iload i_M_neighbour_95 rfl ?_
      refine v_iald B (by first | assumption | exact qset_self _ _ _ | (rw [qset_ne _ _ (by omega)]; first | assumption | exact qset_self _ _ _ | (rw [qset_ne _ _ (by omega)]; first | assumption | exact qset_self _ _ _ | (rw [qset_ne _ _ (by omega)]; first | assumption | exact qset_self _ _ _ | (rw [qset_ne _ _ (by omega)]; first | assumption | exact qset_self _ _ _ | (rw [qset_ne _ _ (by omega)]; first | assumption | exact qset_self _ _ _ | (rw [qset_ne _ _ (by omega)]; first | assumption | exact qset_self _ _ _))))))) rfl (by omega) (by omega) i_M_neighbour_97 ?_
      refine v_aload_n i_M_neighbour_98 rfl ?_
      refine v_get B i_M_neighbour_99 (by first | assumption | exact qset_self _ _ _ | (rw [qset_ne _ _ (by omega)]; first | assumption | exact qset_self _ _ _ | (rw [qset_ne _ _ (by omega)]; first | assumption | exact qset_self _ _ _ | (rw [qset_ne _ _ (by omega)]; first | assumption | exact qset_self _ _ _ | (rw [qset_ne _ _ (by omega)]; first | assumption | exact qset_self _ _ _ | (rw [qset_ne _ _ (by omega)]; first | assumption | exact qset_self _ _ _ | (rw [qset_ne _ _ (by omega)]; first | assumption | exact qset_self _ _ _))))))) rfl ?_
      refine v_iload_n i_M_neighbour_102 rfl ?_
      refine v_iald B (by first | assumption | exact qset_self _ _ _ | (rw [qset_ne _ _ (by omega)]; first | assumption | exact qset_self _ _ _ | (rw [qset_ne _ _ (by omega)]; first | assumption | exact qset_self _ _ _ | (rw [qset_ne _ _ (by omega)]; first | assumption | exact qset_self _ _ _ | (rw [qset_ne _ _ (by omega)]; first | assumption | exact qset_self _ _ _ | (rw [qset_ne _ _ (by omega)]; first | assumption | exact qset_self _ _ _ | (rw [qset_ne _ _ (by omega)]; first | assumption | exact qset_self _ _ _))))))) rfl (by omega) (by omega) i_M_neighbour_103 ?_
      rw [k1, kd]
      refine v_icmp_ge (tgt := 134) i_M_neighbour_104 rfl (fun h104 => ?_) (fun h104 => ?_)
      · refine keepb (fun q => ?_)
        have := Int32.le_iff_toInt_le.mp h104
        omega
      have hk : (en P.2.2.2 i).1.toInt ≤ (en P.2.2.2 d).1.toInt - 1 := by
        have := Int.not_le.mp (fun q => h104 (Int32.le_iff_toInt_le.mpr q))
        omega
      refine v_iload i_M_neighbour_107 rfl ?_
      refine v_if_lt (tgt := 129) i_M_neighbour_109 rfl (fun h82 => ?_) (fun h82 => ?_)
      · refine takeb ⟨hk, fun b hb => ?_⟩
        rw [(vA_neg hp hbl).mp h82] at hb; cases hb
      cases hg : gbel P.2.2.2 ((en P.2.2.2 d).1.toInt - 1) v i with
      | none => rw [hg] at h82; exact absurd (show (-1 : Int32) < 0 from by decide) h82
      | some b =>
        have hb := gbel_lt _ _ _ _ _ hg
        obtain ⟨k2, -, -, -⟩ := e6 b (by omega)
        rw [hg] at keepb takeb
        refine v_loc [(0, .ref m), (1, .int (nI p)), (2, .int (nI v)), (3, .int (nI (16 * p + d))), (4, .int (vA p f)), (5, .int (nI (16 * p + b))), (6, .int (nI (16 * p + i)))] rfl ?_
        refine v_aload_n i_M_neighbour_112 rfl ?_
        refine v_get B i_M_neighbour_113 (by first | assumption | exact qset_self _ _ _ | (rw [qset_ne _ _ (by omega)]; first | assumption | exact qset_self _ _ _ | (rw [qset_ne _ _ (by omega)]; first | assumption | exact qset_self _ _ _ | (rw [qset_ne _ _ (by omega)]; first | assumption | exact qset_self _ _ _ | (rw [qset_ne _ _ (by omega)]; first | assumption | exact qset_self _ _ _ | (rw [qset_ne _ _ (by omega)]; first | assumption | exact qset_self _ _ _ | (rw [qset_ne _ _ (by omega)]; first | assumption | exact qset_self _ _ _))))))) rfl ?_
        refine v_iload i_M_neighbour_116 rfl ?_
        refine v_iald B (by first | assumption | exact qset_self _ _ _ | (rw [qset_ne _ _ (by omega)]; first | assumption | exact qset_self _ _ _ | (rw [qset_ne _ _ (by omega)]; first | assumption | exact qset_self _ _ _ | (rw [qset_ne _ _ (by omega)]; first | assumption | exact qset_self _ _ _ | (rw [qset_ne _ _ (by omega)]; first | assumption | exact qset_self _ _ _ | (rw [qset_ne _ _ (by omega)]; first | assumption | exact qset_self _ _ _ | (rw [qset_ne _ _ (by omega)]; first | assumption | exact qset_self _ _ _))))))) rfl (by omega) (by omega) i_M_neighbour_118 ?_
        refine v_aload_n i_M_neighbour_119 rfl ?_
        refine v_get B i_M_neighbour_120 (by first | assumption | exact qset_self _ _ _ | (rw [qset_ne _ _ (by omega)]; first | assumption | exact qset_self _ _ _ | (rw [qset_ne _ _ (by omega)]; first | assumption | exact qset_self _ _ _ | (rw [qset_ne _ _ (by omega)]; first | assumption | exact qset_self _ _ _ | (rw [qset_ne _ _ (by omega)]; first | assumption | exact qset_self _ _ _ | (rw [qset_ne _ _ (by omega)]; first | assumption | exact qset_self _ _ _ | (rw [qset_ne _ _ (by omega)]; first | assumption | exact qset_self _ _ _))))))) rfl ?_
        refine v_iload i_M_neighbour_123 rfl ?_
        refine v_iald B (by first | assumption | exact qset_self _ _ _ | (rw [qset_ne _ _ (by omega)]; first | assumption | exact qset_self _ _ _ | (rw [qset_ne _ _ (by omega)]; first | assumption | exact qset_self _ _ _ | (rw [qset_ne _ _ (by omega)]; first | assumption | exact qset_self _ _ _ | (rw [qset_ne _ _ (by omega)]; first | assumption | exact qset_self _ _ _ | (rw [qset_ne _ _ (by omega)]; first | assumption | exact qset_self _ _ _ | (rw [qset_ne _ _ (by omega)]; first | assumption | exact qset_self _ _ _))))))) rfl (by omega) (by omega) i_M_neighbour_125 ?_
        rw [k1, k2]
        refine v_icmp_le (tgt := 134) i_M_neighbour_126 rfl (fun h126 => ?_) (fun h126 => ?_)
        · refine keepb (fun q => ?_)
          have := Int32.lt_iff_toInt_lt.mp (q.2 b rfl)
          have := Int32.le_iff_toInt_le.mp h126
          omega
        · refine takeb ⟨hk, fun c hc => ?_⟩
          cases hc
          exact Int32.lt_iff_toInt_lt.mpr (Int.not_le.mp (fun q => h126 (Int32.le_iff_toInt_le.mpr q)))
    refine v_iload i_M_neighbour_12 rfl ?_
    refine v_bipush (v := 16) i_M_neighbour_14 rfl ?_
    refine v_iload_n i_M_neighbour_16 rfl ?_
    refine v_imul i_M_neighbour_17 ?_
    refine v_aload_n i_M_neighbour_18 rfl ?_
    refine v_get B i_M_neighbour_19 (by first | assumption | exact qset_self _ _ _ | (rw [qset_ne _ _ (by omega)]; first | assumption | exact qset_self _ _ _ | (rw [qset_ne _ _ (by omega)]; first | assumption | exact qset_self _ _ _ | (rw [qset_ne _ _ (by omega)]; first | assumption | exact qset_self _ _ _ | (rw [qset_ne _ _ (by omega)]; first | assumption | exact qset_self _ _ _ | (rw [qset_ne _ _ (by omega)]; first | assumption | exact qset_self _ _ _ | (rw [qset_ne _ _ (by omega)]; first | assumption | exact qset_self _ _ _))))))) rfl ?_
    refine v_iload_n i_M_neighbour_22 rfl ?_
    refine v_iald B (by first | assumption | exact qset_self _ _ _ | (rw [qset_ne _ _ (by omega)]; first | assumption | exact qset_self _ _ _ | (rw [qset_ne _ _ (by omega)]; first | assumption | exact qset_self _ _ _ | (rw [qset_ne _ _ (by omega)]; first | assumption | exact qset_self _ _ _ | (rw [qset_ne _ _ (by omega)]; first | assumption | exact qset_self _ _ _ | (rw [qset_ne _ _ (by omega)]; first | assumption | exact qset_self _ _ _ | (rw [qset_ne _ _ (by omega)]; first | assumption | exact qset_self _ _ _))))))) rfl (by omega) (by omega) i_M_neighbour_23 ?_
    rw [n16, e4]
    refine v_iadd i_M_neighbour_24 ?_
    rw [nI_add]
    refine v_icmp_ge (tgt := 144) i_M_neighbour_25 rfl (fun h25 => ?_) (fun h25 => ?_)
    · exact absurd h25 (nI_ge (by omega) (by omega))
    refine v_aload_n i_M_neighbour_28 rfl ?_
    refine v_iload i_M_neighbour_29 rfl ?_
    refine v_iload_n i_M_neighbour_31 rfl ?_
    refine v_inv B i_M_neighbour_32 kn_m_M_isAlive (c_M_isAlive B h hP hp (i := i) (by omega) hv) h0 rfl rfl (Nat.le_of_ble_eq_true rfl) ⟨by decide, by decide, by first | decide | (simp; omega), by first | decide | (simp; omega)⟩ rfl (fun r X' hq => ?_) (fun _ _ h => False.elim h)
    obtain ⟨rfl, rfl⟩ := hq
    refine v_if_eq (tgt := 138) i_M_neighbour_35 rfl (fun h35 => ?_) (fun h35 => ?_)
    · have hn : ¬ alv (en P.2.2.2 i) v = true := by rw [bI_0.mp h35]; decide
      exact tail _ _ (by rw [gabo, if_neg (fun q => hn q.1)]) (by rw [gbel, if_neg (fun q => hn q.1)])
    have ha := bI_ne h35
    refine v_iload i_M_neighbour_38 rfl ?_
    refine v_iload_n i_M_neighbour_40 rfl ?_
    refine v_icmp_eq (tgt := 138) i_M_neighbour_41 rfl (fun h41 => ?_) (fun h41 => ?_)
    · have hid : i = d := by
        have := (nI_eq (by omega) (by omega)).mp h41
        omega
      subst hid
      exact tail _ _ (by rw [gabo, if_neg (fun q => by have := q.2.1; omega)]) (by rw [gbel, if_neg (fun q => by have := q.2.1; omega)])
    have keepf : ¬ ((en P.2.2.2 d).1.toInt + 1 ≤ (en P.2.2.2 i).1.toInt ∧ ∀ b, (gabo P.2.2.2 ((en P.2.2.2 d).1.toInt + 1) v i) = some b → (en P.2.2.2 i).1 < (en P.2.2.2 b).1) → qV l s0 C m_M_neighbour rm_M_neighbour (fun r X' => X = X' ∧ r = some (.int (vA p (gneigh P (nI d) v)))) (fun _ _ => False) 0 0 X 87 [(0, .ref m), (1, .int (nI p)), (2, .int (nI v)), (3, .int (nI (16 * p + d))), (4, .int (vA p (gabo P.2.2.2 ((en P.2.2.2 d).1.toInt + 1) v i))), (5, .int (vA p (gbel P.2.2.2 ((en P.2.2.2 d).1.toInt - 1) v i))), (6, .int (nI (16 * p + i)))] [] := by
      intro hn
      refine v_iload i_M_neighbour_87 rfl ?_
      refine v_istore i_M_neighbour_89 (by decide) rfl ?_
      exact v_loc [(0, .ref m), (1, .int (nI p)), (2, .int (nI v)), (3, .int (nI (16 * p + d))), (4, .int (vA p (gabo P.2.2.2 ((en P.2.2.2 d).1.toInt + 1) v i))), (5, .int (vA p (gbel P.2.2.2 ((en P.2.2.2 d).1.toInt - 1) v i))), (6, .int (nI (16 * p + i)))] rfl (second _ (by rw [gabo, if_neg (fun q => hn q.2)]) ha)
    have takef : ((en P.2.2.2 d).1.toInt + 1 ≤ (en P.2.2.2 i).1.toInt ∧ ∀ b, (gabo P.2.2.2 ((en P.2.2.2 d).1.toInt + 1) v i) = some b → (en P.2.2.2 i).1 < (en P.2.2.2 b).1) → qV l s0 C m_M_neighbour rm_M_neighbour (fun r X' => X = X' ∧ r = some (.int (vA p (gneigh P (nI d) v)))) (fun _ _ => False) 0 0 X 82 [(0, .ref m), (1, .int (nI p)), (2, .int (nI v)), (3, .int (nI (16 * p + d))), (4, .int (vA p (gabo P.2.2.2 ((en P.2.2.2 d).1.toInt + 1) v i))), (5, .int (vA p (gbel P.2.2.2 ((en P.2.2.2 d).1.toInt - 1) v i))), (6, .int (nI (16 * p + i)))] [] := by
      intro hy
      refine v_iload i_M_neighbour_82 rfl ?_
      refine v_goto (tgt := 89) i_M_neighbour_84 rfl ?_
      refine v_istore i_M_neighbour_89 (by decide) rfl ?_
      exact v_loc [(0, .ref m), (1, .int (nI p)), (2, .int (nI v)), (3, .int (nI (16 * p + d))), (4, .int (vA p (some i))), (5, .int (vA p (gbel P.2.2.2 ((en P.2.2.2 d).1.toInt - 1) v i))), (6, .int (nI (16 * p + i)))] rfl (second (some i) (by rw [gabo, if_pos ⟨ha, hy⟩]) ha)
    refine v_aload_n i_M_neighbour_44 rfl ?_
    refine v_get B i_M_neighbour_45 (by first | assumption | exact qset_self _ _ _ | (rw [qset_ne _ _ (by omega)]; first | assumption | exact qset_self _ _ _ | (rw [qset_ne _ _ (by omega)]; first | assumption | exact qset_self _ _ _ | (rw [qset_ne _ _ (by omega)]; first | assumption | exact qset_self _ _ _ | (rw [qset_ne _ _ (by omega)]; first | assumption | exact qset_self _ _ _ | (rw [qset_ne _ _ (by omega)]; first | assumption | exact qset_self _ _ _ | (rw [qset_ne _ _ (by omega)]; first | assumption | exact qset_self _ _ _))))))) rfl ?_
    refine v_iload i_M_neighbour_48 rfl ?_
    refine v_iald B (by first | assumption | exact qset_self _ _ _ | (rw [qset_ne _ _ (by omega)]; first | assumption | exact qset_self _ _ _ | (rw [qset_ne _ _ (by omega)]; first | assumption | exact qset_self _ _ _ | (rw [qset_ne _ _ (by omega)]; first | assumption | exact qset_self _ _ _ | (rw [qset_ne _ _ (by omega)]; first | assumption | exact qset_self _ _ _ | (rw [qset_ne _ _ (by omega)]; first | assumption | exact qset_self _ _ _ | (rw [qset_ne _ _ (by omega)]; first | assumption | exact qset_self _ _ _))))))) rfl (by omega) (by omega) i_M_neighbour_50 ?_
    refine v_aload_n i_M_neighbour_51 rfl ?_
    refine v_get B i_M_neighbour_52 (by first | assumption | exact qset_self _ _ _ | (rw [qset_ne _ _ (by omega)]; first | assumption | exact qset_self _ _ _ | (rw [qset_ne _ _ (by omega)]; first | assumption | exact qset_self _ _ _ | (rw [qset_ne _ _ (by omega)]; first | assumption | exact qset_self _ _ _ | (rw [qset_ne _ _ (by omega)]; first | assumption | exact qset_self _ _ _ | (rw [qset_ne _ _ (by omega)]; first | assumption | exact qset_self _ _ _ | (rw [qset_ne _ _ (by omega)]; first | assumption | exact qset_self _ _ _))))))) rfl ?_
    refine v_iload_n i_M_neighbour_55 rfl ?_
    refine v_iald B (by first | assumption | exact qset_self _ _ _ | (rw [qset_ne _ _ (by omega)]; first | assumption | exact qset_self _ _ _ | (rw [qset_ne _ _ (by omega)]; first | assumption | exact qset_self _ _ _ | (rw [qset_ne _ _ (by omega)]; first | assumption | exact qset_self _ _ _ | (rw [qset_ne _ _ (by omega)]; first | assumption | exact qset_self _ _ _ | (rw [qset_ne _ _ (by omega)]; first | assumption | exact qset_self _ _ _ | (rw [qset_ne _ _ (by omega)]; first | assumption | exact qset_self _ _ _))))))) rfl (by omega) (by omega) i_M_neighbour_56 ?_
    rw [k1, kd]
    refine v_icmp_le (tgt := 87) i_M_neighbour_57 rfl (fun h57 => ?_) (fun h57 => ?_)
    · refine keepf (fun q => ?_)
      have := Int32.le_iff_toInt_le.mp h57
      omega
    have hk : (en P.2.2.2 d).1.toInt + 1 ≤ (en P.2.2.2 i).1.toInt := by
      have := Int.not_le.mp (fun q => h57 (Int32.le_iff_toInt_le.mpr q))
      omega
    refine v_iload i_M_neighbour_60 rfl ?_
    refine v_if_lt (tgt := 82) i_M_neighbour_62 rfl (fun h40 => ?_) (fun h40 => ?_)
    · refine takef ⟨hk, fun b hb => ?_⟩
      rw [(vA_neg hp hal).mp h40] at hb; cases hb
    cases hg : gabo P.2.2.2 ((en P.2.2.2 d).1.toInt + 1) v i with
    | none => rw [hg] at h40; exact absurd (show (-1 : Int32) < 0 from by decide) h40
    | some b =>
      have hb := gabo_lt _ _ _ _ _ hg
      obtain ⟨k2, -, -, -⟩ := e6 b (by omega)
      rw [hg] at keepf takef
      refine v_loc [(0, .ref m), (1, .int (nI p)), (2, .int (nI v)), (3, .int (nI (16 * p + d))), (4, .int (nI (16 * p + b))), (5, .int (vA p (gbel P.2.2.2 ((en P.2.2.2 d).1.toInt - 1) v i))), (6, .int (nI (16 * p + i)))] rfl ?_
      refine v_aload_n i_M_neighbour_65 rfl ?_
      refine v_get B i_M_neighbour_66 (by first | assumption | exact qset_self _ _ _ | (rw [qset_ne _ _ (by omega)]; first | assumption | exact qset_self _ _ _ | (rw [qset_ne _ _ (by omega)]; first | assumption | exact qset_self _ _ _ | (rw [qset_ne _ _ (by omega)]; first | assumption | exact qset_self _ _ _ | (rw [qset_ne _ _ (by omega)]; first | assumption | exact qset_self _ _ _ | (rw [qset_ne _ _ (by omega)]; first | assumption | exact qset_self _ _ _ | (rw [qset_ne _ _ (by omega)]; first | assumption | exact qset_self _ _ _))))))) rfl ?_
      refine v_iload i_M_neighbour_69 rfl ?_
      refine v_iald B (by first | assumption | exact qset_self _ _ _ | (rw [qset_ne _ _ (by omega)]; first | assumption | exact qset_self _ _ _ | (rw [qset_ne _ _ (by omega)]; first | assumption | exact qset_self _ _ _ | (rw [qset_ne _ _ (by omega)]; first | assumption | exact qset_self _ _ _ | (rw [qset_ne _ _ (by omega)]; first | assumption | exact qset_self _ _ _ | (rw [qset_ne _ _ (by omega)]; first | assumption | exact qset_self _ _ _ | (rw [qset_ne _ _ (by omega)]; first | assumption | exact qset_self _ _ _))))))) rfl (by omega) (by omega) i_M_neighbour_71 ?_
      refine v_aload_n i_M_neighbour_72 rfl ?_
      refine v_get B i_M_neighbour_73 (by first | assumption | exact qset_self _ _ _ | (rw [qset_ne _ _ (by omega)]; first | assumption | exact qset_self _ _ _ | (rw [qset_ne _ _ (by omega)]; first | assumption | exact qset_self _ _ _ | (rw [qset_ne _ _ (by omega)]; first | assumption | exact qset_self _ _ _ | (rw [qset_ne _ _ (by omega)]; first | assumption | exact qset_self _ _ _ | (rw [qset_ne _ _ (by omega)]; first | assumption | exact qset_self _ _ _ | (rw [qset_ne _ _ (by omega)]; first | assumption | exact qset_self _ _ _))))))) rfl ?_
      refine v_iload i_M_neighbour_76 rfl ?_
      refine v_iald B (by first | assumption | exact qset_self _ _ _ | (rw [qset_ne _ _ (by omega)]; first | assumption | exact qset_self _ _ _ | (rw [qset_ne _ _ (by omega)]; first | assumption | exact qset_self _ _ _ | (rw [qset_ne _ _ (by omega)]; first | assumption | exact qset_self _ _ _ | (rw [qset_ne _ _ (by omega)]; first | assumption | exact qset_self _ _ _ | (rw [qset_ne _ _ (by omega)]; first | assumption | exact qset_self _ _ _ | (rw [qset_ne _ _ (by omega)]; first | assumption | exact qset_self _ _ _))))))) rfl (by omega) (by omega) i_M_neighbour_78 ?_
      rw [k1, k2]
      refine v_icmp_ge (tgt := 87) i_M_neighbour_79 rfl (fun h79 => ?_) (fun h79 => ?_)
      · refine keepf (fun q => ?_)
        have := Int32.lt_iff_toInt_lt.mp (q.2 b rfl)
        have := Int32.le_iff_toInt_le.mp h79
        omega
      · refine takef ⟨hk, fun c hc => ?_⟩
        cases hc
        exact Int32.lt_iff_toInt_lt.mpr (Int.not_le.mp (fun q => h79 (Int32.le_iff_toInt_le.mpr q)))
theorem c_M_neighbour (B : qB l s0 C) (h : MAt X m s I J) {p v d : Nat} {P : Pg} (hP : mPg I J p P) (hp : p < 512) (hv : v < 2 ^ 30) (hd : d < P.2.2.2.length) : qMet l s0 C m_M_neighbour rm_M_neighbour [.ref m, .int (nI p), .int (nI v), .int (nI (16 * p + d))] X (fun r X' => X = X' ∧ r = some (.int (vA p (gneigh P (nI d) v)))) (fun _ _ => False) := by
  refine q_of (by decide +kernel) (Nat.le_of_ble_eq_true rfl) ?_
  refine v_L (L' := [(0, .ref m), (1, .int (nI p)), (2, .int (nI v)), (3, .int (nI (16 * p + d)))]) rfl ?_
  refine v_iconst (v := (-1)) i_M_neighbour_0 rfl ?_
  refine v_istore i_M_neighbour_1 (by decide) rfl ?_
  refine v_iconst (v := (-1)) i_M_neighbour_3 rfl ?_
  refine v_istore i_M_neighbour_4 (by decide) rfl ?_
  refine v_bipush (v := 16) i_M_neighbour_6 rfl ?_
  refine v_iload_n i_M_neighbour_8 rfl ?_
  refine v_imul i_M_neighbour_9 ?_
  rw [n16]
  refine v_istore i_M_neighbour_10 (by decide) rfl ?_
  exact v_loc [(0, .ref m), (1, .int (nI p)), (2, .int (nI v)), (3, .int (nI (16 * p + d))), (4, .int (vA p (gabo P.2.2.2 ((en P.2.2.2 d).1.toInt + 1) v 0))), (5, .int (vA p (gbel P.2.2.2 ((en P.2.2.2 d).1.toInt - 1) v 0))), (6, .int (nI (16 * p + 0)))] rfl (c_M_neighbour_loop B h hP hp hv hd _ 0 (Nat.zero_add _))
/-- the last entry alive that leads to page q -/
def mentry (es : List Ent) (v q : Nat) : Nat → Option Nat
  | 0 => none
  | n + 1 => if alv (en es n) v = true ∧ (en es n).2.2.2 = lN q then some n else mentry es v q n
theorem c_M_entryOf_loop (B : qB l s0 C) (h : MAt X m s I J) {p v q : Nat} {P : Pg} (hP : mPg I J p P) (hp : p < 512) (hv : v < 2 ^ 30) (hq0 : q < 512) : ∀ (j i : Nat), i + j = P.2.2.2.length → qV l s0 C m_M_entryOf rm_M_entryOf (fun r X' => X = X' ∧ r = some (.int (vA p (mentry P.2.2.2 v q P.2.2.2.length)))) (fun _ _ => False) 0 0 X 9 [(0, .ref m), (1, .int (nI p)), (2, .int (nI v)), (3, .int (nI q)), (4, .int (vA p (mentry P.2.2.2 v q i))), (5, .int (nI (16 * p + i)))] [] := by
  obtain ⟨h0, a1, a2, a3, a4, a5, a6, a7, a8, a9, a10, a11, a12, a13, a14, a15, a16, a17, a18, a19, a20, a21, a22, a23, a24, a25, a26, a27, a28, a29⟩ := h.all
  obtain ⟨⟨o1, o2, o3, o4, o5⟩, -, -, -, e4, e6⟩ := id hP
  intro j
  induction j with
  | zero =>
    intro i hij
    have hi : i = P.2.2.2.length := by omega
    subst hi
    refine v_iload i_M_entryOf_9 rfl ?_
    refine v_bipush (v := 16) i_M_entryOf_11 rfl ?_
    refine v_iload_n i_M_entryOf_13 rfl ?_
    refine v_imul i_M_entryOf_14 ?_
    refine v_aload_n i_M_entryOf_15 rfl ?_
    refine v_get B i_M_entryOf_16 (by first | assumption | exact qset_self _ _ _ | (rw [qset_ne _ _ (by omega)]; first | assumption | exact qset_self _ _ _ | (rw [qset_ne _ _ (by omega)]; first | assumption | exact qset_self _ _ _ | (rw [qset_ne _ _ (by omega)]; first | assumption | exact qset_self _ _ _ | (rw [qset_ne _ _ (by omega)]; first | assumption | exact qset_self _ _ _ | (rw [qset_ne _ _ (by omega)]; first | assumption | exact qset_self _ _ _ | (rw [qset_ne _ _ (by omega)]; first | assumption | exact qset_self _ _ _))))))) rfl ?_
    refine v_iload_n i_M_entryOf_19 rfl ?_
    refine v_iald B (by first | assumption | exact qset_self _ _ _ | (rw [qset_ne _ _ (by omega)]; first | assumption | exact qset_self _ _ _ | (rw [qset_ne _ _ (by omega)]; first | assumption | exact qset_self _ _ _ | (rw [qset_ne _ _ (by omega)]; first | assumption | exact qset_self _ _ _ | (rw [qset_ne _ _ (by omega)]; first | assumption | exact qset_self _ _ _ | (rw [qset_ne _ _ (by omega)]; first | assumption | exact qset_self _ _ _ | (rw [qset_ne _ _ (by omega)]; first | assumption | exact qset_self _ _ _))))))) rfl (by omega) (by omega) i_M_entryOf_20 ?_
    rw [n16, e4]
    refine v_iadd i_M_entryOf_21 ?_
    rw [nI_add]
    refine v_icmp_ge (tgt := 63) i_M_entryOf_22 rfl (fun h22 => ?_) (fun h22 => ?_)
    · refine v_iload i_M_entryOf_63 rfl ?_
      exact v_iret i_M_entryOf_65 rfl (by decide) (by decide) ⟨rfl, rfl⟩
    · exact absurd (nI_le (by omega) (by omega)) h22
  | succ j ih =>
    intro i hij
    obtain ⟨-, -, -, k4⟩ := e6 i (by omega)
    have tail : ∀ b : Option Nat, (mentry P.2.2.2 v q (i + 1)) = b → qV l s0 C m_M_entryOf rm_M_entryOf (fun r X' => X = X' ∧ r = some (.int (vA p (mentry P.2.2.2 v q P.2.2.2.length)))) (fun _ _ => False) 0 0 X 57 [(0, .ref m), (1, .int (nI p)), (2, .int (nI v)), (3, .int (nI q)), (4, .int (vA p b)), (5, .int (nI (16 * p + i)))] [] := by
      intro b hb
      refine v_iinc (v := nI (16 * p + (i + 1))) i_M_entryOf_57 rfl (nI_1 _) (by decide) rfl ?_
      refine v_goto (tgt := 9) i_M_entryOf_60 rfl ?_
      exact v_loc [(0, .ref m), (1, .int (nI p)), (2, .int (nI v)), (3, .int (nI q)), (4, .int (vA p (mentry P.2.2.2 v q (i + 1)))), (5, .int (nI (16 * p + (i + 1))))] (by rw [hb]; rfl) (ih (i + 1) (by omega))
    have keep : ¬ (alv (en P.2.2.2 i) v = true ∧ (en P.2.2.2 i).2.2.2 = lN q) → qV l s0 C m_M_entryOf rm_M_entryOf (fun r X' => X = X' ∧ r = some (.int (vA p (mentry P.2.2.2 v q P.2.2.2.length)))) (fun _ _ => False) 0 0 X 53 [(0, .ref m), (1, .int (nI p)), (2, .int (nI v)), (3, .int (nI q)), (4, .int (vA p (mentry P.2.2.2 v q i))), (5, .int (nI (16 * p + i)))] [] := by
      intro hn
      refine v_iload i_M_entryOf_53 rfl ?_
      refine v_istore i_M_entryOf_55 (by decide) rfl ?_
      exact v_loc [(0, .ref m), (1, .int (nI p)), (2, .int (nI v)), (3, .int (nI q)), (4, .int (vA p (mentry P.2.2.2 v q i))), (5, .int (nI (16 * p + i)))] rfl (tail _ (by rw [mentry, if_neg hn]))
    refine v_iload i_M_entryOf_9 rfl ?_
    refine v_bipush (v := 16) i_M_entryOf_11 rfl ?_
    refine v_iload_n i_M_entryOf_13 rfl ?_
    refine v_imul i_M_entryOf_14 ?_
    refine v_aload_n i_M_entryOf_15 rfl ?_
    refine v_get B i_M_entryOf_16 (by first | assumption | exact qset_self _ _ _ | (rw [qset_ne _ _ (by omega)]; first | assumption | exact qset_self _ _ _ | (rw [qset_ne _ _ (by omega)]; first | assumption | exact qset_self _ _ _ | (rw [qset_ne _ _ (by omega)]; first | assumption | exact qset_self _ _ _ | (rw [qset_ne _ _ (by omega)]; first | assumption | exact qset_self _ _ _ | (rw [qset_ne _ _ (by omega)]; first | assumption | exact qset_self _ _ _ | (rw [qset_ne _ _ (by omega)]; first | assumption | exact qset_self _ _ _))))))) rfl ?_
    refine v_iload_n i_M_entryOf_19 rfl ?_
    refine v_iald B (by first | assumption | exact qset_self _ _ _ | (rw [qset_ne _ _ (by omega)]; first | assumption | exact qset_self _ _ _ | (rw [qset_ne _ _ (by omega)]; first | assumption | exact qset_self _ _ _ | (rw [qset_ne _ _ (by omega)]; first | assumption | exact qset_self _ _ _ | (rw [qset_ne _ _ (by omega)]; first | assumption | exact qset_self _ _ _ | (rw [qset_ne _ _ (by omega)]; first | assumption | exact qset_self _ _ _ | (rw [qset_ne _ _ (by omega)]; first | assumption | exact qset_self _ _ _))))))) rfl (by omega) (by omega) i_M_entryOf_20 ?_
    rw [n16, e4]
    refine v_iadd i_M_entryOf_21 ?_
    rw [nI_add]
    refine v_icmp_ge (tgt := 63) i_M_entryOf_22 rfl (fun h22 => ?_) (fun h22 => ?_)
    · exact absurd h22 (nI_ge (by omega) (by omega))
    refine v_aload_n i_M_entryOf_25 rfl ?_
    refine v_iload i_M_entryOf_26 rfl ?_
    refine v_iload_n i_M_entryOf_28 rfl ?_
    refine v_inv B i_M_entryOf_29 kn_m_M_isAlive (c_M_isAlive B h hP hp (i := i) (by omega) hv) h0 rfl rfl (Nat.le_of_ble_eq_true rfl) ⟨by decide, by decide, by first | decide | (simp; omega), by first | decide | (simp; omega)⟩ rfl (fun r X' hq => ?_) (fun _ _ h => False.elim h)
    obtain ⟨rfl, rfl⟩ := hq
    refine v_if_eq (tgt := 53) i_M_entryOf_32 rfl (fun h32 => ?_) (fun h32 => ?_)
    · exact keep (fun z => by rw [bI_0.mp h32] at z; exact absurd z.1 (by decide))
    have ha := bI_ne h32
    refine v_aload_n i_M_entryOf_35 rfl ?_
    refine v_get B i_M_entryOf_36 (by first | assumption | exact qset_self _ _ _ | (rw [qset_ne _ _ (by omega)]; first | assumption | exact qset_self _ _ _ | (rw [qset_ne _ _ (by omega)]; first | assumption | exact qset_self _ _ _ | (rw [qset_ne _ _ (by omega)]; first | assumption | exact qset_self _ _ _ | (rw [qset_ne _ _ (by omega)]; first | assumption | exact qset_self _ _ _ | (rw [qset_ne _ _ (by omega)]; first | assumption | exact qset_self _ _ _ | (rw [qset_ne _ _ (by omega)]; first | assumption | exact qset_self _ _ _))))))) rfl ?_
    refine v_iload i_M_entryOf_39 rfl ?_
    refine v_lald B (by first | assumption | exact qset_self _ _ _ | (rw [qset_ne _ _ (by omega)]; first | assumption | exact qset_self _ _ _ | (rw [qset_ne _ _ (by omega)]; first | assumption | exact qset_self _ _ _ | (rw [qset_ne _ _ (by omega)]; first | assumption | exact qset_self _ _ _ | (rw [qset_ne _ _ (by omega)]; first | assumption | exact qset_self _ _ _ | (rw [qset_ne _ _ (by omega)]; first | assumption | exact qset_self _ _ _ | (rw [qset_ne _ _ (by omega)]; first | assumption | exact qset_self _ _ _))))))) rfl (by omega) (by omega) i_M_entryOf_41 ?_
    refine v_iload_n i_M_entryOf_42 rfl ?_
    refine v_i2l i_M_entryOf_43 ?_
    rw [k4, nI_l (by omega)]
    refine v_lcmp i_M_entryOf_44 ?_
    refine v_if_ne (tgt := 53) i_M_entryOf_45 rfl (fun h45 => ?_) (fun h45 => ?_)
    · exact keep (fun z => h45 (lcmp_eq.mpr z.2))
    · refine v_iload i_M_entryOf_48 rfl ?_
      refine v_goto (tgt := 55) i_M_entryOf_50 rfl ?_
      refine v_istore i_M_entryOf_55 (by decide) rfl ?_
      exact v_loc [(0, .ref m), (1, .int (nI p)), (2, .int (nI v)), (3, .int (nI q)), (4, .int (vA p (some i))), (5, .int (nI (16 * p + i)))] rfl (tail (some i) (by rw [mentry, if_pos ⟨ha, lcmp_eq.mp h45⟩]))
theorem c_M_entryOf (B : qB l s0 C) (h : MAt X m s I J) {p v q : Nat} {P : Pg} (hP : mPg I J p P) (hp : p < 512) (hv : v < 2 ^ 30) (hq0 : q < 512) : qMet l s0 C m_M_entryOf rm_M_entryOf [.ref m, .int (nI p), .int (nI v), .int (nI q)] X (fun r X' => X = X' ∧ r = some (.int (vA p (mentry P.2.2.2 v q P.2.2.2.length)))) (fun _ _ => False) := by
  refine q_of (by decide +kernel) (Nat.le_of_ble_eq_true rfl) ?_
  refine v_L (L' := [(0, .ref m), (1, .int (nI p)), (2, .int (nI v)), (3, .int (nI q))]) rfl ?_
  refine v_iconst (v := (-1)) i_M_entryOf_0 rfl ?_
  refine v_istore i_M_entryOf_1 (by decide) rfl ?_
  refine v_bipush (v := 16) i_M_entryOf_3 rfl ?_
  refine v_iload_n i_M_entryOf_5 rfl ?_
  refine v_imul i_M_entryOf_6 ?_
  rw [n16]
  refine v_istore i_M_entryOf_7 (by decide) rfl ?_
  exact v_loc [(0, .ref m), (1, .int (nI p)), (2, .int (nI v)), (3, .int (nI q)), (4, .int (vA p (mentry P.2.2.2 v q 0))), (5, .int (nI (16 * p + 0)))] rfl (c_M_entryOf_loop B h hP hp hv hq0 _ 0 (Nat.zero_add _))
end MF
