/-! THE DISK: the log's blocks (how many records, spoiled), blocks written, the version kept, the cut, whether down; an object at d, its arrays at d + 1, d + 2 -/
abbrev Lg : Type := List (Nat × Bool)
abbrev Dk : Type := Lg × Nat × Nat × Option Nat × Bool
def lg (b : Lg) (i : Nat) : Nat × Bool := b.getD i (0, false)
def DkAt (X : qX) (d : Nat) (D : Dk) : Prop :=
  X.1 d = some (.inr (0, [.ref (d + 1), .ref (d + 2), .int (nI D.1.length), .int (nI D.2.1), .int (nI D.2.2.1), .int (vO D.2.2.2.1), .int (bI D.2.2.2.2)])) ∧ D.1.length ≤ 40 ∧ D.2.2.1 < 2 ^ 30 ∧ oLt D.2.2.2.1 (2 ^ 31) ∧
  ∃ (fr fs : Nat → Int32), X.1 (d + 1) = some (.inl (0, 40, .inl fr)) ∧ X.1 (d + 2) = some (.inl (2, 40, .inl fs)) ∧ ∀ i, i < D.1.length → fr i = nI (lg D.1 i).1 ∧ fs i = bI (lg D.1 i).2
theorem DkAt.same {X X' : qX} {d lo hi : Nat} {D : Dk} (h : DkAt X d D) (hs : qSame X X' lo hi) (hd : d + 3 ≤ lo ∨ hi ≤ d) : DkAt X' d D := by
  obtain ⟨h1, h2, h3, h4, fr, fs, h5, h6, h7⟩ := h
  exact ⟨by rw [hs.2 d (by omega)]; exact h1, h2, h3, h4, fr, fs, by rw [hs.2 (d + 1) (by omega)]; exact h5, by rw [hs.2 (d + 2) (by omega)]; exact h6, h7⟩
def dsn (b : Lg) : Nat → Nat
  | 0 => 0
  | n + 1 => dsn b n + (lg b n).1
/-- the latest version that is on the disk -/
def dlat (D : Dk) : Nat := D.2.2.1 + dsn D.1 D.1.length
/-- one block is to be written -/
def dwr (D : Dk) : Bool × Dk := if D.2.2.2.1 = some 0 then (false, D.1, D.2.1, D.2.2.1, D.2.2.2.1, true) else (true, D.1, D.2.1 + 1, D.2.2.1, D.2.2.2.1.map (fun t => t - 1), D.2.2.2.2)
/-- records are written: w in all, j blocks to go, n done -/
def dws (w : Nat) : Nat → Nat → Dk → Nat × Dk
  | 0, n, D => (n, D)
  | j + 1, n, D => if (dwr D).1 = true then dws w j (n + 1) ((dwr D).2.1 ++ [(min 4 (w - 4 * n), false)], (dwr D).2.2) else (n, (dwr D).2)
/-- pages are written: j blocks to go -/
def dwp : Nat → Nat → Dk → Bool × Nat × Dk
  | 0, n, D => (true, n, D)
  | j + 1, n, D => if (dwr D).1 = true then dwp j (n + 1) (dwr D).2 else (false, n, (dwr D).2)
/-- a checkpoint: pages that are dirty, the latest version -/
def dck (D : Dk) (dirty lat : Nat) : Nat × Dk := match dwp dirty 0 D with
  | (false, n, D') => (n, D')
  | (true, _, D') => if (dwr D').1 = true then (dirty + 1, [], (dwr D').2.2.1, lat, (dwr D').2.2.2.2) else (dirty, (dwr D').2)
def dgd (b : Lg) : Nat → Nat → Nat
  | 0, i => i
  | j + 1, i => if (lg b i).2 = true then i else dgd b j (i + 1)
def dup (D : Dk) : Dk := (D.1.take (dgd D.1 D.1.length 0), D.2.1, D.2.2.1, none, false)
theorem dgd_le (b : Lg) : ∀ j i, dgd b j i ≤ i + j
  | 0, i => Nat.le_refl _
  | j + 1, i => by
    unfold dgd
    split
    · omega
    · have := dgd_le b j (i + 1); omega
theorem lg_app (b : Lg) (e : Nat × Bool) (i : Nat) : lg (b ++ [e]) i = if i < b.length then lg b i else if i = b.length then e else (0, false) := by
  simp only [lg, List.getD_eq_getElem?_getD]
  by_cases h : i < b.length
  · rw [if_pos h, List.getElem?_append_left h]
  · rw [if_neg h, List.getElem?_append_right (by omega)]
    by_cases h2 : i = b.length
    · subst h2; simp
    · rw [if_neg h2, List.getElem?_eq_none (by simp; omega)]; rfl
theorem lg_set (b : Lg) (j : Nat) (e : Nat × Bool) (i : Nat) (hj : j < b.length) : lg (b.set j e) i = if i = j then e else lg b i := by
  simp only [lg, List.getD_eq_getElem?_getD]
  by_cases h : i = j
  · subst h; rw [if_pos rfl, List.getElem?_set_self hj]; rfl
  · rw [if_neg h, List.getElem?_set_ne (Ne.symm h)]
theorem lg_take (b : Lg) (n i : Nat) (h : i < n) : lg (b.take n) i = lg b i := by
  simp only [lg, List.getD_eq_getElem?_getD, List.getElem?_take, if_pos h]
section DK
variable {l : Launch} {s0 : State} {C : qC} {X : qX} {d : Nat} {D : Dk}
theorem c_D_latestOnDisk_loop (B : qB l s0 C) (h : DkAt X d D) : ∀ (j i : Nat), i + j = D.1.length →
      qV l s0 C m_D_latestOnDisk rm_D_latestOnDisk (fun r X' => X = X' ∧ r = some (.int (nI (dlat D)))) (fun _ _ => False) 0 0 X 7 [(0, .ref d), (1, .int (nI (D.2.2.1 + dsn D.1 i))), (2, .int (nI i))] [] := by
  obtain ⟨h0, hl, hk, hc, fr, fs, hr, hsp, hg⟩ := h
  intro j
  induction j with
  | zero =>
    intro i hi
    refine v_iload_n i_D_latestOnDisk_7 rfl ?_
    refine v_aload_n i_D_latestOnDisk_8 rfl ?_
    refine v_get B i_D_latestOnDisk_9 (by first | assumption | exact qset_self _ _ _ | (rw [qset_ne _ _ (by omega)]; first | assumption | exact qset_self _ _ _ | (rw [qset_ne _ _ (by omega)]; first | assumption | exact qset_self _ _ _ | (rw [qset_ne _ _ (by omega)]; first | assumption | exact qset_self _ _ _ | (rw [qset_ne _ _ (by omega)]; first | assumption | exact qset_self _ _ _ | (rw [qset_ne _ _ (by omega)]; first | assumption | exact qset_self _ _ _ | (rw [qset_ne _ _ (by omega)]; first | assumption | exact qset_self _ _ _))))))) rfl ?_
    refine v_icmp_ge (tgt := 30) i_D_latestOnDisk_12 rfl (fun h12 => ?_) (fun h12 => ?_)
    · refine v_iload_n i_D_latestOnDisk_30 rfl ?_
      refine v_iret i_D_latestOnDisk_31 rfl (by decide) (by decide) ⟨rfl, ?_⟩
      rw [dlat, show i = D.1.length by omega]
    · exact absurd (nI_le (by omega) (by omega)) h12
  | succ j ih =>
    intro i hi
    refine v_iload_n i_D_latestOnDisk_7 rfl ?_
    refine v_aload_n i_D_latestOnDisk_8 rfl ?_
    refine v_get B i_D_latestOnDisk_9 (by first | assumption | exact qset_self _ _ _ | (rw [qset_ne _ _ (by omega)]; first | assumption | exact qset_self _ _ _ | (rw [qset_ne _ _ (by omega)]; first | assumption | exact qset_self _ _ _ | (rw [qset_ne _ _ (by omega)]; first | assumption | exact qset_self _ _ _ | (rw [qset_ne _ _ (by omega)]; first | assumption | exact qset_self _ _ _ | (rw [qset_ne _ _ (by omega)]; first | assumption | exact qset_self _ _ _ | (rw [qset_ne _ _ (by omega)]; first | assumption | exact qset_self _ _ _))))))) rfl ?_
    refine v_icmp_ge (tgt := 30) i_D_latestOnDisk_12 rfl (fun h12 => ?_) (fun h12 => ?_)
    · exact absurd h12 (nI_ge (by omega) (by omega))
    refine v_iload_n i_D_latestOnDisk_15 rfl ?_
    refine v_aload_n i_D_latestOnDisk_16 rfl ?_
    refine v_get B i_D_latestOnDisk_17 (by first | assumption | exact qset_self _ _ _ | (rw [qset_ne _ _ (by omega)]; first | assumption | exact qset_self _ _ _ | (rw [qset_ne _ _ (by omega)]; first | assumption | exact qset_self _ _ _ | (rw [qset_ne _ _ (by omega)]; first | assumption | exact qset_self _ _ _ | (rw [qset_ne _ _ (by omega)]; first | assumption | exact qset_self _ _ _ | (rw [qset_ne _ _ (by omega)]; first | assumption | exact qset_self _ _ _ | (rw [qset_ne _ _ (by omega)]; first | assumption | exact qset_self _ _ _))))))) rfl ?_
    refine v_iload_n i_D_latestOnDisk_20 rfl ?_
    refine v_iald B (by first | assumption | exact qset_self _ _ _ | (rw [qset_ne _ _ (by omega)]; first | assumption | exact qset_self _ _ _ | (rw [qset_ne _ _ (by omega)]; first | assumption | exact qset_self _ _ _ | (rw [qset_ne _ _ (by omega)]; first | assumption | exact qset_self _ _ _ | (rw [qset_ne _ _ (by omega)]; first | assumption | exact qset_self _ _ _ | (rw [qset_ne _ _ (by omega)]; first | assumption | exact qset_self _ _ _ | (rw [qset_ne _ _ (by omega)]; first | assumption | exact qset_self _ _ _))))))) rfl (by omega) (by omega) i_D_latestOnDisk_21 ?_
    refine v_iadd i_D_latestOnDisk_22 ?_
    refine v_istore_n i_D_latestOnDisk_23 (by decide) rfl ?_
    refine v_iinc (v := nI (i + 1)) i_D_latestOnDisk_24 rfl (nI_1 i) (by decide) rfl ?_
    refine v_goto (tgt := 7) i_D_latestOnDisk_27 rfl ?_
    refine v_loc [(0, .ref d), (1, .int (nI (D.2.2.1 + dsn D.1 (i + 1)))), (2, .int (nI (i + 1)))] ?_ (ih (i + 1) (by omega))
    rw [(hg i (by omega)).1, nI_add, dsn, ← Nat.add_assoc]
    rfl
theorem c_D_latestOnDisk (B : qB l s0 C) (h : DkAt X d D) : qMet l s0 C m_D_latestOnDisk rm_D_latestOnDisk [.ref d] X (fun r X' => X = X' ∧ r = some (.int (nI (dlat D)))) (fun _ _ => False) := by
  obtain ⟨h0, hl, hk, hc, -⟩ := id h
  refine q_of (by decide +kernel) (Nat.le_of_ble_eq_true rfl) ?_
  refine v_L (L' := [(0, .ref d)]) rfl ?_
  refine v_aload_n i_D_latestOnDisk_0 rfl ?_
  refine v_get B i_D_latestOnDisk_1 (by first | assumption | exact qset_self _ _ _ | (rw [qset_ne _ _ (by omega)]; first | assumption | exact qset_self _ _ _ | (rw [qset_ne _ _ (by omega)]; first | assumption | exact qset_self _ _ _ | (rw [qset_ne _ _ (by omega)]; first | assumption | exact qset_self _ _ _ | (rw [qset_ne _ _ (by omega)]; first | assumption | exact qset_self _ _ _ | (rw [qset_ne _ _ (by omega)]; first | assumption | exact qset_self _ _ _ | (rw [qset_ne _ _ (by omega)]; first | assumption | exact qset_self _ _ _))))))) rfl ?_
  refine v_istore_n i_D_latestOnDisk_4 (by decide) rfl ?_
  refine v_iconst (v := 0) i_D_latestOnDisk_5 rfl ?_
  refine v_istore_n i_D_latestOnDisk_6 (by decide) rfl ?_
  refine v_loc [(0, .ref d), (1, .int (nI (D.2.2.1 + dsn D.1 0))), (2, .int (nI 0))] rfl ?_
  exact c_D_latestOnDisk_loop B h _ 0 (Nat.zero_add _)
theorem c_D_blocksFor (w : Nat) (hw : w < 2 ^ 30) : qMet l s0 C m_D_blocksFor rm_D_blocksFor [.int (nI w)] X (fun r X' => X = X' ∧ r = some (.int (nI ((w + 3) / 4)))) (fun _ _ => False) := by
  refine q_of (by decide +kernel) (Nat.le_of_ble_eq_true rfl) ?_
  refine v_L (L' := [(0, .int (nI w))]) rfl ?_
  refine v_iload_n i_D_blocksFor_0 rfl ?_
  refine v_iconst (v := 4) i_D_blocksFor_1 rfl ?_
  refine v_iadd i_D_blocksFor_2 ?_
  refine v_iconst (v := 1) i_D_blocksFor_3 rfl ?_
  refine v_isub i_D_blocksFor_4 ?_
  refine v_iconst (v := 4) i_D_blocksFor_5 rfl ?_
  refine v_idiv i_D_blocksFor_6 (by decide) ?_
  refine v_iret i_D_blocksFor_7 rfl (by decide) (by decide) ⟨rfl, ?_⟩
  rw [show nI w + 4 = nI (w + 4) from nI_add w 4, show nI (w + 4) - 1 = nI (w + 3) from nI_pred (w + 3), show (4 : Int32) = nI 4 from rfl, pk_div (by omega) (by omega) (by omega)]
theorem c_D_hasRoomFor (B : qB l s0 C) (h : DkAt X d D) (w : Nat) (hw : w < 2 ^ 30) : qMet l s0 C m_D_hasRoomFor rm_D_hasRoomFor [.ref d, .int (nI w)] X (fun r X' => X = X' ∧ r = some (.int (bI (decide (D.1.length + (w + 3) / 4 ≤ 40))))) (fun _ _ => False) := by
  obtain ⟨h0, hl, hk, hc, -⟩ := h
  refine q_of (by decide +kernel) (Nat.le_of_ble_eq_true rfl) ?_
  refine v_L (L' := [(0, .ref d), (1, .int (nI w))]) rfl ?_
  refine v_iload_n i_D_hasRoomFor_0 rfl ?_
  refine v_invS B i_D_hasRoomFor_1 kn_m_D_blocksFor (c_D_blocksFor w hw) rfl rfl (Nat.le_of_ble_eq_true rfl) ⟨by decide, by decide, by first | decide | (simp; omega), by first | decide | (simp; omega)⟩ rfl (fun r X' hq => ?_) (fun _ _ h => False.elim h)
  obtain ⟨rfl, rfl⟩ := hq
  refine v_bipush (v := 40) i_D_hasRoomFor_4 rfl ?_
  refine v_aload_n i_D_hasRoomFor_6 rfl ?_
  refine v_get B i_D_hasRoomFor_7 (by first | assumption | exact qset_self _ _ _ | (rw [qset_ne _ _ (by omega)]; first | assumption | exact qset_self _ _ _ | (rw [qset_ne _ _ (by omega)]; first | assumption | exact qset_self _ _ _ | (rw [qset_ne _ _ (by omega)]; first | assumption | exact qset_self _ _ _ | (rw [qset_ne _ _ (by omega)]; first | assumption | exact qset_self _ _ _ | (rw [qset_ne _ _ (by omega)]; first | assumption | exact qset_self _ _ _ | (rw [qset_ne _ _ (by omega)]; first | assumption | exact qset_self _ _ _))))))) rfl ?_
  refine v_isub i_D_hasRoomFor_10 ?_
  rw [show (40 : Int32) = nI 40 from rfl, pk_sub (by omega)]
  refine v_icmp_gt (tgt := 18) i_D_hasRoomFor_11 rfl (fun h11 => ?_) (fun h11 => ?_)
  · refine v_iconst (v := 0) i_D_hasRoomFor_18 rfl ?_
    refine v_zret i_D_hasRoomFor_19 rfl (Or.inl rfl) (by decide) (by decide) ⟨rfl, ?_⟩
    have := (nI_ltI (by omega) (by omega)).mp h11
    simp [bI]; omega
  · refine v_iconst (v := 1) i_D_hasRoomFor_14 rfl ?_
    refine v_goto (tgt := 19) i_D_hasRoomFor_15 rfl ?_
    refine v_zret i_D_hasRoomFor_19 rfl (Or.inr rfl) (by decide) (by decide) ⟨rfl, ?_⟩
    have : ¬ 40 - D.1.length < (w + 3) / 4 := fun q => h11 (nI_lt q (by omega))
    simp [bI]; omega
theorem c_D_writeBlock (B : qB l s0 C) (h : DkAt X d D) : qMet l s0 C m_D_writeBlock rm_D_writeBlock [.ref d] X (fun r X' => r = some (.int (bI (dwr D).1)) ∧ DkAt X' d (dwr D).2 ∧ qSame X X' d (d + 3)) (fun _ _ => False) := by
  obtain ⟨h0, hl, hk, hc, fr, fs, hr, hsp, hg⟩ := h
  refine q_of (by decide +kernel) (Nat.le_of_ble_eq_true rfl) ?_
  refine v_L (L' := [(0, .ref d)]) rfl ?_
  refine v_aload_n i_D_writeBlock_0 rfl ?_
  refine v_get B i_D_writeBlock_1 (by first | assumption | exact qset_self _ _ _ | (rw [qset_ne _ _ (by omega)]; first | assumption | exact qset_self _ _ _ | (rw [qset_ne _ _ (by omega)]; first | assumption | exact qset_self _ _ _ | (rw [qset_ne _ _ (by omega)]; first | assumption | exact qset_self _ _ _ | (rw [qset_ne _ _ (by omega)]; first | assumption | exact qset_self _ _ _ | (rw [qset_ne _ _ (by omega)]; first | assumption | exact qset_self _ _ _ | (rw [qset_ne _ _ (by omega)]; first | assumption | exact qset_self _ _ _))))))) rfl ?_
  have fin : ∀ c' : Option Nat, ¬ D.2.2.2.1 = some 0 → D.2.2.2.1.map (fun t => t - 1) = c' → oLt c' (2 ^ 31) → qV l s0 C m_D_writeBlock rm_D_writeBlock (fun r X' => r = some (.int (bI (dwr D).1)) ∧ DkAt X' d (dwr D).2 ∧ qSame X X' d (d + 3)) (fun _ _ => False) 0 0 X 32 [(0, .ref d)] [.int (vO c'), .ref d] := by
    intro c' hne hc' hlt
    refine v_put B i_D_writeBlock_32 (by first | assumption | exact qset_self _ _ _ | (rw [qset_ne _ _ (by omega)]; first | assumption | exact qset_self _ _ _ | (rw [qset_ne _ _ (by omega)]; first | assumption | exact qset_self _ _ _ | (rw [qset_ne _ _ (by omega)]; first | assumption | exact qset_self _ _ _ | (rw [qset_ne _ _ (by omega)]; first | assumption | exact qset_self _ _ _ | (rw [qset_ne _ _ (by omega)]; first | assumption | exact qset_self _ _ _ | (rw [qset_ne _ _ (by omega)]; first | assumption | exact qset_self _ _ _))))))) (Nat.le_of_ble_eq_true rfl) rfl rfl ?_
    refine v_aload_n i_D_writeBlock_35 rfl ?_
    refine v_dup i_D_writeBlock_36 rfl ?_
    refine v_get B i_D_writeBlock_37 (by first | assumption | exact qset_self _ _ _ | (rw [qset_ne _ _ (by omega)]; first | assumption | exact qset_self _ _ _ | (rw [qset_ne _ _ (by omega)]; first | assumption | exact qset_self _ _ _ | (rw [qset_ne _ _ (by omega)]; first | assumption | exact qset_self _ _ _ | (rw [qset_ne _ _ (by omega)]; first | assumption | exact qset_self _ _ _ | (rw [qset_ne _ _ (by omega)]; first | assumption | exact qset_self _ _ _ | (rw [qset_ne _ _ (by omega)]; first | assumption | exact qset_self _ _ _))))))) rfl ?_
    refine v_iconst (v := 1) i_D_writeBlock_40 rfl ?_
    refine v_iadd i_D_writeBlock_41 ?_
    refine v_put B i_D_writeBlock_42 (by first | assumption | exact qset_self _ _ _ | (rw [qset_ne _ _ (by omega)]; first | assumption | exact qset_self _ _ _ | (rw [qset_ne _ _ (by omega)]; first | assumption | exact qset_self _ _ _ | (rw [qset_ne _ _ (by omega)]; first | assumption | exact qset_self _ _ _ | (rw [qset_ne _ _ (by omega)]; first | assumption | exact qset_self _ _ _ | (rw [qset_ne _ _ (by omega)]; first | assumption | exact qset_self _ _ _ | (rw [qset_ne _ _ (by omega)]; first | assumption | exact qset_self _ _ _))))))) (Nat.le_of_ble_eq_true rfl) rfl rfl ?_
    refine v_iconst (v := 1) i_D_writeBlock_45 rfl ?_
    refine v_zret i_D_writeBlock_46 rfl (Or.inr rfl) (by decide) (by decide) ⟨?_, ?_, ((qSame.rf X d (d + 3)).set _ (by omega) (by omega)).set _ (by omega) (by omega)⟩
    · rw [dwr, if_neg hne]; rfl
    · rw [dwr, if_neg hne]
      refine ⟨?_, hl, hk, ?_, fr, fs, (by first | assumption | exact qset_self _ _ _ | (rw [qset_ne _ _ (by omega)]; first | assumption | exact qset_self _ _ _ | (rw [qset_ne _ _ (by omega)]; first | assumption | exact qset_self _ _ _ | (rw [qset_ne _ _ (by omega)]; first | assumption | exact qset_self _ _ _ | (rw [qset_ne _ _ (by omega)]; first | assumption | exact qset_self _ _ _ | (rw [qset_ne _ _ (by omega)]; first | assumption | exact qset_self _ _ _ | (rw [qset_ne _ _ (by omega)]; first | assumption | exact qset_self _ _ _))))))), (by first | assumption | exact qset_self _ _ _ | (rw [qset_ne _ _ (by omega)]; first | assumption | exact qset_self _ _ _ | (rw [qset_ne _ _ (by omega)]; first | assumption | exact qset_self _ _ _ | (rw [qset_ne _ _ (by omega)]; first | assumption | exact qset_self _ _ _ | (rw [qset_ne _ _ (by omega)]; first | assumption | exact qset_self _ _ _ | (rw [qset_ne _ _ (by omega)]; first | assumption | exact qset_self _ _ _ | (rw [qset_ne _ _ (by omega)]; first | assumption | exact qset_self _ _ _))))))), hg⟩
      · rw [qset_self]
        show _ = some (Sum.inr (0, [Value.ref (d + 1), Value.ref (d + 2), Value.int (nI D.1.length), Value.int (nI (D.2.1 + 1)), Value.int (nI D.2.2.1), Value.int (vO (D.2.2.2.1.map (fun t => t - 1))), Value.int (bI D.2.2.2.2)]))
        rw [hc', nI_succ]
        rfl
      · show oLt (D.2.2.2.1.map (fun t => t - 1)) _
        rw [hc']; exact hlt
  cases hcut : D.2.2.2.1 with
  | none =>
    rw [hcut] at fin h0
    refine v_if_ne (tgt := 14) i_D_writeBlock_4 rfl (fun h4 => ?_) (fun h4 => ?_)
    · refine v_aload_n i_D_writeBlock_14 rfl ?_
      refine v_dup i_D_writeBlock_15 rfl ?_
      refine v_get B i_D_writeBlock_16 (by first | assumption | exact qset_self _ _ _ | (rw [qset_ne _ _ (by omega)]; first | assumption | exact qset_self _ _ _ | (rw [qset_ne _ _ (by omega)]; first | assumption | exact qset_self _ _ _ | (rw [qset_ne _ _ (by omega)]; first | assumption | exact qset_self _ _ _ | (rw [qset_ne _ _ (by omega)]; first | assumption | exact qset_self _ _ _ | (rw [qset_ne _ _ (by omega)]; first | assumption | exact qset_self _ _ _ | (rw [qset_ne _ _ (by omega)]; first | assumption | exact qset_self _ _ _))))))) rfl ?_
      refine v_aload_n i_D_writeBlock_19 rfl ?_
      refine v_get B i_D_writeBlock_20 (by first | assumption | exact qset_self _ _ _ | (rw [qset_ne _ _ (by omega)]; first | assumption | exact qset_self _ _ _ | (rw [qset_ne _ _ (by omega)]; first | assumption | exact qset_self _ _ _ | (rw [qset_ne _ _ (by omega)]; first | assumption | exact qset_self _ _ _ | (rw [qset_ne _ _ (by omega)]; first | assumption | exact qset_self _ _ _ | (rw [qset_ne _ _ (by omega)]; first | assumption | exact qset_self _ _ _ | (rw [qset_ne _ _ (by omega)]; first | assumption | exact qset_self _ _ _))))))) rfl ?_
      refine v_if_le (tgt := 30) i_D_writeBlock_23 rfl (fun h23 => ?_) (fun h23 => ?_)
      · refine v_iconst (v := 0) i_D_writeBlock_30 rfl ?_
        refine v_isub i_D_writeBlock_31 ?_
        exact fin none (by simp) rfl (fun t ht => by cases ht)
      · exact absurd (by decide) h23
    · exact absurd h4 (by decide)
  | some t =>
    rw [hcut] at fin h0
    have ht := hc t hcut
    cases t with
    | zero =>
      refine v_if_ne (tgt := 14) i_D_writeBlock_4 rfl (fun h4 => ?_) (fun h4 => ?_)
      · exact absurd rfl h4
      · refine v_aload_n i_D_writeBlock_7 rfl ?_
        refine v_iconst (v := 1) i_D_writeBlock_8 rfl ?_
        refine v_put B i_D_writeBlock_9 (by first | assumption | exact qset_self _ _ _ | (rw [qset_ne _ _ (by omega)]; first | assumption | exact qset_self _ _ _ | (rw [qset_ne _ _ (by omega)]; first | assumption | exact qset_self _ _ _ | (rw [qset_ne _ _ (by omega)]; first | assumption | exact qset_self _ _ _ | (rw [qset_ne _ _ (by omega)]; first | assumption | exact qset_self _ _ _ | (rw [qset_ne _ _ (by omega)]; first | assumption | exact qset_self _ _ _ | (rw [qset_ne _ _ (by omega)]; first | assumption | exact qset_self _ _ _))))))) (Nat.le_of_ble_eq_true rfl) rfl rfl ?_
        refine v_iconst (v := 0) i_D_writeBlock_12 rfl ?_
        refine v_zret i_D_writeBlock_13 rfl (Or.inl rfl) (by decide) (by decide) ⟨?_, ?_, (qSame.rf X d (d + 3)).set _ (by omega) (by omega)⟩
        · rw [dwr, if_pos hcut]; rfl
        · rw [dwr, if_pos hcut]
          refine ⟨?_, hl, hk, hc, fr, fs, (by first | assumption | exact qset_self _ _ _ | (rw [qset_ne _ _ (by omega)]; first | assumption | exact qset_self _ _ _ | (rw [qset_ne _ _ (by omega)]; first | assumption | exact qset_self _ _ _ | (rw [qset_ne _ _ (by omega)]; first | assumption | exact qset_self _ _ _ | (rw [qset_ne _ _ (by omega)]; first | assumption | exact qset_self _ _ _ | (rw [qset_ne _ _ (by omega)]; first | assumption | exact qset_self _ _ _ | (rw [qset_ne _ _ (by omega)]; first | assumption | exact qset_self _ _ _))))))), (by first | assumption | exact qset_self _ _ _ | (rw [qset_ne _ _ (by omega)]; first | assumption | exact qset_self _ _ _ | (rw [qset_ne _ _ (by omega)]; first | assumption | exact qset_self _ _ _ | (rw [qset_ne _ _ (by omega)]; first | assumption | exact qset_self _ _ _ | (rw [qset_ne _ _ (by omega)]; first | assumption | exact qset_self _ _ _ | (rw [qset_ne _ _ (by omega)]; first | assumption | exact qset_self _ _ _ | (rw [qset_ne _ _ (by omega)]; first | assumption | exact qset_self _ _ _))))))), hg⟩
          rw [qset_self, hcut]
          rfl
    | succ t =>
      refine v_if_ne (tgt := 14) i_D_writeBlock_4 rfl (fun h4 => ?_) (fun h4 => ?_)
      · refine v_aload_n i_D_writeBlock_14 rfl ?_
        refine v_dup i_D_writeBlock_15 rfl ?_
        refine v_get B i_D_writeBlock_16 (by first | assumption | exact qset_self _ _ _ | (rw [qset_ne _ _ (by omega)]; first | assumption | exact qset_self _ _ _ | (rw [qset_ne _ _ (by omega)]; first | assumption | exact qset_self _ _ _ | (rw [qset_ne _ _ (by omega)]; first | assumption | exact qset_self _ _ _ | (rw [qset_ne _ _ (by omega)]; first | assumption | exact qset_self _ _ _ | (rw [qset_ne _ _ (by omega)]; first | assumption | exact qset_self _ _ _ | (rw [qset_ne _ _ (by omega)]; first | assumption | exact qset_self _ _ _))))))) rfl ?_
        refine v_aload_n i_D_writeBlock_19 rfl ?_
        refine v_get B i_D_writeBlock_20 (by first | assumption | exact qset_self _ _ _ | (rw [qset_ne _ _ (by omega)]; first | assumption | exact qset_self _ _ _ | (rw [qset_ne _ _ (by omega)]; first | assumption | exact qset_self _ _ _ | (rw [qset_ne _ _ (by omega)]; first | assumption | exact qset_self _ _ _ | (rw [qset_ne _ _ (by omega)]; first | assumption | exact qset_self _ _ _ | (rw [qset_ne _ _ (by omega)]; first | assumption | exact qset_self _ _ _ | (rw [qset_ne _ _ (by omega)]; first | assumption | exact qset_self _ _ _))))))) rfl ?_
        refine v_if_le (tgt := 30) i_D_writeBlock_23 rfl (fun h23 => ?_) (fun h23 => ?_)
        · exact absurd h23 (nI_nle (by omega) ht)
        · refine v_iconst (v := 1) i_D_writeBlock_26 rfl ?_
          refine v_goto (tgt := 31) i_D_writeBlock_27 rfl ?_
          refine v_isub i_D_writeBlock_31 ?_
          rw [show vO (some (t + 1)) - 1 = vO (some t) from nI_pred t]
          exact fin (some t) (by simp) rfl (fun q hq => by cases hq; omega)
      · exact absurd h4 (nI_ne0 (by omega) ht)
theorem dwr_len (D : Dk) : (dwr D).2.1 = D.1 := by
  unfold dwr; split <;> rfl
theorem c_D_writeRecords_loop (B : qB l s0 C) (w : Nat) (hw : w < 2 ^ 30) : ∀ (j n : Nat) (X' : qX) (D : Dk), n + j = (w + 3) / 4 → D.1.length + j ≤ 40 → DkAt X' d D → qSame X X' d (d + 3) →
      qV l s0 C m_D_writeRecords rm_D_writeRecords (fun r X'' => r = some (.int (nI (dws w j n D).1)) ∧ DkAt X'' d (dws w j n D).2 ∧ qSame X X'' d (d + 3)) (fun _ _ => False) 0 0 X' 7 [(0, .ref d), (1, .int (nI w)), (2, .int (nI ((w + 3) / 4))), (3, .int (nI n))] [] := by
  intro j
  induction j with
  | zero =>
    intro n X' D hn hl h hs
    refine v_iload_n i_D_writeRecords_7 rfl ?_
    refine v_iload_n i_D_writeRecords_8 rfl ?_
    refine v_icmp_ge (tgt := 74) i_D_writeRecords_9 rfl (fun h9 => ?_) (fun h9 => ?_)
    · refine v_iload_n i_D_writeRecords_74 rfl ?_
      refine v_iret i_D_writeRecords_75 rfl (by decide) (by decide) ⟨?_, h, hs⟩
      rw [← hn]; rfl
    · exact absurd (nI_le (by omega) (by omega)) h9
  | succ j ih =>
    intro n X' D hn hl h hs
    obtain ⟨h0, hl0, hk, hc, -⟩ := id h
    refine v_iload_n i_D_writeRecords_7 rfl ?_
    refine v_iload_n i_D_writeRecords_8 rfl ?_
    refine v_icmp_ge (tgt := 74) i_D_writeRecords_9 rfl (fun h9 => ?_) (fun h9 => ?_)
    · exact absurd h9 (nI_ge (by omega) (by omega))
    refine v_aload_n i_D_writeRecords_12 rfl ?_
    refine v_get B i_D_writeRecords_13 (by first | assumption | exact qset_self _ _ _ | (rw [qset_ne _ _ (by omega)]; first | assumption | exact qset_self _ _ _ | (rw [qset_ne _ _ (by omega)]; first | assumption | exact qset_self _ _ _ | (rw [qset_ne _ _ (by omega)]; first | assumption | exact qset_self _ _ _ | (rw [qset_ne _ _ (by omega)]; first | assumption | exact qset_self _ _ _ | (rw [qset_ne _ _ (by omega)]; first | assumption | exact qset_self _ _ _ | (rw [qset_ne _ _ (by omega)]; first | assumption | exact qset_self _ _ _))))))) rfl ?_
    refine v_bipush (v := 40) i_D_writeRecords_16 rfl ?_
    refine v_icmp_ge (tgt := 74) i_D_writeRecords_18 rfl (fun h18 => ?_) (fun h18 => ?_)
    · exact absurd h18 (nI_ge (a := D.1.length) (b := 40) (by omega) (by omega))
    refine v_aload_n i_D_writeRecords_21 rfl ?_
    refine v_inv B i_D_writeRecords_22 kn_m_D_writeBlock (c_D_writeBlock B h) (by first | assumption | exact qset_self _ _ _ | (rw [qset_ne _ _ (by omega)]; first | assumption | exact qset_self _ _ _ | (rw [qset_ne _ _ (by omega)]; first | assumption | exact qset_self _ _ _ | (rw [qset_ne _ _ (by omega)]; first | assumption | exact qset_self _ _ _ | (rw [qset_ne _ _ (by omega)]; first | assumption | exact qset_self _ _ _ | (rw [qset_ne _ _ (by omega)]; first | assumption | exact qset_self _ _ _ | (rw [qset_ne _ _ (by omega)]; first | assumption | exact qset_self _ _ _))))))) rfl rfl (Nat.le_of_ble_eq_true rfl) ⟨by decide, by decide, by first | decide | (simp; omega), by first | decide | (simp; omega)⟩ rfl (fun r X' hq => ?_) (fun _ _ h => False.elim h)
    obtain ⟨rfl, h2, hs2⟩ := hq
    have hs3 := hs.trans hs2
    cases hb : (dwr D).1 with
    | false =>
      refine v_if_ne (tgt := 30) i_D_writeRecords_25 rfl (fun h25 => ?_) (fun h25 => ?_)
      · exact absurd rfl h25
      · refine v_iload_n i_D_writeRecords_28 rfl ?_
        refine v_iret i_D_writeRecords_29 rfl (by decide) (by decide) ⟨?_, ?_, hs3⟩
        · rw [dws, if_neg (by rw [hb]; decide)]
        · rw [dws, if_neg (by rw [hb]; decide)]; exact h2
    | true =>
      refine v_if_ne (tgt := 30) i_D_writeRecords_25 rfl (fun h25 => ?_) (fun h25 => ?_)
      · rw [dws, if_pos hb]
        have hlen : (dwr D).2.1.length = D.1.length := by rw [dwr_len]
        generalize (dwr D).2 = D2 at h2 hlen ⊢
        obtain ⟨g0, gl, gk, gc, fr, fs, gr, gsp, gg⟩ := id h2
        refine v_aload_n i_D_writeRecords_30 rfl ?_
        refine v_get B i_D_writeRecords_31 (by first | assumption | exact qset_self _ _ _ | (rw [qset_ne _ _ (by omega)]; first | assumption | exact qset_self _ _ _ | (rw [qset_ne _ _ (by omega)]; first | assumption | exact qset_self _ _ _ | (rw [qset_ne _ _ (by omega)]; first | assumption | exact qset_self _ _ _ | (rw [qset_ne _ _ (by omega)]; first | assumption | exact qset_self _ _ _ | (rw [qset_ne _ _ (by omega)]; first | assumption | exact qset_self _ _ _ | (rw [qset_ne _ _ (by omega)]; first | assumption | exact qset_self _ _ _))))))) rfl ?_
        refine v_aload_n i_D_writeRecords_34 rfl ?_
        refine v_get B i_D_writeRecords_35 (by first | assumption | exact qset_self _ _ _ | (rw [qset_ne _ _ (by omega)]; first | assumption | exact qset_self _ _ _ | (rw [qset_ne _ _ (by omega)]; first | assumption | exact qset_self _ _ _ | (rw [qset_ne _ _ (by omega)]; first | assumption | exact qset_self _ _ _ | (rw [qset_ne _ _ (by omega)]; first | assumption | exact qset_self _ _ _ | (rw [qset_ne _ _ (by omega)]; first | assumption | exact qset_self _ _ _ | (rw [qset_ne _ _ (by omega)]; first | assumption | exact qset_self _ _ _))))))) rfl ?_
        refine v_iconst (v := 4) i_D_writeRecords_38 rfl ?_
        refine v_iload_n i_D_writeRecords_39 rfl ?_
        refine v_iload_n i_D_writeRecords_40 rfl ?_
        refine v_iconst (v := 4) i_D_writeRecords_41 rfl ?_
        refine v_imul i_D_writeRecords_42 ?_
        refine v_isub i_D_writeRecords_43 ?_
        rw [show nI n * 4 = nI (n * 4) from pk_mul n 4, pk_sub (by omega)]
        refine v_invS B i_D_writeRecords_44 kn_m_J_minI (c_J_minI 4 (nI (w - n * 4))) rfl rfl (Nat.le_of_ble_eq_true rfl) ⟨by decide, by decide, by first | decide | (simp; omega), by first | decide | (simp; omega)⟩ rfl (fun r X' hq => ?_) (fun _ _ h => False.elim h)
        obtain ⟨rfl, rfl⟩ := hq
        have hmin : imin 4 (nI (w - n * 4)) = nI (min 4 (w - 4 * n)) := by
          rw [imin, show (4 : Int32) = nI 4 from rfl]
          by_cases hq : w - n * 4 < 4
          · rw [if_pos (nI_lt hq (by omega)), Nat.min_eq_right (by omega), Nat.mul_comm]
          · rw [if_neg (nI_nlt (by omega) (by omega)), Nat.min_eq_left (by omega)]
        rw [hmin]
        refine v_iast B (by first | assumption | exact qset_self _ _ _ | (rw [qset_ne _ _ (by omega)]; first | assumption | exact qset_self _ _ _ | (rw [qset_ne _ _ (by omega)]; first | assumption | exact qset_self _ _ _ | (rw [qset_ne _ _ (by omega)]; first | assumption | exact qset_self _ _ _ | (rw [qset_ne _ _ (by omega)]; first | assumption | exact qset_self _ _ _ | (rw [qset_ne _ _ (by omega)]; first | assumption | exact qset_self _ _ _ | (rw [qset_ne _ _ (by omega)]; first | assumption | exact qset_self _ _ _))))))) rfl (by omega) (by omega) i_D_writeRecords_47 ?_
        refine v_aload_n i_D_writeRecords_48 rfl ?_
        refine v_get B i_D_writeRecords_49 (by first | assumption | exact qset_self _ _ _ | (rw [qset_ne _ _ (by omega)]; first | assumption | exact qset_self _ _ _ | (rw [qset_ne _ _ (by omega)]; first | assumption | exact qset_self _ _ _ | (rw [qset_ne _ _ (by omega)]; first | assumption | exact qset_self _ _ _ | (rw [qset_ne _ _ (by omega)]; first | assumption | exact qset_self _ _ _ | (rw [qset_ne _ _ (by omega)]; first | assumption | exact qset_self _ _ _ | (rw [qset_ne _ _ (by omega)]; first | assumption | exact qset_self _ _ _))))))) rfl ?_
        refine v_aload_n i_D_writeRecords_52 rfl ?_
        refine v_get B i_D_writeRecords_53 (by first | assumption | exact qset_self _ _ _ | (rw [qset_ne _ _ (by omega)]; first | assumption | exact qset_self _ _ _ | (rw [qset_ne _ _ (by omega)]; first | assumption | exact qset_self _ _ _ | (rw [qset_ne _ _ (by omega)]; first | assumption | exact qset_self _ _ _ | (rw [qset_ne _ _ (by omega)]; first | assumption | exact qset_self _ _ _ | (rw [qset_ne _ _ (by omega)]; first | assumption | exact qset_self _ _ _ | (rw [qset_ne _ _ (by omega)]; first | assumption | exact qset_self _ _ _))))))) rfl ?_
        refine v_iconst (v := 0) i_D_writeRecords_56 rfl ?_
        refine v_zast B (by first | assumption | exact qset_self _ _ _ | (rw [qset_ne _ _ (by omega)]; first | assumption | exact qset_self _ _ _ | (rw [qset_ne _ _ (by omega)]; first | assumption | exact qset_self _ _ _ | (rw [qset_ne _ _ (by omega)]; first | assumption | exact qset_self _ _ _ | (rw [qset_ne _ _ (by omega)]; first | assumption | exact qset_self _ _ _ | (rw [qset_ne _ _ (by omega)]; first | assumption | exact qset_self _ _ _ | (rw [qset_ne _ _ (by omega)]; first | assumption | exact qset_self _ _ _))))))) rfl (by omega) (by omega) (Or.inl rfl) i_D_writeRecords_57 ?_
        refine v_aload_n i_D_writeRecords_58 rfl ?_
        refine v_dup i_D_writeRecords_59 rfl ?_
        refine v_get B i_D_writeRecords_60 (by first | assumption | exact qset_self _ _ _ | (rw [qset_ne _ _ (by omega)]; first | assumption | exact qset_self _ _ _ | (rw [qset_ne _ _ (by omega)]; first | assumption | exact qset_self _ _ _ | (rw [qset_ne _ _ (by omega)]; first | assumption | exact qset_self _ _ _ | (rw [qset_ne _ _ (by omega)]; first | assumption | exact qset_self _ _ _ | (rw [qset_ne _ _ (by omega)]; first | assumption | exact qset_self _ _ _ | (rw [qset_ne _ _ (by omega)]; first | assumption | exact qset_self _ _ _))))))) rfl ?_
        refine v_iconst (v := 1) i_D_writeRecords_63 rfl ?_
        refine v_iadd i_D_writeRecords_64 ?_
        refine v_put B i_D_writeRecords_65 (by first | assumption | exact qset_self _ _ _ | (rw [qset_ne _ _ (by omega)]; first | assumption | exact qset_self _ _ _ | (rw [qset_ne _ _ (by omega)]; first | assumption | exact qset_self _ _ _ | (rw [qset_ne _ _ (by omega)]; first | assumption | exact qset_self _ _ _ | (rw [qset_ne _ _ (by omega)]; first | assumption | exact qset_self _ _ _ | (rw [qset_ne _ _ (by omega)]; first | assumption | exact qset_self _ _ _ | (rw [qset_ne _ _ (by omega)]; first | assumption | exact qset_self _ _ _))))))) (Nat.le_of_ble_eq_true rfl) rfl rfl ?_
        refine v_iinc (v := nI (n + 1)) i_D_writeRecords_68 rfl (nI_1 n) (by decide) rfl ?_
        refine v_goto (tgt := 7) i_D_writeRecords_71 rfl ?_
        refine v_loc [(0, .ref d), (1, .int (nI w)), (2, .int (nI ((w + 3) / 4))), (3, .int (nI (n + 1)))] rfl ?_
        refine ih (n + 1) _ (D2.1 ++ [(min 4 (w - 4 * n), false)], D2.2) (by omega) (by simp; omega) ?_ (((hs3.set _ (by omega) (by omega)).set _ (by omega) (by omega)).set _ (by omega) (by omega))
        refine ⟨?_, by simp; omega, gk, gc, upd fr D2.1.length (nI (min 4 (w - 4 * n))), upd fs D2.1.length 0, (by first | assumption | exact qset_self _ _ _ | (rw [qset_ne _ _ (by omega)]; first | assumption | exact qset_self _ _ _ | (rw [qset_ne _ _ (by omega)]; first | assumption | exact qset_self _ _ _ | (rw [qset_ne _ _ (by omega)]; first | assumption | exact qset_self _ _ _ | (rw [qset_ne _ _ (by omega)]; first | assumption | exact qset_self _ _ _ | (rw [qset_ne _ _ (by omega)]; first | assumption | exact qset_self _ _ _ | (rw [qset_ne _ _ (by omega)]; first | assumption | exact qset_self _ _ _))))))), (by first | assumption | exact qset_self _ _ _ | (rw [qset_ne _ _ (by omega)]; first | assumption | exact qset_self _ _ _ | (rw [qset_ne _ _ (by omega)]; first | assumption | exact qset_self _ _ _ | (rw [qset_ne _ _ (by omega)]; first | assumption | exact qset_self _ _ _ | (rw [qset_ne _ _ (by omega)]; first | assumption | exact qset_self _ _ _ | (rw [qset_ne _ _ (by omega)]; first | assumption | exact qset_self _ _ _ | (rw [qset_ne _ _ (by omega)]; first | assumption | exact qset_self _ _ _))))))), ?_⟩
        · rw [qset_self]
          show _ = some (Sum.inr (0, [Value.ref (d + 1), Value.ref (d + 2), Value.int (nI (D2.1 ++ [(min 4 (w - 4 * n), false)]).length), Value.int (nI D2.2.1), Value.int (nI D2.2.2.1), Value.int (vO D2.2.2.2.1), Value.int (bI D2.2.2.2.2)]))
          rw [List.length_append, show [(min 4 (w - 4 * n), false)].length = 1 from rfl, nI_succ]
          rfl
        · intro i hi
          have hi : i < D2.1.length + 1 := by simpa using hi
          show upd fr D2.1.length (nI (min 4 (w - 4 * n))) i = nI (lg (D2.1 ++ [(min 4 (w - 4 * n), false)]) i).1 ∧ upd fs D2.1.length 0 i = bI (lg (D2.1 ++ [(min 4 (w - 4 * n), false)]) i).2
          rw [lg_app]
          by_cases h1 : i < D2.1.length
          · rw [if_pos h1, pk_un (by omega), pk_un (by omega)]; exact gg i h1
          · have h2 : i = D2.1.length := by omega
            subst h2
            rw [if_neg h1, if_pos rfl, pk_us, pk_us]
            exact ⟨rfl, rfl⟩
      · exact absurd h25 (by decide)
theorem c_D_writeRecords (B : qB l s0 C) (h : DkAt X d D) (w : Nat) (hw : w < 2 ^ 30) (hroom : D.1.length + (w + 3) / 4 ≤ 40) : qMet l s0 C m_D_writeRecords rm_D_writeRecords [.ref d, .int (nI w)] X (fun r X' => r = some (.int (nI (dws w ((w + 3) / 4) 0 D).1)) ∧ DkAt X' d (dws w ((w + 3) / 4) 0 D).2 ∧ qSame X X' d (d + 3)) (fun _ _ => False) := by
  refine q_of (by decide +kernel) (Nat.le_of_ble_eq_true rfl) ?_
  refine v_L (L' := [(0, .ref d), (1, .int (nI w))]) rfl ?_
  refine v_iload_n i_D_writeRecords_0 rfl ?_
  refine v_invS B i_D_writeRecords_1 kn_m_D_blocksFor (c_D_blocksFor w hw) rfl rfl (Nat.le_of_ble_eq_true rfl) ⟨by decide, by decide, by first | decide | (simp; omega), by first | decide | (simp; omega)⟩ rfl (fun r X' hq => ?_) (fun _ _ h => False.elim h)
  obtain ⟨rfl, rfl⟩ := hq
  refine v_istore_n i_D_writeRecords_4 (by decide) rfl ?_
  refine v_iconst (v := 0) i_D_writeRecords_5 rfl ?_
  refine v_istore_n i_D_writeRecords_6 (by decide) rfl ?_
  refine v_loc [(0, .ref d), (1, .int (nI w)), (2, .int (nI ((w + 3) / 4))), (3, .int (nI 0))] rfl ?_
  exact c_D_writeRecords_loop B w hw _ 0 X D (Nat.zero_add _) hroom h (qSame.rf X _ _)
theorem c_D_writePages_loop (B : qB l s0 C) (dirty lat : Nat) (hdl : dirty < 2 ^ 30) (hlat : lat < 2 ^ 30) (D0 : Dk) : ∀ (j n : Nat) (X' : qX) (D : Dk), n + j = dirty → DkAt X' d D → qSame X X' d (d + 3) → dwp dirty 0 D0 = dwp j n D →
      qV l s0 C m_D_writePages rm_D_writePages (fun r X'' => r = some (.int (nI (dck D0 dirty lat).1)) ∧ DkAt X'' d (dck D0 dirty lat).2 ∧ qSame X X'' d (d + 3)) (fun _ _ => False) 0 0 X' 2 [(0, .ref d), (1, .int (nI dirty)), (2, .int (nI lat)), (3, .int (nI n))] [] := by
  intro j
  induction j with
  | zero =>
    intro n X' D hn h hs hp
    have hck : dck D0 dirty lat = if (dwr D).1 = true then (dirty + 1, [], (dwr D).2.2.1, lat, (dwr D).2.2.2.2) else (dirty, (dwr D).2) := by
      unfold dck; rw [hp]; rfl
    refine v_iload_n i_D_writePages_2 rfl ?_
    refine v_iload_n i_D_writePages_3 rfl ?_
    refine v_icmp_ge (tgt := 22) i_D_writePages_4 rfl (fun h4 => ?_) (fun h4 => ?_)
    · obtain ⟨h0, -⟩ := id h
      refine v_aload_n i_D_writePages_22 rfl ?_
      refine v_inv B i_D_writePages_23 kn_m_D_writeBlock (c_D_writeBlock B h) (by first | assumption | exact qset_self _ _ _ | (rw [qset_ne _ _ (by omega)]; first | assumption | exact qset_self _ _ _ | (rw [qset_ne _ _ (by omega)]; first | assumption | exact qset_self _ _ _ | (rw [qset_ne _ _ (by omega)]; first | assumption | exact qset_self _ _ _ | (rw [qset_ne _ _ (by omega)]; first | assumption | exact qset_self _ _ _ | (rw [qset_ne _ _ (by omega)]; first | assumption | exact qset_self _ _ _ | (rw [qset_ne _ _ (by omega)]; first | assumption | exact qset_self _ _ _))))))) rfl rfl (Nat.le_of_ble_eq_true rfl) ⟨by decide, by decide, by first | decide | (simp; omega), by first | decide | (simp; omega)⟩ rfl (fun r X' hq => ?_) (fun _ _ h => False.elim h)
      obtain ⟨rfl, h2, hs2⟩ := hq
      have hs3 := hs.trans hs2
      cases hb : (dwr D).1 with
      | false =>
        rw [hck, if_neg (by rw [hb]; decide)]
        refine v_if_ne (tgt := 31) i_D_writePages_26 rfl (fun h26 => ?_) (fun h26 => ?_)
        · exact absurd rfl h26
        · refine v_iload_n i_D_writePages_29 rfl ?_
          exact v_iret i_D_writePages_30 rfl (by decide) (by decide) ⟨rfl, h2, hs3⟩
      | true =>
        rw [hck, if_pos hb]
        refine v_if_ne (tgt := 31) i_D_writePages_26 rfl (fun h26 => ?_) (fun h26 => ?_)
        · obtain ⟨g0, gl, gk, gc, fr, fs, gr, gsp, gg⟩ := id h2
          refine v_aload_n i_D_writePages_31 rfl ?_
          refine v_iload_n i_D_writePages_32 rfl ?_
          refine v_put B i_D_writePages_33 (by first | assumption | exact qset_self _ _ _ | (rw [qset_ne _ _ (by omega)]; first | assumption | exact qset_self _ _ _ | (rw [qset_ne _ _ (by omega)]; first | assumption | exact qset_self _ _ _ | (rw [qset_ne _ _ (by omega)]; first | assumption | exact qset_self _ _ _ | (rw [qset_ne _ _ (by omega)]; first | assumption | exact qset_self _ _ _ | (rw [qset_ne _ _ (by omega)]; first | assumption | exact qset_self _ _ _ | (rw [qset_ne _ _ (by omega)]; first | assumption | exact qset_self _ _ _))))))) (Nat.le_of_ble_eq_true rfl) rfl rfl ?_
          refine v_aload_n i_D_writePages_36 rfl ?_
          refine v_iconst (v := 0) i_D_writePages_37 rfl ?_
          refine v_put B i_D_writePages_38 (by first | assumption | exact qset_self _ _ _ | (rw [qset_ne _ _ (by omega)]; first | assumption | exact qset_self _ _ _ | (rw [qset_ne _ _ (by omega)]; first | assumption | exact qset_self _ _ _ | (rw [qset_ne _ _ (by omega)]; first | assumption | exact qset_self _ _ _ | (rw [qset_ne _ _ (by omega)]; first | assumption | exact qset_self _ _ _ | (rw [qset_ne _ _ (by omega)]; first | assumption | exact qset_self _ _ _ | (rw [qset_ne _ _ (by omega)]; first | assumption | exact qset_self _ _ _))))))) (Nat.le_of_ble_eq_true rfl) rfl rfl ?_
          refine v_iload_n i_D_writePages_41 rfl ?_
          refine v_iconst (v := 1) i_D_writePages_42 rfl ?_
          refine v_iadd i_D_writePages_43 ?_
          refine v_iret i_D_writePages_44 rfl (by decide) (by decide) ⟨?_, ?_, (hs3.set _ (by omega) (by omega)).set _ (by omega) (by omega)⟩
          · rw [nI_1]
          · refine ⟨?_, Nat.zero_le _, hlat, gc, fr, fs, (by first | assumption | exact qset_self _ _ _ | (rw [qset_ne _ _ (by omega)]; first | assumption | exact qset_self _ _ _ | (rw [qset_ne _ _ (by omega)]; first | assumption | exact qset_self _ _ _ | (rw [qset_ne _ _ (by omega)]; first | assumption | exact qset_self _ _ _ | (rw [qset_ne _ _ (by omega)]; first | assumption | exact qset_self _ _ _ | (rw [qset_ne _ _ (by omega)]; first | assumption | exact qset_self _ _ _ | (rw [qset_ne _ _ (by omega)]; first | assumption | exact qset_self _ _ _))))))), (by first | assumption | exact qset_self _ _ _ | (rw [qset_ne _ _ (by omega)]; first | assumption | exact qset_self _ _ _ | (rw [qset_ne _ _ (by omega)]; first | assumption | exact qset_self _ _ _ | (rw [qset_ne _ _ (by omega)]; first | assumption | exact qset_self _ _ _ | (rw [qset_ne _ _ (by omega)]; first | assumption | exact qset_self _ _ _ | (rw [qset_ne _ _ (by omega)]; first | assumption | exact qset_self _ _ _ | (rw [qset_ne _ _ (by omega)]; first | assumption | exact qset_self _ _ _))))))), fun i hi => absurd hi (Nat.not_lt_zero i)⟩
            rw [qset_self]
            rfl
        · exact absurd h26 (by decide)
    · exact absurd (nI_le (by omega) (by omega)) h4
  | succ j ih =>
    intro n X' D hn h hs hp
    obtain ⟨h0, -⟩ := id h
    refine v_iload_n i_D_writePages_2 rfl ?_
    refine v_iload_n i_D_writePages_3 rfl ?_
    refine v_icmp_ge (tgt := 22) i_D_writePages_4 rfl (fun h4 => ?_) (fun h4 => ?_)
    · exact absurd h4 (nI_ge (by omega) (by omega))
    refine v_aload_n i_D_writePages_7 rfl ?_
    refine v_inv B i_D_writePages_8 kn_m_D_writeBlock (c_D_writeBlock B h) (by first | assumption | exact qset_self _ _ _ | (rw [qset_ne _ _ (by omega)]; first | assumption | exact qset_self _ _ _ | (rw [qset_ne _ _ (by omega)]; first | assumption | exact qset_self _ _ _ | (rw [qset_ne _ _ (by omega)]; first | assumption | exact qset_self _ _ _ | (rw [qset_ne _ _ (by omega)]; first | assumption | exact qset_self _ _ _ | (rw [qset_ne _ _ (by omega)]; first | assumption | exact qset_self _ _ _ | (rw [qset_ne _ _ (by omega)]; first | assumption | exact qset_self _ _ _))))))) rfl rfl (Nat.le_of_ble_eq_true rfl) ⟨by decide, by decide, by first | decide | (simp; omega), by first | decide | (simp; omega)⟩ rfl (fun r X' hq => ?_) (fun _ _ h => False.elim h)
    obtain ⟨rfl, h2, hs2⟩ := hq
    have hs3 := hs.trans hs2
    cases hb : (dwr D).1 with
    | false =>
      have hp2 : dwp (j + 1) n D = (false, n, (dwr D).2) := by rw [dwp, if_neg (by rw [hb]; decide)]
      have hck : dck D0 dirty lat = (n, (dwr D).2) := by unfold dck; rw [hp, hp2]
      rw [hck]
      refine v_if_ne (tgt := 16) i_D_writePages_11 rfl (fun h11 => ?_) (fun h11 => ?_)
      · exact absurd rfl h11
      · refine v_iload_n i_D_writePages_14 rfl ?_
        exact v_iret i_D_writePages_15 rfl (by decide) (by decide) ⟨rfl, h2, hs3⟩
    | true =>
      have hp2 : dwp (j + 1) n D = dwp j (n + 1) (dwr D).2 := by rw [dwp, if_pos hb]
      refine v_if_ne (tgt := 16) i_D_writePages_11 rfl (fun h11 => ?_) (fun h11 => ?_)
      · refine v_iinc (v := nI (n + 1)) i_D_writePages_16 rfl (nI_1 n) (by decide) rfl ?_
        refine v_goto (tgt := 2) i_D_writePages_19 rfl ?_
        refine v_loc [(0, .ref d), (1, .int (nI dirty)), (2, .int (nI lat)), (3, .int (nI (n + 1)))] rfl ?_
        exact ih (n + 1) _ (dwr D).2 (by omega) h2 hs3 (hp.trans hp2)
      · exact absurd h11 (by decide)
theorem c_D_writePages (B : qB l s0 C) (h : DkAt X d D) (dirty lat : Nat) (hdl : dirty < 2 ^ 30) (hlat : lat < 2 ^ 30) : qMet l s0 C m_D_writePages rm_D_writePages [.ref d, .int (nI dirty), .int (nI lat)] X (fun r X' => r = some (.int (nI (dck D dirty lat).1)) ∧ DkAt X' d (dck D dirty lat).2 ∧ qSame X X' d (d + 3)) (fun _ _ => False) := by
  refine q_of (by decide +kernel) (Nat.le_of_ble_eq_true rfl) ?_
  refine v_L (L' := [(0, .ref d), (1, .int (nI dirty)), (2, .int (nI lat))]) rfl ?_
  refine v_iconst (v := 0) i_D_writePages_0 rfl ?_
  refine v_istore_n i_D_writePages_1 (by decide) rfl ?_
  refine v_loc [(0, .ref d), (1, .int (nI dirty)), (2, .int (nI lat)), (3, .int (nI 0))] rfl ?_
  exact c_D_writePages_loop B dirty lat hdl hlat D _ 0 X D (Nat.zero_add _) h (qSame.rf X _ _) rfl
theorem c_D_spoilBlock (B : qB l s0 C) (h : DkAt X d D) (b : Nat) (hb : b < D.1.length) : qMet l s0 C m_D_spoilBlock rm_D_spoilBlock [.ref d, .int (nI b)] X (fun r X' => r = none ∧ DkAt X' d (D.1.set b ((lg D.1 b).1, true), D.2) ∧ qSame X X' d (d + 3)) (fun _ _ => False) := by
  obtain ⟨h0, hl, hk, hc, fr, fs, hr, hsp, hg⟩ := h
  refine q_of (by decide +kernel) (Nat.le_of_ble_eq_true rfl) ?_
  refine v_L (L' := [(0, .ref d), (1, .int (nI b))]) rfl ?_
  refine v_iload_n i_D_spoilBlock_0 rfl ?_
  refine v_if_lt (tgt := 19) i_D_spoilBlock_1 rfl (fun h1 => ?_) (fun h1 => ?_)
  · exact absurd h1 (nI_pos (by omega))
  refine v_iload_n i_D_spoilBlock_4 rfl ?_
  refine v_aload_n i_D_spoilBlock_5 rfl ?_
  refine v_get B i_D_spoilBlock_6 (by first | assumption | exact qset_self _ _ _ | (rw [qset_ne _ _ (by omega)]; first | assumption | exact qset_self _ _ _ | (rw [qset_ne _ _ (by omega)]; first | assumption | exact qset_self _ _ _ | (rw [qset_ne _ _ (by omega)]; first | assumption | exact qset_self _ _ _ | (rw [qset_ne _ _ (by omega)]; first | assumption | exact qset_self _ _ _ | (rw [qset_ne _ _ (by omega)]; first | assumption | exact qset_self _ _ _ | (rw [qset_ne _ _ (by omega)]; first | assumption | exact qset_self _ _ _))))))) rfl ?_
  refine v_icmp_ge (tgt := 19) i_D_spoilBlock_9 rfl (fun h9 => ?_) (fun h9 => ?_)
  · exact absurd h9 (nI_ge (by omega) (by omega))
  refine v_aload_n i_D_spoilBlock_12 rfl ?_
  refine v_get B i_D_spoilBlock_13 (by first | assumption | exact qset_self _ _ _ | (rw [qset_ne _ _ (by omega)]; first | assumption | exact qset_self _ _ _ | (rw [qset_ne _ _ (by omega)]; first | assumption | exact qset_self _ _ _ | (rw [qset_ne _ _ (by omega)]; first | assumption | exact qset_self _ _ _ | (rw [qset_ne _ _ (by omega)]; first | assumption | exact qset_self _ _ _ | (rw [qset_ne _ _ (by omega)]; first | assumption | exact qset_self _ _ _ | (rw [qset_ne _ _ (by omega)]; first | assumption | exact qset_self _ _ _))))))) rfl ?_
  refine v_iload_n i_D_spoilBlock_16 rfl ?_
  refine v_iconst (v := 1) i_D_spoilBlock_17 rfl ?_
  refine v_zast B (by first | assumption | exact qset_self _ _ _ | (rw [qset_ne _ _ (by omega)]; first | assumption | exact qset_self _ _ _ | (rw [qset_ne _ _ (by omega)]; first | assumption | exact qset_self _ _ _ | (rw [qset_ne _ _ (by omega)]; first | assumption | exact qset_self _ _ _ | (rw [qset_ne _ _ (by omega)]; first | assumption | exact qset_self _ _ _ | (rw [qset_ne _ _ (by omega)]; first | assumption | exact qset_self _ _ _ | (rw [qset_ne _ _ (by omega)]; first | assumption | exact qset_self _ _ _))))))) rfl (by omega) (by omega) (Or.inr rfl) i_D_spoilBlock_18 ?_
  refine v_vret i_D_spoilBlock_19 rfl (by decide) (by decide) ⟨rfl, ⟨?_, by simpa using hl, hk, hc, fr, upd fs b 1, (by first | assumption | exact qset_self _ _ _ | (rw [qset_ne _ _ (by omega)]; first | assumption | exact qset_self _ _ _ | (rw [qset_ne _ _ (by omega)]; first | assumption | exact qset_self _ _ _ | (rw [qset_ne _ _ (by omega)]; first | assumption | exact qset_self _ _ _ | (rw [qset_ne _ _ (by omega)]; first | assumption | exact qset_self _ _ _ | (rw [qset_ne _ _ (by omega)]; first | assumption | exact qset_self _ _ _ | (rw [qset_ne _ _ (by omega)]; first | assumption | exact qset_self _ _ _))))))), (by first | assumption | exact qset_self _ _ _ | (rw [qset_ne _ _ (by omega)]; first | assumption | exact qset_self _ _ _ | (rw [qset_ne _ _ (by omega)]; first | assumption | exact qset_self _ _ _ | (rw [qset_ne _ _ (by omega)]; first | assumption | exact qset_self _ _ _ | (rw [qset_ne _ _ (by omega)]; first | assumption | exact qset_self _ _ _ | (rw [qset_ne _ _ (by omega)]; first | assumption | exact qset_self _ _ _ | (rw [qset_ne _ _ (by omega)]; first | assumption | exact qset_self _ _ _))))))), ?_⟩, (qSame.rf X _ _).set _ (by omega) (by omega)⟩
  · rw [qset_ne _ _ (by omega), List.length_set]; exact h0
  · intro i hi
    have hi : i < D.1.length := by simpa using hi
    show fr i = nI (lg (D.1.set b ((lg D.1 b).1, true)) i).1 ∧ upd fs b 1 i = bI (lg (D.1.set b ((lg D.1 b).1, true)) i).2
    rw [lg_set _ _ _ _ hb]
    by_cases h1 : i = b
    · subst h1; rw [if_pos rfl, pk_us]; exact ⟨(hg i (by simpa using hi)).1, rfl⟩
    · rw [if_neg h1, pk_un h1]; exact hg i hi
theorem c_D_comeUp_loop (B : qB l s0 C) (h : DkAt X d D) : ∀ (j i : Nat), i + j = D.1.length → dgd D.1 D.1.length 0 = dgd D.1 j i →
      qV l s0 C m_D_comeUp rm_D_comeUp (fun r X' => r = none ∧ DkAt X' d (dup D) ∧ qSame X X' d (d + 3)) (fun _ _ => False) 0 0 X 2 [(0, .ref d), (1, .int (nI i))] [] := by
  obtain ⟨h0, hl, hk, hc, fr, fs, hr, hsp, hg⟩ := h
  have fin : ∀ i : Nat, dgd D.1 D.1.length 0 = i → qV l s0 C m_D_comeUp rm_D_comeUp (fun r X' => r = none ∧ DkAt X' d (dup D) ∧ qSame X X' d (d + 3)) (fun _ _ => False) 0 0 X 25 [(0, .ref d), (1, .int (nI i))] [] := by
    intro i hi
    have hle := dgd_le D.1 D.1.length 0
    have hlen : (dup D).1.length = i := by
      show (D.1.take (dgd D.1 D.1.length 0)).length = i
      rw [hi, List.length_take]; omega
    refine v_aload_n i_D_comeUp_25 rfl ?_
    refine v_iload_n i_D_comeUp_26 rfl ?_
    refine v_put B i_D_comeUp_27 (by first | assumption | exact qset_self _ _ _ | (rw [qset_ne _ _ (by omega)]; first | assumption | exact qset_self _ _ _ | (rw [qset_ne _ _ (by omega)]; first | assumption | exact qset_self _ _ _ | (rw [qset_ne _ _ (by omega)]; first | assumption | exact qset_self _ _ _ | (rw [qset_ne _ _ (by omega)]; first | assumption | exact qset_self _ _ _ | (rw [qset_ne _ _ (by omega)]; first | assumption | exact qset_self _ _ _ | (rw [qset_ne _ _ (by omega)]; first | assumption | exact qset_self _ _ _))))))) (Nat.le_of_ble_eq_true rfl) rfl rfl ?_
    refine v_aload_n i_D_comeUp_30 rfl ?_
    refine v_iconst (v := (-1)) i_D_comeUp_31 rfl ?_
    refine v_put B i_D_comeUp_32 (by first | assumption | exact qset_self _ _ _ | (rw [qset_ne _ _ (by omega)]; first | assumption | exact qset_self _ _ _ | (rw [qset_ne _ _ (by omega)]; first | assumption | exact qset_self _ _ _ | (rw [qset_ne _ _ (by omega)]; first | assumption | exact qset_self _ _ _ | (rw [qset_ne _ _ (by omega)]; first | assumption | exact qset_self _ _ _ | (rw [qset_ne _ _ (by omega)]; first | assumption | exact qset_self _ _ _ | (rw [qset_ne _ _ (by omega)]; first | assumption | exact qset_self _ _ _))))))) (Nat.le_of_ble_eq_true rfl) rfl rfl ?_
    refine v_aload_n i_D_comeUp_35 rfl ?_
    refine v_iconst (v := 0) i_D_comeUp_36 rfl ?_
    refine v_put B i_D_comeUp_37 (by first | assumption | exact qset_self _ _ _ | (rw [qset_ne _ _ (by omega)]; first | assumption | exact qset_self _ _ _ | (rw [qset_ne _ _ (by omega)]; first | assumption | exact qset_self _ _ _ | (rw [qset_ne _ _ (by omega)]; first | assumption | exact qset_self _ _ _ | (rw [qset_ne _ _ (by omega)]; first | assumption | exact qset_self _ _ _ | (rw [qset_ne _ _ (by omega)]; first | assumption | exact qset_self _ _ _ | (rw [qset_ne _ _ (by omega)]; first | assumption | exact qset_self _ _ _))))))) (Nat.le_of_ble_eq_true rfl) rfl rfl ?_
    refine v_vret i_D_comeUp_40 rfl (by decide) (by decide) ⟨rfl, ⟨?_, by omega, hk, fun t ht => (by cases ht), fr, fs, (by first | assumption | exact qset_self _ _ _ | (rw [qset_ne _ _ (by omega)]; first | assumption | exact qset_self _ _ _ | (rw [qset_ne _ _ (by omega)]; first | assumption | exact qset_self _ _ _ | (rw [qset_ne _ _ (by omega)]; first | assumption | exact qset_self _ _ _ | (rw [qset_ne _ _ (by omega)]; first | assumption | exact qset_self _ _ _ | (rw [qset_ne _ _ (by omega)]; first | assumption | exact qset_self _ _ _ | (rw [qset_ne _ _ (by omega)]; first | assumption | exact qset_self _ _ _))))))), (by first | assumption | exact qset_self _ _ _ | (rw [qset_ne _ _ (by omega)]; first | assumption | exact qset_self _ _ _ | (rw [qset_ne _ _ (by omega)]; first | assumption | exact qset_self _ _ _ | (rw [qset_ne _ _ (by omega)]; first | assumption | exact qset_self _ _ _ | (rw [qset_ne _ _ (by omega)]; first | assumption | exact qset_self _ _ _ | (rw [qset_ne _ _ (by omega)]; first | assumption | exact qset_self _ _ _ | (rw [qset_ne _ _ (by omega)]; first | assumption | exact qset_self _ _ _))))))), ?_⟩, (((qSame.rf X _ _).set _ (by omega) (by omega)).set _ (by omega) (by omega)).set _ (by omega) (by omega)⟩
    · rw [qset_self, hlen]; rfl
    · intro q hq
      rw [hlen] at hq
      show fr q = nI (lg (D.1.take (dgd D.1 D.1.length 0)) q).1 ∧ fs q = bI (lg (D.1.take (dgd D.1 D.1.length 0)) q).2
      rw [lg_take _ _ _ (by omega)]
      exact hg q (by omega)
  intro j
  induction j with
  | zero =>
    intro i hi hd
    refine v_iload_n i_D_comeUp_2 rfl ?_
    refine v_aload_n i_D_comeUp_3 rfl ?_
    refine v_get B i_D_comeUp_4 (by first | assumption | exact qset_self _ _ _ | (rw [qset_ne _ _ (by omega)]; first | assumption | exact qset_self _ _ _ | (rw [qset_ne _ _ (by omega)]; first | assumption | exact qset_self _ _ _ | (rw [qset_ne _ _ (by omega)]; first | assumption | exact qset_self _ _ _ | (rw [qset_ne _ _ (by omega)]; first | assumption | exact qset_self _ _ _ | (rw [qset_ne _ _ (by omega)]; first | assumption | exact qset_self _ _ _ | (rw [qset_ne _ _ (by omega)]; first | assumption | exact qset_self _ _ _))))))) rfl ?_
    refine v_icmp_ge (tgt := 25) i_D_comeUp_7 rfl (fun h7 => ?_) (fun h7 => ?_)
    · exact fin i hd
    · exact absurd (nI_le (by omega) (by omega)) h7
  | succ j ih =>
    intro i hi hd
    refine v_iload_n i_D_comeUp_2 rfl ?_
    refine v_aload_n i_D_comeUp_3 rfl ?_
    refine v_get B i_D_comeUp_4 (by first | assumption | exact qset_self _ _ _ | (rw [qset_ne _ _ (by omega)]; first | assumption | exact qset_self _ _ _ | (rw [qset_ne _ _ (by omega)]; first | assumption | exact qset_self _ _ _ | (rw [qset_ne _ _ (by omega)]; first | assumption | exact qset_self _ _ _ | (rw [qset_ne _ _ (by omega)]; first | assumption | exact qset_self _ _ _ | (rw [qset_ne _ _ (by omega)]; first | assumption | exact qset_self _ _ _ | (rw [qset_ne _ _ (by omega)]; first | assumption | exact qset_self _ _ _))))))) rfl ?_
    refine v_icmp_ge (tgt := 25) i_D_comeUp_7 rfl (fun h7 => ?_) (fun h7 => ?_)
    · exact absurd h7 (nI_ge (by omega) (by omega))
    refine v_aload_n i_D_comeUp_10 rfl ?_
    refine v_get B i_D_comeUp_11 (by first | assumption | exact qset_self _ _ _ | (rw [qset_ne _ _ (by omega)]; first | assumption | exact qset_self _ _ _ | (rw [qset_ne _ _ (by omega)]; first | assumption | exact qset_self _ _ _ | (rw [qset_ne _ _ (by omega)]; first | assumption | exact qset_self _ _ _ | (rw [qset_ne _ _ (by omega)]; first | assumption | exact qset_self _ _ _ | (rw [qset_ne _ _ (by omega)]; first | assumption | exact qset_self _ _ _ | (rw [qset_ne _ _ (by omega)]; first | assumption | exact qset_self _ _ _))))))) rfl ?_
    refine v_iload_n i_D_comeUp_14 rfl ?_
    refine v_zald B (by first | assumption | exact qset_self _ _ _ | (rw [qset_ne _ _ (by omega)]; first | assumption | exact qset_self _ _ _ | (rw [qset_ne _ _ (by omega)]; first | assumption | exact qset_self _ _ _ | (rw [qset_ne _ _ (by omega)]; first | assumption | exact qset_self _ _ _ | (rw [qset_ne _ _ (by omega)]; first | assumption | exact qset_self _ _ _ | (rw [qset_ne _ _ (by omega)]; first | assumption | exact qset_self _ _ _ | (rw [qset_ne _ _ (by omega)]; first | assumption | exact qset_self _ _ _))))))) rfl (by omega) (by omega) i_D_comeUp_15 ?_
    rw [(hg i (by omega)).2]
    refine v_if_ne (tgt := 25) i_D_comeUp_16 rfl (fun h16 => ?_) (fun h16 => ?_)
    · refine fin i ?_
      rw [hd, dgd, if_pos (bI_ne h16)]
    · refine v_iinc (v := nI (i + 1)) i_D_comeUp_19 rfl (nI_1 i) (by decide) rfl ?_
      refine v_goto (tgt := 2) i_D_comeUp_22 rfl ?_
      refine v_loc [(0, .ref d), (1, .int (nI (i + 1)))] rfl ?_
      refine ih (i + 1) (by omega) ?_
      rw [hd, dgd, if_neg (by rw [bI_0.mp h16]; decide)]
theorem c_D_comeUp (B : qB l s0 C) (h : DkAt X d D) : qMet l s0 C m_D_comeUp rm_D_comeUp [.ref d] X (fun r X' => r = none ∧ DkAt X' d (dup D) ∧ qSame X X' d (d + 3)) (fun _ _ => False) := by
  refine q_of (by decide +kernel) (Nat.le_of_ble_eq_true rfl) ?_
  refine v_L (L' := [(0, .ref d)]) rfl ?_
  refine v_iconst (v := 0) i_D_comeUp_0 rfl ?_
  refine v_istore_n i_D_comeUp_1 (by decide) rfl ?_
  refine v_loc [(0, .ref d), (1, .int (nI 0))] rfl ?_
  exact c_D_comeUp_loop B h _ 0 (Nat.zero_add _) rfl
set_option maxHeartbeats 1000000 in
theorem c_D_init (B : qB l s0 C) (h0 : X.1 d = some (.inr (0, qz 0))) (ha : X.2 = d + 1) : qMet l s0 C m_D_init rm_D_init [.ref d] X (fun r X' => r = none ∧ DkAt X' d ([], 0, 0, none, false) ∧ X'.2 = d + 3 ∧ ∀ q, q < d → X'.1 q = X.1 q) (fun _ _ => False) := by
  refine q_of (by decide +kernel) (Nat.le_of_ble_eq_true rfl) ?_
  refine v_L (L' := [(0, .ref d)]) rfl ?_
  refine v_aload_n i_D_init_0 rfl ?_
  refine v_obj B i_D_init_1 wo_1 wo_2 (by decide) (by decide) ?_
  refine v_aload_n i_D_init_4 rfl ?_
  refine v_bipush (v := 40) i_D_init_5 rfl ?_
  refine v_newa B (t := 0) (N := 40) (Or.inl ⟨rfl, rfl⟩) i_D_init_7 wa_I rfl (by omega) (by decide) (by decide) ?_
  refine v_put B i_D_init_9 (by rw [qnew_ne _ _ (by omega)]; exact h0) (Nat.le_of_ble_eq_true rfl) rfl rfl ?_
  obtain ⟨X2, e2⟩ : ∃ Y, Y = qset (qnew X (.inl (0, qt0 0 40))) d (.inr (0, (qz 0).set 0 (.ref X.2))) := ⟨_, rfl⟩
  rw [← e2]
  have z2 : X2.2 = d + 2 := by rw [e2, qset_2, qnew_2, ha]
  have s2 : X2.1 d = some (.inr (0, [.ref (d + 1), .null, .int 0, .int 0, .int 0, .int 0, .int 0])) := by rw [e2, qset_self, ha]; rfl
  have k2 : X2.1 (d + 1) = some (.inl (0, 40, .inl (fun _ => 0))) := by rw [e2, qset_ne _ _ (by omega), ← ha, qnew_self]; rfl
  have o2 : ∀ q, q < d → X2.1 q = X.1 q := fun q hq => by rw [e2, qset_ne _ _ (by omega), qnew_ne _ _ (by omega)]
  clear e2
  refine v_aload_n i_D_init_12 rfl ?_
  refine v_bipush (v := 40) i_D_init_13 rfl ?_
  refine v_newa B (t := 2) (N := 40) (Or.inr (Or.inr ⟨rfl, rfl⟩)) i_D_init_15 wa_Z rfl (by omega) (by decide) (by decide) ?_
  refine v_put B i_D_init_17 (by rw [qnew_ne _ _ (by omega)]; exact s2) (Nat.le_of_ble_eq_true rfl) rfl rfl ?_
  obtain ⟨X3, e3⟩ : ∃ Y, Y = qset (qnew X2 (.inl (2, qt0 2 40))) d (.inr (0, [Value.ref (d + 1), .null, .int 0, .int 0, .int 0, .int 0, .int 0].set 1 (.ref X2.2))) := ⟨_, rfl⟩
  rw [← e3]
  have z3 : X3.2 = d + 3 := by rw [e3, qset_2, qnew_2, z2]
  have s3 : X3.1 d = some (.inr (0, [.ref (d + 1), .ref (d + 2), .int 0, .int 0, .int 0, .int 0, .int 0])) := by rw [e3, qset_self, z2]; rfl
  have k3 : X3.1 (d + 1) = some (.inl (0, 40, .inl (fun _ => 0))) := by rw [e3, qset_ne _ _ (by omega), qnew_ne _ _ (by omega)]; exact k2
  have w3 : X3.1 (d + 2) = some (.inl (2, 40, .inl (fun _ => 0))) := by rw [e3, qset_ne _ _ (by omega), ← z2, qnew_self]; rfl
  have o3 : ∀ q, q < d → X3.1 q = X.1 q := fun q hq => by rw [e3, qset_ne _ _ (by omega), qnew_ne _ _ (by omega)]; exact o2 q hq
  clear e3 s2 o2 k2
  refine v_aload_n i_D_init_20 rfl ?_
  refine v_iconst (v := (-1)) i_D_init_21 rfl ?_
  refine v_put B i_D_init_22 (by first | assumption | exact qset_self _ _ _ | (rw [qset_ne _ _ (by omega)]; first | assumption | exact qset_self _ _ _ | (rw [qset_ne _ _ (by omega)]; first | assumption | exact qset_self _ _ _ | (rw [qset_ne _ _ (by omega)]; first | assumption | exact qset_self _ _ _ | (rw [qset_ne _ _ (by omega)]; first | assumption | exact qset_self _ _ _ | (rw [qset_ne _ _ (by omega)]; first | assumption | exact qset_self _ _ _ | (rw [qset_ne _ _ (by omega)]; first | assumption | exact qset_self _ _ _))))))) (Nat.le_of_ble_eq_true rfl) rfl rfl ?_
  refine v_vret i_D_init_25 rfl (by decide) (by decide) ⟨rfl, ⟨?_, Nat.zero_le _, by decide, fun t ht => (by cases ht), fun _ => 0, fun _ => 0, (by first | assumption | exact qset_self _ _ _ | (rw [qset_ne _ _ (by omega)]; first | assumption | exact qset_self _ _ _ | (rw [qset_ne _ _ (by omega)]; first | assumption | exact qset_self _ _ _ | (rw [qset_ne _ _ (by omega)]; first | assumption | exact qset_self _ _ _ | (rw [qset_ne _ _ (by omega)]; first | assumption | exact qset_self _ _ _ | (rw [qset_ne _ _ (by omega)]; first | assumption | exact qset_self _ _ _ | (rw [qset_ne _ _ (by omega)]; first | assumption | exact qset_self _ _ _))))))), (by first | assumption | exact qset_self _ _ _ | (rw [qset_ne _ _ (by omega)]; first | assumption | exact qset_self _ _ _ | (rw [qset_ne _ _ (by omega)]; first | assumption | exact qset_self _ _ _ | (rw [qset_ne _ _ (by omega)]; first | assumption | exact qset_self _ _ _ | (rw [qset_ne _ _ (by omega)]; first | assumption | exact qset_self _ _ _ | (rw [qset_ne _ _ (by omega)]; first | assumption | exact qset_self _ _ _ | (rw [qset_ne _ _ (by omega)]; first | assumption | exact qset_self _ _ _))))))), fun i hi => absurd hi (Nat.not_lt_zero i)⟩, ?_, ?_⟩
  · rw [qset_self]; rfl
  · rw [qset_2]; exact z3
  · intro q hq
    rw [qset_ne _ _ (by omega)]
    exact o3 q hq
end DK
