/-! PAGES: an entry (key, from, to, what), a page (level, born, died, entries); an object at a, its arrays at a + 1 .. a + 4 -/
abbrev Ent : Type := Int32 × Nat × Option Nat × Int64
abbrev Pg : Type := Nat × Nat × Option Nat × List Ent
def vO (o : Option Nat) : Int32 := match o with
  | none => -1
  | some t => nI t
def bI (b : Bool) : Int32 := if b = true then 1 else 0
theorem bI_01 (b : Bool) : bI b = 0 ∨ bI b = 1 := by cases b <;> simp [bI]
theorem bI_0 {b : Bool} : bI b = 0 ↔ b = false := by cases b <;> simp [bI]
def en (es : List Ent) (i : Nat) : Ent := es.getD i (0, 0, none, 0)
def oLt (o : Option Nat) (N : Nat) : Prop := ∀ t, o = some t → t < N
def alv (e : Ent) (v : Nat) : Bool := decide (e.2.1 ≤ v) && (match e.2.2.1 with
  | none => true
  | some t => decide (v < t))
def PgOk (P : Pg) : Prop := P.1 < 1000 ∧ P.2.1 < 2 ^ 30 ∧ oLt P.2.2.1 (2 ^ 30) ∧ P.2.2.2.length ≤ 16 ∧ ∀ i, i < P.2.2.2.length → (en P.2.2.2 i).2.1 < 2 ^ 30 ∧ oLt (en P.2.2.2 i).2.2.1 (2 ^ 30)
def PgAt (X : qX) (a num : Nat) (P : Pg) : Prop :=
  X.1 a = some (.inr (1, [.int (nI num), .ref (a + 1), .ref (a + 2), .ref (a + 3), .ref (a + 4), .int (nI P.1), .int (nI P.2.1), .int (vO P.2.2.1), .int (nI P.2.2.2.length)])) ∧ PgOk P ∧
  ∃ (fk ff ft : Nat → Int32) (fw : Nat → Int64), X.1 (a + 1) = some (.inl (0, 16, .inl fk)) ∧ X.1 (a + 2) = some (.inl (0, 16, .inl ff)) ∧ X.1 (a + 3) = some (.inl (0, 16, .inl ft)) ∧ X.1 (a + 4) = some (.inl (1, 16, .inr (.inl fw))) ∧
    ∀ i, i < P.2.2.2.length → fk i = (en P.2.2.2 i).1 ∧ ff i = nI (en P.2.2.2 i).2.1 ∧ ft i = vO (en P.2.2.2 i).2.2.1 ∧ fw i = (en P.2.2.2 i).2.2.2
theorem PgAt.same {X X' : qX} {a num lo hi : Nat} {P : Pg} (h : PgAt X a num P) (hs : qSame X X' lo hi) (hd : a + 5 ≤ lo ∨ hi ≤ a) : PgAt X' a num P := by
  obtain ⟨h1, h2, fk, ff, ft, fw, h4, h5, h6, h7, h8⟩ := h
  exact ⟨by rw [hs.2 a (by omega)]; exact h1, h2, fk, ff, ft, fw, by rw [hs.2 (a + 1) (by omega)]; exact h4, by rw [hs.2 (a + 2) (by omega)]; exact h5, by rw [hs.2 (a + 3) (by omega)]; exact h6, by rw [hs.2 (a + 4) (by omega)]; exact h7, h8⟩
theorem vO_none {o : Option Nat} (h : oLt o (2 ^ 30)) : vO o = -1 ↔ o = none := by
  cases o with
  | none => simp [vO]
  | some t =>
    have ht := h t rfl
    simp only [vO]
    constructor
    · intro q
      have := congrArg Int32.toInt q
      rw [nI_toInt (by omega)] at this
      have e : (-1 : Int32).toInt = -1 := by decide
      rw [e] at this
      omega
    · intro q; cases q
/-- not alive at v by its TO: nI v is not below it -/
theorem vO_le {t v : Nat} (ht : t < 2 ^ 30) (hv : v < 2 ^ 30) : vO (some t) ≤ nI v ↔ t ≤ v := nI_leI (by omega) (by omega)
theorem vO_gt {o : Option Nat} {v : Nat} (h : oLt o (2 ^ 30)) (hv : v < 2 ^ 30) : nI v < vO o ↔ ∃ t, o = some t ∧ v < t := by
  cases o with
  | none =>
    simp only [vO]
    constructor
    · intro q
      have h1 : (nI v).toInt < (-1 : Int32).toInt := Int32.lt_iff_toInt_lt.mp q
      rw [nI_toInt (by omega)] at h1
      have e : (-1 : Int32).toInt = -1 := by decide
      rw [e] at h1
      omega
    · rintro ⟨t, q, -⟩; cases q
  | some t =>
    have ht := h t rfl
    rw [show vO (some t) = nI t from rfl, nI_ltI (by omega) (by omega)]
    constructor
    · intro q; exact ⟨t, rfl, q⟩
    · rintro ⟨t', q, h'⟩; cases q; exact h'
def gserves (P : Pg) (v : Nat) : Bool := decide (P.2.1 ≤ v) && (match P.2.2.1 with
  | none => true
  | some t => decide (v < t))
def glives (P : Pg) (i : Int32) (v : Nat) : Bool := if 0 ≤ i ∧ i < nI P.2.2.2.length then alv (en P.2.2.2 i.toNatClampNeg) v else false
theorem glives_nI {P : Pg} {j v : Nat} (h : j < P.2.2.2.length) (hl : P.2.2.2.length ≤ 16) : glives P (nI j) v = alv (en P.2.2.2 j) v := by
  rw [glives, if_pos ⟨nI_pos' (by omega), nI_lt h (by omega)⟩, nI_clamp (by omega)]
def gliving (es : List Ent) (v : Nat) : Nat → Nat
  | 0 => 0
  | n + 1 => gliving es v n + (if alv (en es n) v = true then 1 else 0)
def gkeyAt (P : Pg) (i : Int32) : Int32 := if 0 ≤ i ∧ i < nI P.2.2.2.length then (en P.2.2.2 i.toNatClampNeg).1 else 0
def gfromAt (P : Pg) (i : Int32) : Int32 := if 0 ≤ i ∧ i < nI P.2.2.2.length then nI (en P.2.2.2 i.toNatClampNeg).2.1 else 0
def gtoAt (P : Pg) (i : Int32) : Int32 := if 0 ≤ i ∧ i < nI P.2.2.2.length then vO (en P.2.2.2 i.toNatClampNeg).2.2.1 else -1
def gwhatAt (P : Pg) (i : Int32) : Int64 := if 0 ≤ i ∧ i < nI P.2.2.2.length then (en P.2.2.2 i.toNatClampNeg).2.2.2 else 0
/-- the best place among the first n: alive, its key not above K (not below K), the greatest (least) such, the first of equals -/
def gbel (es : List Ent) (K : Int) (v : Nat) : Nat → Option Nat
  | 0 => none
  | n + 1 => if alv (en es n) v = true ∧ (en es n).1.toInt ≤ K ∧ (∀ b, gbel es K v n = some b → (en es b).1 < (en es n).1) then some n else gbel es K v n
def gabo (es : List Ent) (K : Int) (v : Nat) : Nat → Option Nat
  | 0 => none
  | n + 1 => if alv (en es n) v = true ∧ K ≤ (en es n).1.toInt ∧ (∀ b, gabo es K v n = some b → (en es n).1 < (en es b).1) then some n else gabo es K v n
theorem gbel_lt (es : List Ent) (K : Int) (v : Nat) : ∀ n b, gbel es K v n = some b → b < n
  | 0, b, h => by simp [gbel] at h
  | n + 1, b, h => by
    unfold gbel at h
    split at h
    · cases h; omega
    · have := gbel_lt es K v n b h; omega
theorem gabo_lt (es : List Ent) (K : Int) (v : Nat) : ∀ n b, gabo es K v n = some b → b < n
  | 0, b, h => by simp [gabo] at h
  | n + 1, b, h => by
    unfold gabo at h
    split at h
    · cases h; omega
    · have := gabo_lt es K v n b h; omega
section PG
variable {l : Launch} {s0 : State} {C : qC} {X : qX} {a num : Nat} {P : Pg}
theorem c_G_serves (B : qB l s0 C) (h : PgAt X a num P) (v : Nat) (hv : v < 2 ^ 30) : qMet l s0 C m_G_serves rm_G_serves [.ref a, .int (nI v)] X (fun r X' => X = X' ∧ r = some (.int (bI (gserves P v)))) (fun _ _ => False) := by
  obtain ⟨h0, ⟨ok1, ok2, ok3, ok4, ok5⟩, fk, ff, ft, fw, hk, hf, ht, hw, hg⟩ := h
  refine q_of (by decide +kernel) (Nat.le_of_ble_eq_true rfl) ?_
  refine v_L (L' := [(0, .ref a), (1, .int (nI v))]) rfl ?_
  refine v_aload_n i_G_serves_0 rfl ?_
  refine v_get B i_G_serves_1 (by first | assumption | exact qset_self _ _ _ | (rw [qset_ne _ _ (by omega)]; first | assumption | exact qset_self _ _ _ | (rw [qset_ne _ _ (by omega)]; first | assumption | exact qset_self _ _ _ | (rw [qset_ne _ _ (by omega)]; first | assumption | exact qset_self _ _ _ | (rw [qset_ne _ _ (by omega)]; first | assumption | exact qset_self _ _ _ | (rw [qset_ne _ _ (by omega)]; first | assumption | exact qset_self _ _ _ | (rw [qset_ne _ _ (by omega)]; first | assumption | exact qset_self _ _ _))))))) rfl ?_
  refine v_iload_n i_G_serves_4 rfl ?_
  refine v_icmp_gt (tgt := 28) i_G_serves_5 rfl (fun h5 => ?_) (fun h5 => ?_)
  · refine v_iconst (v := 0) i_G_serves_28 rfl ?_
    refine v_zret i_G_serves_29 rfl (Or.inl rfl) (by decide) (by decide) ⟨rfl, ?_⟩
    have h1 : ¬ P.2.1 ≤ v := fun q => absurd h5 (nI_nlt q (by omega))
    simp [gserves, h1, bI]
  have h1 : P.2.1 ≤ v := (nI_leI (by omega) (by omega)).mp (Int32.not_lt.mp h5)
  refine v_aload_n i_G_serves_8 rfl ?_
  refine v_get B i_G_serves_9 (by first | assumption | exact qset_self _ _ _ | (rw [qset_ne _ _ (by omega)]; first | assumption | exact qset_self _ _ _ | (rw [qset_ne _ _ (by omega)]; first | assumption | exact qset_self _ _ _ | (rw [qset_ne _ _ (by omega)]; first | assumption | exact qset_self _ _ _ | (rw [qset_ne _ _ (by omega)]; first | assumption | exact qset_self _ _ _ | (rw [qset_ne _ _ (by omega)]; first | assumption | exact qset_self _ _ _ | (rw [qset_ne _ _ (by omega)]; first | assumption | exact qset_self _ _ _))))))) rfl ?_
  refine v_iconst (v := (-1)) i_G_serves_12 rfl ?_
  refine v_icmp_eq (tgt := 24) i_G_serves_13 rfl (fun h13 => ?_) (fun h13 => ?_)
  · refine v_iconst (v := 1) i_G_serves_24 rfl ?_
    refine v_goto (tgt := 29) i_G_serves_25 rfl ?_
    refine v_zret i_G_serves_29 rfl (Or.inr rfl) (by decide) (by decide) ⟨rfl, ?_⟩
    have h2 := (vO_none ok3).mp h13
    simp [gserves, h1, h2, bI]
  refine v_iload_n i_G_serves_16 rfl ?_
  refine v_aload_n i_G_serves_17 rfl ?_
  refine v_get B i_G_serves_18 (by first | assumption | exact qset_self _ _ _ | (rw [qset_ne _ _ (by omega)]; first | assumption | exact qset_self _ _ _ | (rw [qset_ne _ _ (by omega)]; first | assumption | exact qset_self _ _ _ | (rw [qset_ne _ _ (by omega)]; first | assumption | exact qset_self _ _ _ | (rw [qset_ne _ _ (by omega)]; first | assumption | exact qset_self _ _ _ | (rw [qset_ne _ _ (by omega)]; first | assumption | exact qset_self _ _ _ | (rw [qset_ne _ _ (by omega)]; first | assumption | exact qset_self _ _ _))))))) rfl ?_
  refine v_icmp_ge (tgt := 28) i_G_serves_21 rfl (fun h21 => ?_) (fun h21 => ?_)
  · refine v_iconst (v := 0) i_G_serves_28 rfl ?_
    refine v_zret i_G_serves_29 rfl (Or.inl rfl) (by decide) (by decide) ⟨rfl, ?_⟩
    cases hd : P.2.2.1 with
    | none => rw [hd] at h13; exact absurd rfl h13
    | some t =>
      rw [hd] at h21
      have h2 : t ≤ v := (vO_le (ok3 t hd) hv).mp h21
      simp [gserves, h1, hd, Nat.not_lt.mpr h2, bI]
  · refine v_iconst (v := 1) i_G_serves_24 rfl ?_
    refine v_goto (tgt := 29) i_G_serves_25 rfl ?_
    refine v_zret i_G_serves_29 rfl (Or.inr rfl) (by decide) (by decide) ⟨rfl, ?_⟩
    cases hd : P.2.2.1 with
    | none => simp [gserves, h1, hd, bI]
    | some t =>
      rw [hd] at h21
      have h2 : ¬ t ≤ v := fun q => h21 ((vO_le (ok3 t hd) hv).mpr q)
      simp [gserves, h1, hd, Nat.not_le.mp h2, bI]
theorem c_G_livesAt (B : qB l s0 C) (h : PgAt X a num P) (i : Int32) (v : Nat) (hv : v < 2 ^ 30) : qMet l s0 C m_G_livesAt rm_G_livesAt [.ref a, .int i, .int (nI v)] X (fun r X' => X = X' ∧ r = some (.int (bI (glives P i v)))) (fun _ _ => False) := by
  obtain ⟨h0, ⟨ok1, ok2, ok3, ok4, ok5⟩, fk, ff, ft, fw, hk, hf, ht, hw, hg⟩ := h
  refine q_of (by decide +kernel) (Nat.le_of_ble_eq_true rfl) ?_
  refine v_L (L' := [(0, .ref a), (1, .int i), (2, .int (nI v))]) rfl ?_
  refine v_iload_n i_G_livesAt_0 rfl ?_
  refine v_if_lt (tgt := 46) i_G_livesAt_1 rfl (fun h1 => ?_) (fun h1 => ?_)
  · refine v_iconst (v := 0) i_G_livesAt_46 rfl ?_
    refine v_zret i_G_livesAt_47 rfl (Or.inl rfl) (by decide) (by decide) ⟨rfl, ?_⟩
    rw [glives, if_neg (fun q => absurd h1 (Int32.not_lt.mpr q.1))]; rfl
  refine v_iload_n i_G_livesAt_4 rfl ?_
  refine v_aload_n i_G_livesAt_5 rfl ?_
  refine v_get B i_G_livesAt_6 (by first | assumption | exact qset_self _ _ _ | (rw [qset_ne _ _ (by omega)]; first | assumption | exact qset_self _ _ _ | (rw [qset_ne _ _ (by omega)]; first | assumption | exact qset_self _ _ _ | (rw [qset_ne _ _ (by omega)]; first | assumption | exact qset_self _ _ _ | (rw [qset_ne _ _ (by omega)]; first | assumption | exact qset_self _ _ _ | (rw [qset_ne _ _ (by omega)]; first | assumption | exact qset_self _ _ _ | (rw [qset_ne _ _ (by omega)]; first | assumption | exact qset_self _ _ _))))))) rfl ?_
  refine v_icmp_ge (tgt := 46) i_G_livesAt_9 rfl (fun h9 => ?_) (fun h9 => ?_)
  · refine v_iconst (v := 0) i_G_livesAt_46 rfl ?_
    refine v_zret i_G_livesAt_47 rfl (Or.inl rfl) (by decide) (by decide) ⟨rfl, ?_⟩
    rw [glives, if_neg (fun q => absurd q.2 (Int32.not_lt.mpr h9))]; rfl
  obtain ⟨j, hj, rfl⟩ := nI_ix (by omega) h1 h9
  rw [glives_nI hj ok4]
  obtain ⟨g1, g2, g3, g4⟩ := hg j hj
  obtain ⟨o1, o2⟩ := ok5 j hj
  refine v_aload_n i_G_livesAt_12 rfl ?_
  refine v_get B i_G_livesAt_13 (by first | assumption | exact qset_self _ _ _ | (rw [qset_ne _ _ (by omega)]; first | assumption | exact qset_self _ _ _ | (rw [qset_ne _ _ (by omega)]; first | assumption | exact qset_self _ _ _ | (rw [qset_ne _ _ (by omega)]; first | assumption | exact qset_self _ _ _ | (rw [qset_ne _ _ (by omega)]; first | assumption | exact qset_self _ _ _ | (rw [qset_ne _ _ (by omega)]; first | assumption | exact qset_self _ _ _ | (rw [qset_ne _ _ (by omega)]; first | assumption | exact qset_self _ _ _))))))) rfl ?_
  refine v_iload_n i_G_livesAt_16 rfl ?_
  refine v_iald B (by first | assumption | exact qset_self _ _ _ | (rw [qset_ne _ _ (by omega)]; first | assumption | exact qset_self _ _ _ | (rw [qset_ne _ _ (by omega)]; first | assumption | exact qset_self _ _ _ | (rw [qset_ne _ _ (by omega)]; first | assumption | exact qset_self _ _ _ | (rw [qset_ne _ _ (by omega)]; first | assumption | exact qset_self _ _ _ | (rw [qset_ne _ _ (by omega)]; first | assumption | exact qset_self _ _ _ | (rw [qset_ne _ _ (by omega)]; first | assumption | exact qset_self _ _ _))))))) rfl (by omega) (by omega) i_G_livesAt_17 ?_
  refine v_iload_n i_G_livesAt_18 rfl ?_
  rw [g2]
  refine v_icmp_gt (tgt := 46) i_G_livesAt_19 rfl (fun h19 => ?_) (fun h19 => ?_)
  · refine v_iconst (v := 0) i_G_livesAt_46 rfl ?_
    refine v_zret i_G_livesAt_47 rfl (Or.inl rfl) (by decide) (by decide) ⟨rfl, ?_⟩
    have h2 : ¬ (en P.2.2.2 j).2.1 ≤ v := fun q => absurd h19 (nI_nlt q (by omega))
    simp [alv, h2, bI]
  have h2 : (en P.2.2.2 j).2.1 ≤ v := (nI_leI (by omega) (by omega)).mp (Int32.not_lt.mp h19)
  refine v_aload_n i_G_livesAt_22 rfl ?_
  refine v_get B i_G_livesAt_23 (by first | assumption | exact qset_self _ _ _ | (rw [qset_ne _ _ (by omega)]; first | assumption | exact qset_self _ _ _ | (rw [qset_ne _ _ (by omega)]; first | assumption | exact qset_self _ _ _ | (rw [qset_ne _ _ (by omega)]; first | assumption | exact qset_self _ _ _ | (rw [qset_ne _ _ (by omega)]; first | assumption | exact qset_self _ _ _ | (rw [qset_ne _ _ (by omega)]; first | assumption | exact qset_self _ _ _ | (rw [qset_ne _ _ (by omega)]; first | assumption | exact qset_self _ _ _))))))) rfl ?_
  refine v_iload_n i_G_livesAt_26 rfl ?_
  refine v_iald B (by first | assumption | exact qset_self _ _ _ | (rw [qset_ne _ _ (by omega)]; first | assumption | exact qset_self _ _ _ | (rw [qset_ne _ _ (by omega)]; first | assumption | exact qset_self _ _ _ | (rw [qset_ne _ _ (by omega)]; first | assumption | exact qset_self _ _ _ | (rw [qset_ne _ _ (by omega)]; first | assumption | exact qset_self _ _ _ | (rw [qset_ne _ _ (by omega)]; first | assumption | exact qset_self _ _ _ | (rw [qset_ne _ _ (by omega)]; first | assumption | exact qset_self _ _ _))))))) rfl (by omega) (by omega) i_G_livesAt_27 ?_
  refine v_iconst (v := (-1)) i_G_livesAt_28 rfl ?_
  rw [g3]
  refine v_icmp_eq (tgt := 42) i_G_livesAt_29 rfl (fun h29 => ?_) (fun h29 => ?_)
  · refine v_iconst (v := 1) i_G_livesAt_42 rfl ?_
    refine v_goto (tgt := 47) i_G_livesAt_43 rfl ?_
    refine v_zret i_G_livesAt_47 rfl (Or.inr rfl) (by decide) (by decide) ⟨rfl, ?_⟩
    have h3 := (vO_none o2).mp h29
    simp [alv, h2, h3, bI]
  refine v_iload_n i_G_livesAt_32 rfl ?_
  refine v_aload_n i_G_livesAt_33 rfl ?_
  refine v_get B i_G_livesAt_34 (by first | assumption | exact qset_self _ _ _ | (rw [qset_ne _ _ (by omega)]; first | assumption | exact qset_self _ _ _ | (rw [qset_ne _ _ (by omega)]; first | assumption | exact qset_self _ _ _ | (rw [qset_ne _ _ (by omega)]; first | assumption | exact qset_self _ _ _ | (rw [qset_ne _ _ (by omega)]; first | assumption | exact qset_self _ _ _ | (rw [qset_ne _ _ (by omega)]; first | assumption | exact qset_self _ _ _ | (rw [qset_ne _ _ (by omega)]; first | assumption | exact qset_self _ _ _))))))) rfl ?_
  refine v_iload_n i_G_livesAt_37 rfl ?_
  refine v_iald B (by first | assumption | exact qset_self _ _ _ | (rw [qset_ne _ _ (by omega)]; first | assumption | exact qset_self _ _ _ | (rw [qset_ne _ _ (by omega)]; first | assumption | exact qset_self _ _ _ | (rw [qset_ne _ _ (by omega)]; first | assumption | exact qset_self _ _ _ | (rw [qset_ne _ _ (by omega)]; first | assumption | exact qset_self _ _ _ | (rw [qset_ne _ _ (by omega)]; first | assumption | exact qset_self _ _ _ | (rw [qset_ne _ _ (by omega)]; first | assumption | exact qset_self _ _ _))))))) rfl (by omega) (by omega) i_G_livesAt_38 ?_
  rw [g3]
  cases hd : (en P.2.2.2 j).2.2.1 with
  | none => rw [hd] at h29; exact absurd rfl h29
  | some t =>
    refine v_icmp_ge (tgt := 46) i_G_livesAt_39 rfl (fun h39 => ?_) (fun h39 => ?_)
    · refine v_iconst (v := 0) i_G_livesAt_46 rfl ?_
      refine v_zret i_G_livesAt_47 rfl (Or.inl rfl) (by decide) (by decide) ⟨rfl, ?_⟩
      have h3 : t ≤ v := (vO_le (o2 t hd) hv).mp h39
      simp [alv, h2, hd, Nat.not_lt.mpr h3, bI]
    · refine v_iconst (v := 1) i_G_livesAt_42 rfl ?_
      refine v_goto (tgt := 47) i_G_livesAt_43 rfl ?_
      refine v_zret i_G_livesAt_47 rfl (Or.inr rfl) (by decide) (by decide) ⟨rfl, ?_⟩
      have h3 : ¬ t ≤ v := fun q => h39 ((vO_le (o2 t hd) hv).mpr q)
      simp [alv, h2, hd, Nat.not_le.mp h3, bI]
theorem c_G_lives (B : qB l s0 C) (h : PgAt X a num P) {j : Nat} (hj : j < P.2.2.2.length) (v : Nat) (hv : v < 2 ^ 30) : qMet l s0 C m_G_livesAt rm_G_livesAt [.ref a, .int (nI j), .int (nI v)] X (fun r X' => X = X' ∧ r = some (.int (bI (alv (en P.2.2.2 j) v)))) (fun _ _ => False) := by
  have := c_G_livesAt B h (nI j) v hv
  rw [glives_nI hj h.2.1.2.2.2.1] at this
  exact this
theorem c_G_keyAt (B : qB l s0 C) (h : PgAt X a num P) (i : Int32) : qMet l s0 C m_G_keyAt rm_G_keyAt [.ref a, .int i] X (fun r X' => X = X' ∧ r = some (.int (gkeyAt P i))) (fun _ _ => False) := by
  obtain ⟨h0, ⟨ok1, ok2, ok3, ok4, ok5⟩, fk, ff, ft, fw, hk, hf, ht, hw, hg⟩ := h
  refine q_of (by decide +kernel) (Nat.le_of_ble_eq_true rfl) ?_
  refine v_L (L' := [(0, .ref a), (1, .int i)]) rfl ?_
  refine v_iload_n i_G_keyAt_0 rfl ?_
  refine v_if_lt (tgt := 21) i_G_keyAt_1 rfl (fun h1 => ?_) (fun h1 => ?_)
  · refine v_iconst (v := 0) i_G_keyAt_21 rfl ?_
    refine v_iret i_G_keyAt_22 rfl (by decide) (by decide) ⟨rfl, ?_⟩
    rw [gkeyAt, if_neg (fun q => absurd h1 (Int32.not_lt.mpr q.1))]
  refine v_iload_n i_G_keyAt_4 rfl ?_
  refine v_aload_n i_G_keyAt_5 rfl ?_
  refine v_get B i_G_keyAt_6 (by first | assumption | exact qset_self _ _ _ | (rw [qset_ne _ _ (by omega)]; first | assumption | exact qset_self _ _ _ | (rw [qset_ne _ _ (by omega)]; first | assumption | exact qset_self _ _ _ | (rw [qset_ne _ _ (by omega)]; first | assumption | exact qset_self _ _ _ | (rw [qset_ne _ _ (by omega)]; first | assumption | exact qset_self _ _ _ | (rw [qset_ne _ _ (by omega)]; first | assumption | exact qset_self _ _ _ | (rw [qset_ne _ _ (by omega)]; first | assumption | exact qset_self _ _ _))))))) rfl ?_
  refine v_icmp_ge (tgt := 21) i_G_keyAt_9 rfl (fun h9 => ?_) (fun h9 => ?_)
  · refine v_iconst (v := 0) i_G_keyAt_21 rfl ?_
    refine v_iret i_G_keyAt_22 rfl (by decide) (by decide) ⟨rfl, ?_⟩
    rw [gkeyAt, if_neg (fun q => absurd q.2 (Int32.not_lt.mpr h9))]
  obtain ⟨j, hj, rfl⟩ := nI_ix (by omega) h1 h9
  refine v_aload_n i_G_keyAt_12 rfl ?_
  refine v_get B i_G_keyAt_13 (by first | assumption | exact qset_self _ _ _ | (rw [qset_ne _ _ (by omega)]; first | assumption | exact qset_self _ _ _ | (rw [qset_ne _ _ (by omega)]; first | assumption | exact qset_self _ _ _ | (rw [qset_ne _ _ (by omega)]; first | assumption | exact qset_self _ _ _ | (rw [qset_ne _ _ (by omega)]; first | assumption | exact qset_self _ _ _ | (rw [qset_ne _ _ (by omega)]; first | assumption | exact qset_self _ _ _ | (rw [qset_ne _ _ (by omega)]; first | assumption | exact qset_self _ _ _))))))) rfl ?_
  refine v_iload_n i_G_keyAt_16 rfl ?_
  refine v_iald B (by first | assumption | exact qset_self _ _ _ | (rw [qset_ne _ _ (by omega)]; first | assumption | exact qset_self _ _ _ | (rw [qset_ne _ _ (by omega)]; first | assumption | exact qset_self _ _ _ | (rw [qset_ne _ _ (by omega)]; first | assumption | exact qset_self _ _ _ | (rw [qset_ne _ _ (by omega)]; first | assumption | exact qset_self _ _ _ | (rw [qset_ne _ _ (by omega)]; first | assumption | exact qset_self _ _ _ | (rw [qset_ne _ _ (by omega)]; first | assumption | exact qset_self _ _ _))))))) rfl (by omega) (by omega) i_G_keyAt_17 ?_
  refine v_goto (tgt := 22) i_G_keyAt_18 rfl ?_
  refine v_iret i_G_keyAt_22 rfl (by decide) (by decide) ⟨rfl, ?_⟩
  rw [gkeyAt, if_pos ⟨Int32.not_lt.mp h1, Int32.not_le.mp h9⟩, nI_clamp (by omega), (hg j hj).1]
theorem c_G_fromAt (B : qB l s0 C) (h : PgAt X a num P) (i : Int32) : qMet l s0 C m_G_fromAt rm_G_fromAt [.ref a, .int i] X (fun r X' => X = X' ∧ r = some (.int (gfromAt P i))) (fun _ _ => False) := by
  obtain ⟨h0, ⟨ok1, ok2, ok3, ok4, ok5⟩, fk, ff, ft, fw, hk, hf, ht, hw, hg⟩ := h
  refine q_of (by decide +kernel) (Nat.le_of_ble_eq_true rfl) ?_
  refine v_L (L' := [(0, .ref a), (1, .int i)]) rfl ?_
  refine v_iload_n i_G_fromAt_0 rfl ?_
  refine v_if_lt (tgt := 21) i_G_fromAt_1 rfl (fun h1 => ?_) (fun h1 => ?_)
  · refine v_iconst (v := 0) i_G_fromAt_21 rfl ?_
    refine v_iret i_G_fromAt_22 rfl (by decide) (by decide) ⟨rfl, ?_⟩
    rw [gfromAt, if_neg (fun q => absurd h1 (Int32.not_lt.mpr q.1))]
  refine v_iload_n i_G_fromAt_4 rfl ?_
  refine v_aload_n i_G_fromAt_5 rfl ?_
  refine v_get B i_G_fromAt_6 (by first | assumption | exact qset_self _ _ _ | (rw [qset_ne _ _ (by omega)]; first | assumption | exact qset_self _ _ _ | (rw [qset_ne _ _ (by omega)]; first | assumption | exact qset_self _ _ _ | (rw [qset_ne _ _ (by omega)]; first | assumption | exact qset_self _ _ _ | (rw [qset_ne _ _ (by omega)]; first | assumption | exact qset_self _ _ _ | (rw [qset_ne _ _ (by omega)]; first | assumption | exact qset_self _ _ _ | (rw [qset_ne _ _ (by omega)]; first | assumption | exact qset_self _ _ _))))))) rfl ?_
  refine v_icmp_ge (tgt := 21) i_G_fromAt_9 rfl (fun h9 => ?_) (fun h9 => ?_)
  · refine v_iconst (v := 0) i_G_fromAt_21 rfl ?_
    refine v_iret i_G_fromAt_22 rfl (by decide) (by decide) ⟨rfl, ?_⟩
    rw [gfromAt, if_neg (fun q => absurd q.2 (Int32.not_lt.mpr h9))]
  obtain ⟨j, hj, rfl⟩ := nI_ix (by omega) h1 h9
  refine v_aload_n i_G_fromAt_12 rfl ?_
  refine v_get B i_G_fromAt_13 (by first | assumption | exact qset_self _ _ _ | (rw [qset_ne _ _ (by omega)]; first | assumption | exact qset_self _ _ _ | (rw [qset_ne _ _ (by omega)]; first | assumption | exact qset_self _ _ _ | (rw [qset_ne _ _ (by omega)]; first | assumption | exact qset_self _ _ _ | (rw [qset_ne _ _ (by omega)]; first | assumption | exact qset_self _ _ _ | (rw [qset_ne _ _ (by omega)]; first | assumption | exact qset_self _ _ _ | (rw [qset_ne _ _ (by omega)]; first | assumption | exact qset_self _ _ _))))))) rfl ?_
  refine v_iload_n i_G_fromAt_16 rfl ?_
  refine v_iald B (by first | assumption | exact qset_self _ _ _ | (rw [qset_ne _ _ (by omega)]; first | assumption | exact qset_self _ _ _ | (rw [qset_ne _ _ (by omega)]; first | assumption | exact qset_self _ _ _ | (rw [qset_ne _ _ (by omega)]; first | assumption | exact qset_self _ _ _ | (rw [qset_ne _ _ (by omega)]; first | assumption | exact qset_self _ _ _ | (rw [qset_ne _ _ (by omega)]; first | assumption | exact qset_self _ _ _ | (rw [qset_ne _ _ (by omega)]; first | assumption | exact qset_self _ _ _))))))) rfl (by omega) (by omega) i_G_fromAt_17 ?_
  refine v_goto (tgt := 22) i_G_fromAt_18 rfl ?_
  refine v_iret i_G_fromAt_22 rfl (by decide) (by decide) ⟨rfl, ?_⟩
  rw [gfromAt, if_pos ⟨Int32.not_lt.mp h1, Int32.not_le.mp h9⟩, nI_clamp (by omega), (hg j hj).2.1]
theorem c_G_toAt (B : qB l s0 C) (h : PgAt X a num P) (i : Int32) : qMet l s0 C m_G_toAt rm_G_toAt [.ref a, .int i] X (fun r X' => X = X' ∧ r = some (.int (gtoAt P i))) (fun _ _ => False) := by
  obtain ⟨h0, ⟨ok1, ok2, ok3, ok4, ok5⟩, fk, ff, ft, fw, hk, hf, ht, hw, hg⟩ := h
  refine q_of (by decide +kernel) (Nat.le_of_ble_eq_true rfl) ?_
  refine v_L (L' := [(0, .ref a), (1, .int i)]) rfl ?_
  refine v_iload_n i_G_toAt_0 rfl ?_
  refine v_if_lt (tgt := 21) i_G_toAt_1 rfl (fun h1 => ?_) (fun h1 => ?_)
  · refine v_iconst (v := (-1)) i_G_toAt_21 rfl ?_
    refine v_iret i_G_toAt_22 rfl (by decide) (by decide) ⟨rfl, ?_⟩
    rw [gtoAt, if_neg (fun q => absurd h1 (Int32.not_lt.mpr q.1))]
  refine v_iload_n i_G_toAt_4 rfl ?_
  refine v_aload_n i_G_toAt_5 rfl ?_
  refine v_get B i_G_toAt_6 (by first | assumption | exact qset_self _ _ _ | (rw [qset_ne _ _ (by omega)]; first | assumption | exact qset_self _ _ _ | (rw [qset_ne _ _ (by omega)]; first | assumption | exact qset_self _ _ _ | (rw [qset_ne _ _ (by omega)]; first | assumption | exact qset_self _ _ _ | (rw [qset_ne _ _ (by omega)]; first | assumption | exact qset_self _ _ _ | (rw [qset_ne _ _ (by omega)]; first | assumption | exact qset_self _ _ _ | (rw [qset_ne _ _ (by omega)]; first | assumption | exact qset_self _ _ _))))))) rfl ?_
  refine v_icmp_ge (tgt := 21) i_G_toAt_9 rfl (fun h9 => ?_) (fun h9 => ?_)
  · refine v_iconst (v := (-1)) i_G_toAt_21 rfl ?_
    refine v_iret i_G_toAt_22 rfl (by decide) (by decide) ⟨rfl, ?_⟩
    rw [gtoAt, if_neg (fun q => absurd q.2 (Int32.not_lt.mpr h9))]
  obtain ⟨j, hj, rfl⟩ := nI_ix (by omega) h1 h9
  refine v_aload_n i_G_toAt_12 rfl ?_
  refine v_get B i_G_toAt_13 (by first | assumption | exact qset_self _ _ _ | (rw [qset_ne _ _ (by omega)]; first | assumption | exact qset_self _ _ _ | (rw [qset_ne _ _ (by omega)]; first | assumption | exact qset_self _ _ _ | (rw [qset_ne _ _ (by omega)]; first | assumption | exact qset_self _ _ _ | (rw [qset_ne _ _ (by omega)]; first | assumption | exact qset_self _ _ _ | (rw [qset_ne _ _ (by omega)]; first | assumption | exact qset_self _ _ _ | (rw [qset_ne _ _ (by omega)]; first | assumption | exact qset_self _ _ _))))))) rfl ?_
  refine v_iload_n i_G_toAt_16 rfl ?_
  refine v_iald B (by first | assumption | exact qset_self _ _ _ | (rw [qset_ne _ _ (by omega)]; first | assumption | exact qset_self _ _ _ | (rw [qset_ne _ _ (by omega)]; first | assumption | exact qset_self _ _ _ | (rw [qset_ne _ _ (by omega)]; first | assumption | exact qset_self _ _ _ | (rw [qset_ne _ _ (by omega)]; first | assumption | exact qset_self _ _ _ | (rw [qset_ne _ _ (by omega)]; first | assumption | exact qset_self _ _ _ | (rw [qset_ne _ _ (by omega)]; first | assumption | exact qset_self _ _ _))))))) rfl (by omega) (by omega) i_G_toAt_17 ?_
  refine v_goto (tgt := 22) i_G_toAt_18 rfl ?_
  refine v_iret i_G_toAt_22 rfl (by decide) (by decide) ⟨rfl, ?_⟩
  rw [gtoAt, if_pos ⟨Int32.not_lt.mp h1, Int32.not_le.mp h9⟩, nI_clamp (by omega), (hg j hj).2.2.1]
theorem c_G_whatAt (B : qB l s0 C) (h : PgAt X a num P) (i : Int32) : qMet l s0 C m_G_whatAt rm_G_whatAt [.ref a, .int i] X (fun r X' => X = X' ∧ r = some (.long (gwhatAt P i))) (fun _ _ => False) := by
  obtain ⟨h0, ⟨ok1, ok2, ok3, ok4, ok5⟩, fk, ff, ft, fw, hk, hf, ht, hw, hg⟩ := h
  refine q_of (by decide +kernel) (Nat.le_of_ble_eq_true rfl) ?_
  refine v_L (L' := [(0, .ref a), (1, .int i)]) rfl ?_
  refine v_iload_n i_G_whatAt_0 rfl ?_
  refine v_if_lt (tgt := 21) i_G_whatAt_1 rfl (fun h1 => ?_) (fun h1 => ?_)
  · refine v_lconst (v := 0) i_G_whatAt_21 rfl ?_
    refine v_lret i_G_whatAt_22 rfl (by decide) (by decide) ⟨rfl, ?_⟩
    rw [gwhatAt, if_neg (fun q => absurd h1 (Int32.not_lt.mpr q.1))]
  refine v_iload_n i_G_whatAt_4 rfl ?_
  refine v_aload_n i_G_whatAt_5 rfl ?_
  refine v_get B i_G_whatAt_6 (by first | assumption | exact qset_self _ _ _ | (rw [qset_ne _ _ (by omega)]; first | assumption | exact qset_self _ _ _ | (rw [qset_ne _ _ (by omega)]; first | assumption | exact qset_self _ _ _ | (rw [qset_ne _ _ (by omega)]; first | assumption | exact qset_self _ _ _ | (rw [qset_ne _ _ (by omega)]; first | assumption | exact qset_self _ _ _ | (rw [qset_ne _ _ (by omega)]; first | assumption | exact qset_self _ _ _ | (rw [qset_ne _ _ (by omega)]; first | assumption | exact qset_self _ _ _))))))) rfl ?_
  refine v_icmp_ge (tgt := 21) i_G_whatAt_9 rfl (fun h9 => ?_) (fun h9 => ?_)
  · refine v_lconst (v := 0) i_G_whatAt_21 rfl ?_
    refine v_lret i_G_whatAt_22 rfl (by decide) (by decide) ⟨rfl, ?_⟩
    rw [gwhatAt, if_neg (fun q => absurd q.2 (Int32.not_lt.mpr h9))]
  obtain ⟨j, hj, rfl⟩ := nI_ix (by omega) h1 h9
  refine v_aload_n i_G_whatAt_12 rfl ?_
  refine v_get B i_G_whatAt_13 (by first | assumption | exact qset_self _ _ _ | (rw [qset_ne _ _ (by omega)]; first | assumption | exact qset_self _ _ _ | (rw [qset_ne _ _ (by omega)]; first | assumption | exact qset_self _ _ _ | (rw [qset_ne _ _ (by omega)]; first | assumption | exact qset_self _ _ _ | (rw [qset_ne _ _ (by omega)]; first | assumption | exact qset_self _ _ _ | (rw [qset_ne _ _ (by omega)]; first | assumption | exact qset_self _ _ _ | (rw [qset_ne _ _ (by omega)]; first | assumption | exact qset_self _ _ _))))))) rfl ?_
  refine v_iload_n i_G_whatAt_16 rfl ?_
  refine v_lald B (by first | assumption | exact qset_self _ _ _ | (rw [qset_ne _ _ (by omega)]; first | assumption | exact qset_self _ _ _ | (rw [qset_ne _ _ (by omega)]; first | assumption | exact qset_self _ _ _ | (rw [qset_ne _ _ (by omega)]; first | assumption | exact qset_self _ _ _ | (rw [qset_ne _ _ (by omega)]; first | assumption | exact qset_self _ _ _ | (rw [qset_ne _ _ (by omega)]; first | assumption | exact qset_self _ _ _ | (rw [qset_ne _ _ (by omega)]; first | assumption | exact qset_self _ _ _))))))) rfl (by omega) (by omega) i_G_whatAt_17 ?_
  refine v_goto (tgt := 22) i_G_whatAt_18 rfl ?_
  refine v_lret i_G_whatAt_22 rfl (by decide) (by decide) ⟨rfl, ?_⟩
  rw [gwhatAt, if_pos ⟨Int32.not_lt.mp h1, Int32.not_le.mp h9⟩, nI_clamp (by omega), (hg j hj).2.2.2]
theorem c_G_hasRoomFor (B : qB l s0 C) (h : PgAt X a num P) (n : Nat) (hn : n < 1000) : qMet l s0 C m_G_hasRoomFor rm_G_hasRoomFor [.ref a, .int (nI n)] X (fun r X' => X = X' ∧ r = some (.int (bI (decide (P.2.2.2.length + n ≤ 16))))) (fun _ _ => False) := by
  obtain ⟨h0, ⟨ok1, ok2, ok3, ok4, ok5⟩, -⟩ := h
  refine q_of (by decide +kernel) (Nat.le_of_ble_eq_true rfl) ?_
  refine v_L (L' := [(0, .ref a), (1, .int (nI n))]) rfl ?_
  refine v_aload_n i_G_hasRoomFor_0 rfl ?_
  refine v_get B i_G_hasRoomFor_1 (by first | assumption | exact qset_self _ _ _ | (rw [qset_ne _ _ (by omega)]; first | assumption | exact qset_self _ _ _ | (rw [qset_ne _ _ (by omega)]; first | assumption | exact qset_self _ _ _ | (rw [qset_ne _ _ (by omega)]; first | assumption | exact qset_self _ _ _ | (rw [qset_ne _ _ (by omega)]; first | assumption | exact qset_self _ _ _ | (rw [qset_ne _ _ (by omega)]; first | assumption | exact qset_self _ _ _ | (rw [qset_ne _ _ (by omega)]; first | assumption | exact qset_self _ _ _))))))) rfl ?_
  refine v_iload_n i_G_hasRoomFor_4 rfl ?_
  refine v_iadd i_G_hasRoomFor_5 ?_
  refine v_bipush (v := 16) i_G_hasRoomFor_6 rfl ?_
  rw [nI_add, show (16 : Int32) = nI 16 from rfl]
  refine v_icmp_gt (tgt := 15) i_G_hasRoomFor_8 rfl (fun h8 => ?_) (fun h8 => ?_)
  · refine v_iconst (v := 0) i_G_hasRoomFor_15 rfl ?_
    refine v_zret i_G_hasRoomFor_16 rfl (Or.inl rfl) (by decide) (by decide) ⟨rfl, ?_⟩
    have := (nI_ltI (by omega) (by omega)).mp h8
    simp [bI]; omega
  · refine v_iconst (v := 1) i_G_hasRoomFor_11 rfl ?_
    refine v_goto (tgt := 16) i_G_hasRoomFor_12 rfl ?_
    refine v_zret i_G_hasRoomFor_16 rfl (Or.inr rfl) (by decide) (by decide) ⟨rfl, ?_⟩
    have : ¬ 16 < P.2.2.2.length + n := fun q => h8 (nI_lt q (by omega))
    simp [bI]; omega
theorem c_G_living_loop (B : qB l s0 C) (h : PgAt X a num P) (v : Nat) (hv : v < 2 ^ 30) : ∀ (j i : Nat), i + j = P.2.2.2.length →
      qV l s0 C m_G_living rm_G_living (fun r X' => X = X' ∧ r = some (.int (nI (gliving P.2.2.2 v P.2.2.2.length)))) (fun _ _ => False) 0 0 X 4 [(0, .ref a), (1, .int (nI v)), (2, .int (nI (gliving P.2.2.2 v i))), (3, .int (nI i))] [] := by
  obtain ⟨h0, ⟨ok1, ok2, ok3, ok4, ok5⟩, fk, ff, ft, fw, hk, hf, ht, hw, hg⟩ := id h
  intro j
  induction j with
  | zero =>
    intro i hi
    refine v_iload_n i_G_living_4 rfl ?_
    refine v_aload_n i_G_living_5 rfl ?_
    refine v_get B i_G_living_6 (by first | assumption | exact qset_self _ _ _ | (rw [qset_ne _ _ (by omega)]; first | assumption | exact qset_self _ _ _ | (rw [qset_ne _ _ (by omega)]; first | assumption | exact qset_self _ _ _ | (rw [qset_ne _ _ (by omega)]; first | assumption | exact qset_self _ _ _ | (rw [qset_ne _ _ (by omega)]; first | assumption | exact qset_self _ _ _ | (rw [qset_ne _ _ (by omega)]; first | assumption | exact qset_self _ _ _ | (rw [qset_ne _ _ (by omega)]; first | assumption | exact qset_self _ _ _))))))) rfl ?_
    refine v_icmp_ge (tgt := 35) i_G_living_9 rfl (fun h9 => ?_) (fun h9 => ?_)
    · refine v_iload_n i_G_living_35 rfl ?_
      refine v_iret i_G_living_36 rfl (by decide) (by decide) ⟨rfl, ?_⟩
      rw [show i = P.2.2.2.length by omega]
    · exact absurd (nI_le (by omega) (by omega)) h9
  | succ j ih =>
    intro i hi
    refine v_iload_n i_G_living_4 rfl ?_
    refine v_aload_n i_G_living_5 rfl ?_
    refine v_get B i_G_living_6 (by first | assumption | exact qset_self _ _ _ | (rw [qset_ne _ _ (by omega)]; first | assumption | exact qset_self _ _ _ | (rw [qset_ne _ _ (by omega)]; first | assumption | exact qset_self _ _ _ | (rw [qset_ne _ _ (by omega)]; first | assumption | exact qset_self _ _ _ | (rw [qset_ne _ _ (by omega)]; first | assumption | exact qset_self _ _ _ | (rw [qset_ne _ _ (by omega)]; first | assumption | exact qset_self _ _ _ | (rw [qset_ne _ _ (by omega)]; first | assumption | exact qset_self _ _ _))))))) rfl ?_
    refine v_icmp_ge (tgt := 35) i_G_living_9 rfl (fun h9 => ?_) (fun h9 => ?_)
    · exact absurd h9 (nI_ge (by omega) (by omega))
    refine v_iload_n i_G_living_12 rfl ?_
    refine v_aload_n i_G_living_13 rfl ?_
    refine v_iload_n i_G_living_14 rfl ?_
    refine v_iload_n i_G_living_15 rfl ?_
    refine v_inv B i_G_living_16 kn_m_G_livesAt (c_G_lives B h (j := i) (by omega) v hv) (by first | assumption | exact qset_self _ _ _ | (rw [qset_ne _ _ (by omega)]; first | assumption | exact qset_self _ _ _ | (rw [qset_ne _ _ (by omega)]; first | assumption | exact qset_self _ _ _ | (rw [qset_ne _ _ (by omega)]; first | assumption | exact qset_self _ _ _ | (rw [qset_ne _ _ (by omega)]; first | assumption | exact qset_self _ _ _ | (rw [qset_ne _ _ (by omega)]; first | assumption | exact qset_self _ _ _ | (rw [qset_ne _ _ (by omega)]; first | assumption | exact qset_self _ _ _))))))) rfl rfl (Nat.le_of_ble_eq_true rfl) ⟨by decide, by decide, by first | decide | (simp; omega), by first | decide | (simp; omega)⟩ rfl (fun r X' hq => ?_) (fun _ _ h => False.elim h)
    obtain ⟨rfl, rfl⟩ := hq
    have h9 := ih (i + 1) (by omega)
    refine v_if_eq (tgt := 26) i_G_living_19 rfl (fun h19 => ?_) (fun h19 => ?_)
    · refine v_iconst (v := 0) i_G_living_26 rfl ?_
      refine v_iadd i_G_living_27 ?_
      refine v_istore_n i_G_living_28 (by decide) rfl ?_
      refine v_iinc (v := nI (i + 1)) i_G_living_29 rfl (nI_1 i) (by decide) rfl ?_
      refine v_goto (tgt := 4) i_G_living_32 rfl ?_
      refine v_loc [(0, .ref a), (1, .int (nI v)), (2, .int (nI (gliving P.2.2.2 v (i + 1)))), (3, .int (nI (i + 1)))] ?_ h9
      rw [gliving, if_neg (by rw [bI_0.mp h19]; decide)]
      rw [show nI (gliving P.2.2.2 v i + 0) = nI (gliving P.2.2.2 v i) + 0 from (nI_add _ 0).symm]
      rfl
    · refine v_iconst (v := 1) i_G_living_22 rfl ?_
      refine v_goto (tgt := 27) i_G_living_23 rfl ?_
      refine v_iadd i_G_living_27 ?_
      refine v_istore_n i_G_living_28 (by decide) rfl ?_
      refine v_iinc (v := nI (i + 1)) i_G_living_29 rfl (nI_1 i) (by decide) rfl ?_
      refine v_goto (tgt := 4) i_G_living_32 rfl ?_
      refine v_loc [(0, .ref a), (1, .int (nI v)), (2, .int (nI (gliving P.2.2.2 v (i + 1)))), (3, .int (nI (i + 1)))] ?_ h9
      have : alv (en P.2.2.2 i) v = true := by
        cases q : alv (en P.2.2.2 i) v with
        | true => rfl
        | false => rw [q] at h19; exact absurd rfl h19
      rw [gliving, if_pos this]
      rw [show nI (gliving P.2.2.2 v i + 1) = nI (gliving P.2.2.2 v i) + 1 from (nI_1 _).symm]
      rfl
theorem c_G_living (B : qB l s0 C) (h : PgAt X a num P) (v : Nat) (hv : v < 2 ^ 30) : qMet l s0 C m_G_living rm_G_living [.ref a, .int (nI v)] X (fun r X' => X = X' ∧ r = some (.int (nI (gliving P.2.2.2 v P.2.2.2.length)))) (fun _ _ => False) := by
  refine q_of (by decide +kernel) (Nat.le_of_ble_eq_true rfl) ?_
  refine v_L (L' := [(0, .ref a), (1, .int (nI v))]) rfl ?_
  refine v_iconst (v := 0) i_G_living_0 rfl ?_
  refine v_istore_n i_G_living_1 (by decide) rfl ?_
  refine v_iconst (v := 0) i_G_living_2 rfl ?_
  refine v_istore_n i_G_living_3 (by decide) rfl ?_
  refine v_loc [(0, .ref a), (1, .int (nI v)), (2, .int (nI 0)), (3, .int (nI 0))] rfl ?_
  exact c_G_living_loop B h v hv _ 0 (Nat.zero_add _)
end PG
