/-! the reference: blocks written, checkpoints -/
/-- a contract that says less -/
theorem q_imp {l : Launch} {s0 : State} {C : qC} {μ : qM} {rm : Room} {As : List Value} {X : qX} {Qp Qp' : Option Value → qX → Prop} {Ep Ep' : String → qX → Prop} (h : qMet l s0 C μ rm As X Qp Ep) (hq : ∀ r X', Qp r X' → Qp' r X') (he : ∀ e X', Ep e X' → Ep' e X') : qMet l s0 C μ rm As X Qp' Ep' := by
  intro p e h1 h2 h3 s m args below h4 h5 h6 h7
  obtain ⟨n, o, g1, g2, g3, g4⟩ := h p e h1 h2 h3 s m args below h4 h5 h6 h7
  refine ⟨n, o, g1, g2, g3, ?_⟩
  rcases g4 with ⟨⟨v, X1, e1, e2, e3⟩, r⟩ | ⟨q, e1, E, ce, L, ⟨X1, x1, x2⟩, r⟩
  · exact Or.inl ⟨⟨v, X1, e1, e2, hq v X1 e3⟩, r⟩
  · exact Or.inr ⟨q, e1, E, ce, L, ⟨X1, x1, he E X1 x2⟩, r⟩
def MG (s : Nat → Int32) (I : Nat → Nat → Int32) (J : Nat → Nat → Int64) (pgK : Nat → Pg) (madeK : Nat) (D : Dk) (op : Nat → Int32 × Int64 × Bool) : Prop :=
  (s 11 = nI madeK ∧ (1 ≤ madeK ∧ madeK ≤ 256) ∧ ∀ p, p < madeK → mPg I J (256 + p) (pgK p)) ∧
  (s 13 = nI D.2.2.1 ∧ s 20 = nI D.1.length ∧ s 25 = bI D.2.2.2.2 ∧ s 26 = (if D.2.2.2.2 = true then -1 else vO D.2.2.2.1) ∧ s 27 = nI D.2.1) ∧
  (D.1.length ≤ 40 ∧ oLt D.2.2.2.1 (2 ^ 31)) ∧
  (∀ b, b < D.1.length → I 11 b = nI (lg D.1 b).1 ∧ (lg D.1 b).1 ≤ 4 ∧ I 12 b = bI (lg D.1 b).2 ∧ ∀ i, i < (lg D.1 b).1 → mrc (I 13 (4 * b + i)) (I 14 (4 * b + i)) (J 15 (4 * b + i)) (op (D.2.2.1 + dsn D.1 b + i)))
theorem MD.toG {s : Nat → Int32} {I : Nat → Nat → Int32} {J : Nat → Nat → Int64} {pgK : Nat → Pg} {madeK lat : Nat} {D : Dk} {op : Nat → Int32 × Int64 × Bool} (h : MD s I J pgK madeK lat D op) : MG s I J pgK madeK D op := by
  obtain ⟨a, ⟨b1, b2, b3, b4, b5, b6⟩, ⟨c1, c2, c3⟩, d, e⟩ := h
  exact ⟨a, ⟨b1, b2, b4, b5, b6⟩, ⟨c1, c2⟩, d⟩
theorem MG.toD {s : Nat → Int32} {I : Nat → Nat → Int32} {J : Nat → Nat → Int64} {pgK : Nat → Pg} {madeK lat : Nat} {D : Dk} {op : Nat → Int32 × Int64 × Bool} (h : MG s I J pgK madeK D op) (h1 : s 21 = nI (if D.2.2.2.2 = true then 0 else lat - dlat D)) (h2 : dlat D ≤ lat) (h3 : D.2.2.2.2 = false → ∀ i, i < lat - dlat D → mrc (I 16 i) (I 17 i) (J 18 i) (op (dlat D + i))) : MD s I J pgK madeK lat D op := by
  obtain ⟨a, ⟨b1, b2, b4, b5, b6⟩, ⟨c1, c2⟩, d⟩ := h
  exact ⟨a, ⟨b1, b2, h1, b4, b5, b6⟩, ⟨c1, c2, h2⟩, d, h3⟩
theorem MG.keep {s s' : Nat → Int32} {I I' : Nat → Nat → Int32} {J J' : Nat → Nat → Int64} {pgK : Nat → Pg} {madeK : Nat} {D : Dk} {op : Nat → Int32 × Int64 × Bool} {A S : List Nat} (h : MG s I J pgK madeK D op) (hsn : mSn I J I' J') (hk : mK A I J I' J') (hs : sK S s s')
    (hA : (A.contains 11 || A.contains 12 || A.contains 13 || A.contains 14 || A.contains 15) = false) (hS : (S.contains 11 || S.contains 13 || S.contains 20 || S.contains 25 || S.contains 26 || S.contains 27) = false) : MG s' I' J' pgK madeK D op := by
  simp only [Bool.or_eq_false_iff] at hA hS
  have f : ∀ (A : List Nat) a, A.contains a = false → a ∉ A := fun A a ha q => by rw [List.contains_iff_mem.mpr q] at ha; cases ha
  obtain ⟨⟨⟨⟨x11, x12⟩, x13⟩, x14⟩, x15⟩ := hA
  obtain ⟨⟨⟨⟨⟨y11, y13⟩, y20⟩, y25⟩, y26⟩, y27⟩ := hS
  obtain ⟨⟨a1, a2, a3⟩, ⟨b1, b2, b4, b5, b6⟩, c, d⟩ := h
  refine ⟨⟨by rw [hs 11 (f _ _ y11)]; exact a1, a2, fun p hp => hsn _ _ (by omega) (by omega) (a3 p hp)⟩, ⟨by rw [hs 13 (f _ _ y13)]; exact b1, by rw [hs 20 (f _ _ y20)]; exact b2, by rw [hs 25 (f _ _ y25)]; exact b4, by rw [hs 26 (f _ _ y26)]; exact b5, by rw [hs 27 (f _ _ y27)]; exact b6⟩, c, fun b hb => ?_⟩
  rw [(hk 11 (f _ _ x11)).1, (hk 12 (f _ _ x12)).1, (hk 13 (f _ _ x13)).1, (hk 14 (f _ _ x14)).1, (hk 15 (f _ _ x15)).2]
  exact d b hb
/-- blocks written one after another -/
def dwn : Nat → Dk → Bool × Dk
  | 0, D => (true, D)
  | j + 1, D => if (dwr D).1 = true then dwn j (dwr D).2 else (false, (dwr D).2)
theorem dwn_end : ∀ (j : Nat) (D : Dk), dwn (j + 1) D = if (dwn j D).1 = true then ((dwr (dwn j D).2).1, (dwr (dwn j D).2).2) else dwn j D
  | 0, D => by
    rw [dwn, dwn, if_pos rfl]
    cases h : (dwr D).1
    · rw [if_neg (by decide)]
    · rw [if_pos rfl]; rfl
  | j + 1, D => by
    rw [dwn]
    by_cases h : (dwr D).1 = true
    · rw [if_pos h, dwn_end j, dwn, if_pos h]
    · rw [if_neg h, dwn, if_neg h, if_neg (show ¬ (false, (dwr D).2).1 = true from fun q => (nomatch q))]
theorem dwp_dwn : ∀ (j n : Nat) (D : Dk), (dwp j n D).1 = (dwn j D).1 ∧ (dwp j n D).2.2 = (dwn j D).2
  | 0, n, D => ⟨rfl, rfl⟩
  | j + 1, n, D => by
    rw [dwp, dwn]
    by_cases h : (dwr D).1 = true
    · rw [if_pos h, if_pos h]; exact dwp_dwn j (n + 1) _
    · rw [if_neg h, if_neg h]; exact ⟨rfl, rfl⟩
theorem dck_dwn (D : Dk) (dirty lat : Nat) : ((dwn (dirty + 1) D).1 = true → dck D dirty lat = (dirty + 1, [], (dwn (dirty + 1) D).2.2.1, lat, (dwn (dirty + 1) D).2.2.2.2)) ∧ ((dwn (dirty + 1) D).1 = false → (dck D dirty lat).2 = (dwn (dirty + 1) D).2) := by
  obtain ⟨e1, e2⟩ := dwp_dwn dirty 0 D
  rw [dwn_end]
  unfold dck
  cases hp : dwp dirty 0 D with
  | mk b r =>
    obtain ⟨n, D'⟩ := r
    rw [hp] at e1 e2
    dsimp only at e1 e2
    rw [← e1, ← e2]
    cases b with
    | false =>
      rw [if_neg (by decide), ← show (false, D') = dwn dirty D from by rw [e1, e2]]
      exact ⟨fun q => (nomatch q), fun _ => rfl⟩
    | true =>
      rw [if_pos rfl]
      dsimp only
      cases hw : (dwr D').1 with
      | true => rw [if_pos rfl]; exact ⟨fun _ => rfl, fun q => (nomatch q)⟩
      | false => rw [if_neg (by decide)]; exact ⟨fun q => (nomatch q), fun _ => rfl⟩
theorem dwr_cases (D : Dk) : (D.2.2.2.1 = some 0 ∧ dwr D = (false, D.1, D.2.1, D.2.2.1, D.2.2.2.1, true)) ∨ (¬ D.2.2.2.1 = some 0 ∧ dwr D = (true, D.1, D.2.1 + 1, D.2.2.1, D.2.2.2.1.map (fun t => t - 1), D.2.2.2.2)) := by
  unfold dwr
  by_cases h : D.2.2.2.1 = some 0
  · rw [if_pos h]; exact Or.inl ⟨h, rfl⟩
  · rw [if_neg h]; exact Or.inr ⟨h, rfl⟩
theorem dwn_fix : ∀ (j : Nat) (D : Dk), (dwn j D).2.1 = D.1 ∧ (dwn j D).2.2.2.1 = D.2.2.1 ∧ ((dwn j D).1 = true → (dwn j D).2.2.2.2.2 = D.2.2.2.2) ∧ ((dwn j D).1 = false → (dwn j D).2.2.2.2.2 = true)
  | 0, D => ⟨rfl, rfl, fun _ => rfl, fun q => (nomatch q)⟩
  | j + 1, D => by
    rw [dwn]
    rcases dwr_cases D with ⟨h1, h2⟩ | ⟨h1, h2⟩
    · rw [h2, if_neg (fun q => (nomatch q))]; exact ⟨rfl, rfl, fun q => (nomatch q), fun _ => rfl⟩
    · rw [h2, if_pos rfl]; exact dwn_fix j _
section MW
variable {X X' : qX} {m : Nat} {s : Nat → Int32} {I : Nat → Nat → Int32} {J : Nat → Nat → Int64} {cd : Int32}
variable {pg : Nat → Pg} {made lat : Nat} {ro : Nat → Nat} {pgK : Nat → Pg} {madeK : Nat} {D : Dk} {op : Nat → Int32 × Int64 × Bool}
variable {l : Launch} {s0 : State} {C : qC}
/-- a block is written, or the power goes -/
theorem c_M_writesG (B : qB l s0 C) (h : MAt X m s I J) (hG : MG s I J pgK madeK D op) (hd : D.2.2.2.2 = false) : qMet l s0 C m_M_writes rm_M_writes [.ref m] X (fun r X' => r = some (.int (bI (dwr D).1)) ∧ ∃ s', MAt X' m s' I J ∧ MG s' I J pgK madeK (dwr D).2 op ∧ sK [21, 25, 26, 27] s s' ∧ ((dwr D).1 = true → s' 21 = s 21) ∧ ((dwr D).1 = false → s' 21 = 0) ∧ qSame X X' m (m + 30)) (fun _ _ => False) := by
  obtain ⟨a, ⟨b1, b2, b4, b5, b6⟩, ⟨c1, c2⟩, d⟩ := id hG
  rw [hd, if_neg (by decide)] at b5
  refine q_imp (c_M_writes B h b5 c2 b6) (fun r X' hq => ?_) (fun _ _ z => z)
  obtain ⟨rfl, h1, f1⟩ := hq
  rcases dwr_cases D with ⟨e1, e2⟩ | ⟨e1, e2⟩
  · rw [if_pos e1] at h1
    rw [e2]
    refine ⟨by rw [decide_eq_true e1]; rfl, _, h1, ⟨⟨by rw [pk_un (by decide), pk_un (by decide), pk_un (by decide)]; exact a.1, a.2⟩, ⟨?_, ?_, ?_, ?_, ?_⟩, ⟨c1, c2⟩, d⟩, (((sK.rf _ _).set (by decide)).set (by decide)).set (by decide), fun q => (nomatch q), fun _ => pk_us, f1⟩
    · rw [pk_un (by decide), pk_un (by decide), pk_un (by decide)]; exact b1
    · rw [pk_un (by decide), pk_un (by decide), pk_un (by decide)]; exact b2
    · rw [pk_un (by decide), pk_un (by decide), pk_us]; rfl
    · rw [pk_un (by decide), pk_us, if_pos rfl]
    · rw [pk_un (by decide), pk_un (by decide), pk_un (by decide)]; exact b6
  · rw [if_neg e1] at h1
    rw [e2]
    refine ⟨by rw [decide_eq_false e1]; rfl, _, h1, ⟨⟨by rw [pk_un (by decide), pk_un (by decide)]; exact a.1, a.2⟩, ⟨?_, ?_, ?_, ?_, ?_⟩, ⟨c1, ?_⟩, d⟩, ((sK.rf _ _).set (by decide)).set (by decide), fun _ => by rw [pk_un (by decide), pk_un (by decide)], fun q => (nomatch q), f1⟩
    · rw [pk_un (by decide), pk_un (by decide)]; exact b1
    · rw [pk_un (by decide), pk_un (by decide)]; exact b2
    · rw [pk_un (by decide), pk_un (by decide)]; exact b4
    · rw [pk_un (by decide), pk_us]; rw [show (D.1, D.2.1 + 1, D.2.2.1, D.2.2.2.1.map (fun t => t - 1), D.2.2.2.2).2.2.2.2 = false from hd, if_neg (by decide)]
    · exact pk_us
    · intro t ht
      cases hc : D.2.2.2.1 with
      | none => rw [show (D.1, D.2.1 + 1, D.2.2.1, D.2.2.2.1.map (fun t => t - 1), D.2.2.2.2).2.2.2.1 = D.2.2.2.1.map (fun t => t - 1) from rfl, hc] at ht; cases ht
      | some u =>
        rw [show (D.1, D.2.1 + 1, D.2.2.1, D.2.2.2.1.map (fun t => t - 1), D.2.2.2.2).2.2.2.1 = D.2.2.2.1.map (fun t => t - 1) from rfl, hc] at ht
        have := c2 u hc
        cases ht
        show u - 1 < 2 ^ 31
        omega
theorem c_M_cp_w (B : qB l s0 C) {N : Nat} (hN : N < 1000) {Qp : Option Value → qX → Prop} (Kt : ∀ (X2 : qX) (s2 : Nat → Int32), (dwn N D).1 = true → MAt X2 m s2 I J → MG s2 I J pgK madeK (dwn N D).2 op → sK [21, 25, 26, 27] s s2 → qSame X X2 m (m + 30) → qV l s0 C m_M_checkpoint rm_M_checkpoint Qp (fun _ _ => False) 0 0 X2 43 [(0, .ref m), (1, .int (nI N))] [])
    (Kf : ∀ (X2 : qX) (s2 : Nat → Int32), (dwn N D).1 = false → MAt X2 m s2 I J → MG s2 I J pgK madeK (dwn N D).2 op → sK [0, 21, 25, 26, 27] s s2 → s2 21 = 0 → s2 0 = 1 → qSame X X2 m (m + 30) → Qp (some (.int 0)) X2) :
    ∀ (j b : Nat) (D' : Dk) (X' : qX) (s' : Nat → Int32), b + j = N → MAt X' m s' I J → MG s' I J pgK madeK D' op → D'.2.2.2.2 = false → dwn N D = dwn j D' → sK [21, 25, 26, 27] s s' → qSame X X' m (m + 30) →
      qV l s0 C m_M_checkpoint rm_M_checkpoint Qp (fun _ _ => False) 0 0 X' 18 [(0, .ref m), (1, .int (nI N)), (2, .int (nI b))] [] := by
  intro j
  induction j with
  | zero =>
    intro b D' X' s' hj h hG hd hw hs hf
    refine v_iload_n i_M_checkpoint_18 rfl ?_
    refine v_iload_n i_M_checkpoint_19 rfl ?_
    refine v_icmp_ge (tgt := 43) i_M_checkpoint_20 rfl (fun _ => ?_) (fun q => absurd (nI_le (by omega) (by omega)) q)
    exact v_loc [(0, .ref m), (1, .int (nI N))] rfl (Kt X' s' (by rw [hw]; rfl) h (by rw [hw]; exact hG) hs hf)
  | succ j ih =>
    intro b D' X' s' hj h hG hd hw hs hf
    obtain ⟨h0, -⟩ := id h
    refine v_iload_n i_M_checkpoint_18 rfl ?_
    refine v_iload_n i_M_checkpoint_19 rfl ?_
    refine v_icmp_ge (tgt := 43) i_M_checkpoint_20 rfl (fun q => absurd q (nI_ge (by omega) (by omega))) (fun _ => ?_)
    refine v_aload_n i_M_checkpoint_23 rfl ?_
    refine v_inv B i_M_checkpoint_24 kn_m_M_writes (c_M_writesG B h hG hd) h0 rfl rfl (Nat.le_of_ble_eq_true rfl) ⟨by decide, by decide, by first | decide | (simp; omega), by first | decide | (simp; omega)⟩ rfl (fun r X' hq => ?_) (fun _ _ h => False.elim h)
    obtain ⟨rfl, s2, h2, hG2, hs2, h21, h21', f2⟩ := hq
    cases hr : (dwr D').1 with
    | true =>
      refine v_if_ne (tgt := 37) i_M_checkpoint_27 rfl (fun _ => ?_) (fun q => absurd q (by decide))
      refine v_iinc (v := nI (b + 1)) i_M_checkpoint_37 rfl (nI_1 _) (by decide) rfl ?_
      refine v_goto (tgt := 18) i_M_checkpoint_40 rfl ?_
      have hdn : (dwr D').2.2.2.2.2 = false := by
        rcases dwr_cases D' with ⟨e1, e2⟩ | ⟨e1, e2⟩
        · rw [e2] at hr; cases hr
        · rw [e2]; exact hd
      refine v_loc [(0, .ref m), (1, .int (nI N)), (2, .int (nI (b + 1)))] rfl (ih (b + 1) (dwr D').2 _ s2 (by omega) h2 hG2 hdn (by rw [hw, dwn, if_pos hr]) (hs.trans hs2) (hf.trans f2))
    | false =>
      refine v_if_ne (tgt := 37) i_M_checkpoint_27 rfl (fun q => absurd rfl q) (fun _ => ?_)
      refine v_aload_n i_M_checkpoint_30 rfl ?_
      refine v_iconst (v := 1) i_M_checkpoint_31 rfl ?_
      refine v_mput B h2 (j := 0) i_M_checkpoint_32 (Nat.le_of_ble_eq_true rfl) rfl rfl rfl (fun X3 h3 f3 => ?_)
      refine v_iconst (v := 0) i_M_checkpoint_35 rfl ?_
      have ew : dwn N D = (false, (dwr D').2) := by rw [hw, dwn, if_neg (by rw [hr]; decide)]
      refine v_iret i_M_checkpoint_36 rfl (by decide) (by decide) (Kf X3 _ (by rw [ew]) h3 (by rw [ew]; exact hG2.keep (mSn.rf _ _) (mK.rf [] _ _) ((sK.rf [0] s2).set (by decide)) (by decide) (by decide)) (((hs.trans hs2).mono (by decide)).set (by decide)) (by rw [pk_un (by decide)]; exact h21' hr) pk_us ((hf.trans f2).trans f3))
theorem c_M_cp_d (B : qB l s0 C) (z1 : Int32) {n : Nat} (hn : n ≤ 256) (e10 : s 10 = nI n) {Qp : Option Value → qX → Prop} (K : ∀ (X2 : qX) (I2 : Nat → Nat → Int32), MAt X2 m s I2 J → (∀ p, p < n → I2 5 p = 0) → mK [5] I J I2 J → qSame X X2 m (m + 30) → qV l s0 C m_M_checkpoint rm_M_checkpoint Qp (fun _ _ => False) 0 0 X2 94 [(0, .ref m), (1, .int z1)] []) :
    ∀ (j p : Nat) (X' : qX) (I' : Nat → Nat → Int32), p + j = n → MAt X' m s I' J → (∀ t, t < p → I' 5 t = 0) → mK [5] I J I' J → qSame X X' m (m + 30) →
      qV l s0 C m_M_checkpoint rm_M_checkpoint Qp (fun _ _ => False) 0 0 X' 73 [(0, .ref m), (1, .int z1), (2, .int (nI p))] [] := by
  intro j
  induction j with
  | zero =>
    intro p X' I' hj h ha hk hf
    obtain ⟨h0, -⟩ := id h
    refine v_iload_n i_M_checkpoint_73 rfl ?_
    refine v_aload_n i_M_checkpoint_74 rfl ?_
    refine v_get B i_M_checkpoint_75 (by first | assumption | exact qset_self _ _ _ | (rw [qset_ne _ _ (by omega)]; first | assumption | exact qset_self _ _ _ | (rw [qset_ne _ _ (by omega)]; first | assumption | exact qset_self _ _ _ | (rw [qset_ne _ _ (by omega)]; first | assumption | exact qset_self _ _ _ | (rw [qset_ne _ _ (by omega)]; first | assumption | exact qset_self _ _ _ | (rw [qset_ne _ _ (by omega)]; first | assumption | exact qset_self _ _ _ | (rw [qset_ne _ _ (by omega)]; first | assumption | exact qset_self _ _ _))))))) rfl ?_
    rw [e10]
    refine v_icmp_ge (tgt := 94) i_M_checkpoint_78 rfl (fun _ => ?_) (fun q => absurd (nI_le (by omega) (by omega)) q)
    exact v_loc [(0, .ref m), (1, .int z1)] rfl (K X' I' h (fun t ht => ha t (by omega)) hk hf)
  | succ j ih =>
    intro p X' I' hj h ha hk hf
    obtain ⟨h0, -⟩ := id h
    refine v_iload_n i_M_checkpoint_73 rfl ?_
    refine v_aload_n i_M_checkpoint_74 rfl ?_
    refine v_get B i_M_checkpoint_75 (by first | assumption | exact qset_self _ _ _ | (rw [qset_ne _ _ (by omega)]; first | assumption | exact qset_self _ _ _ | (rw [qset_ne _ _ (by omega)]; first | assumption | exact qset_self _ _ _ | (rw [qset_ne _ _ (by omega)]; first | assumption | exact qset_self _ _ _ | (rw [qset_ne _ _ (by omega)]; first | assumption | exact qset_self _ _ _ | (rw [qset_ne _ _ (by omega)]; first | assumption | exact qset_self _ _ _ | (rw [qset_ne _ _ (by omega)]; first | assumption | exact qset_self _ _ _))))))) rfl ?_
    rw [e10]
    refine v_icmp_ge (tgt := 94) i_M_checkpoint_78 rfl (fun q => absurd q (nI_ge (by omega) (by omega))) (fun _ => ?_)
    refine v_aload_n i_M_checkpoint_81 rfl ?_
    refine v_get B i_M_checkpoint_82 (by first | assumption | exact qset_self _ _ _ | (rw [qset_ne _ _ (by omega)]; first | assumption | exact qset_self _ _ _ | (rw [qset_ne _ _ (by omega)]; first | assumption | exact qset_self _ _ _ | (rw [qset_ne _ _ (by omega)]; first | assumption | exact qset_self _ _ _ | (rw [qset_ne _ _ (by omega)]; first | assumption | exact qset_self _ _ _ | (rw [qset_ne _ _ (by omega)]; first | assumption | exact qset_self _ _ _ | (rw [qset_ne _ _ (by omega)]; first | assumption | exact qset_self _ _ _))))))) rfl ?_
    refine v_iload_n i_M_checkpoint_85 rfl ?_
    refine v_iconst (v := 0) i_M_checkpoint_86 rfl ?_
    refine v_mzst B h (a := 5) (N := 256) (j := p) rfl rfl (by decide) (by decide) (rfl) (by omega) (by omega) (by first | exact Or.inl rfl | exact Or.inr rfl | assumption | exact bI_01 _) i_M_checkpoint_87 (fun X2 h2 f2 => ?_)
    refine v_iinc (v := nI (p + 1)) i_M_checkpoint_88 rfl (nI_1 _) (by decide) rfl ?_
    refine v_goto (tgt := 73) i_M_checkpoint_91 rfl ?_
    refine v_loc [(0, .ref m), (1, .int z1), (2, .int (nI (p + 1)))] rfl (ih (p + 1) X2 _ (by omega) h2 (fun t ht => ?_) (hk.int (by decide)) (hf.trans f2))
    rw [mIu_self]
    by_cases q : t = p
    · subst q; exact pk_us
    · rw [pk_un q]; exact ha t (by omega)
theorem c_M_checkpoint (B : qB l s0 C) (h : MR X m cd pg made lat ro pgK madeK D op) (hcl : ∀ p, p < made → gchg (pg p) lat = false) :
    qMet l s0 C m_M_checkpoint rm_M_checkpoint [.ref m] X (fun r X' => (D.2.2.2.2 = true ∧ MR X' m 1 pg made lat ro pgK madeK D op ∨ D.2.2.2.2 = false ∧ (dck D (tchg pg D.2.2.1 made) lat).2.2.2.2.2 = true ∧ MR X' m 1 pg made lat ro pgK madeK (dck D (tchg pg D.2.2.1 made) lat).2 op ∨ D.2.2.2.2 = false ∧ (dck D (tchg pg D.2.2.1 made) lat).2.2.2.2.2 = false ∧ r = some (.int (nI (dck D (tchg pg D.2.2.1 made) lat).1)) ∧ (dck D (tchg pg D.2.2.1 made) lat).2.1 = [] ∧ (dck D (tchg pg D.2.2.1 made) lat).2.2.2.1 = lat ∧ MR X' m 0 pg made lat ro pg made (dck D (tchg pg D.2.2.1 made) lat).2 op) ∧ (∃ z, r = some (.int z)) ∧ qSame X X' m (m + 30)) (fun _ _ => False) := by
  obtain ⟨s, I, J, h, hcd, hT, hD⟩ := h
  have hb := hD.2.1.2.2.2.1
  obtain ⟨t1, ⟨t2, t2b, t2c, t2d⟩, t3, t4, t5, t6⟩ := id hT
  obtain ⟨h0, -⟩ := id h
  refine q_of (by decide +kernel) (Nat.le_of_ble_eq_true rfl) ?_
  refine v_L (L' := [(0, .ref m)]) rfl ?_
  refine v_aload_n i_M_checkpoint_0 rfl ?_
  refine v_inv B i_M_checkpoint_1 kn_m_M_isDown (c_M_isDown B h hb) h0 rfl rfl (Nat.le_of_ble_eq_true rfl) ⟨by decide, by decide, by first | decide | (simp; omega), by first | decide | (simp; omega)⟩ rfl (fun r X' hq => ?_) (fun _ _ h => False.elim h)
  obtain ⟨rfl, h1, f1⟩ := hq
  have ho := mRO.of h1 f1
  obtain ⟨k0, -⟩ := id h1
  cases hdn : D.2.2.2.2 with
  | true =>
    rw [hdn] at ho
    refine v_if_eq (tgt := 9) i_M_checkpoint_4 rfl (fun q => absurd q (by decide)) (fun _ => ?_)
    refine v_iconst (v := 0) i_M_checkpoint_7 rfl ?_
    exact v_iret i_M_checkpoint_8 rfl (by decide) (by decide) ⟨Or.inl ⟨rfl, MR.rd hT hD ho⟩, ⟨_, rfl⟩, f1⟩
  | false =>
    rw [hdn] at h1
    have hs1 : sK [0] s (upd s 0 (bI false)) := (sK.rf _ _).set (by decide)
    have hT1 := hT.keep (A := []) (mK.rf _ _ _) hs1 (by decide) (by decide)
    have hD1 := hD.keep (mSn.rf _ _) (mK.rf [] _ _) hs1 (by decide) (by decide)
    have hc1 : upd s 0 (bI false) 0 = 0 := by rw [pk_us]; rfl
    generalize upd s 0 (bI false) = s1 at h1 hs1 hT1 hD1 hc1
    refine v_if_eq (tgt := 9) i_M_checkpoint_4 rfl (fun _ => ?_) (fun q => absurd rfl q)
    refine v_aload_n i_M_checkpoint_9 rfl ?_
    refine v_inv B i_M_checkpoint_10 kn_m_M_dirtyPages (c_M_dirtyPages B h1 hT1) k0 rfl rfl (Nat.le_of_ble_eq_true rfl) ⟨by decide, by decide, by first | decide | (simp; omega), by first | decide | (simp; omega)⟩ rfl (fun r X' hq => ?_) (fun _ _ h => False.elim h)
    obtain ⟨rfl, rfl⟩ := hq
    have hdl := tchg_le pg D.2.2.1 made
    obtain ⟨dk1, dk2⟩ := dck_dwn D (tchg pg D.2.2.1 made) lat
    have dfx := dwn_fix (tchg pg D.2.2.1 made + 1) D
    have hlow := hD1.2.2.1.2.2
    refine v_iconst (v := 1) i_M_checkpoint_13 rfl ?_
    refine v_iadd i_M_checkpoint_14 ?_
    refine v_istore_n i_M_checkpoint_15 (by decide) rfl ?_
    refine v_iconst (v := 0) i_M_checkpoint_16 rfl ?_
    refine v_istore_n i_M_checkpoint_17 (by decide) rfl ?_
    rw [nI_1]
    refine v_loc [(0, .ref m), (1, .int (nI (tchg pg D.2.2.1 made + 1))), (2, .int (nI 0))] rfl ?_
    refine c_M_cp_w (X := X') (s := s1) (D := D) B (N := tchg pg D.2.2.1 made + 1) (by omega) (fun X2 s2 hw h2 hG2 hs2 hf2 => ?_) (fun X2 s2 hw h2 hG2 hs2 h21 h20 hf2 => ?_) (tchg pg D.2.2.1 made + 1) 0 D X' s1 (by omega) h1 hD1.toG hdn rfl (sK.rf _ _) (qSame.rf _ _ _)
    · -- all blocks were written
      have hck := dk1 hw
      have hdn2 : (dwn (tchg pg D.2.2.1 made + 1) D).2.2.2.2.2 = false := by rw [dfx.2.2.1 hw]; exact hdn
      obtain ⟨b0, -⟩ := id h2
      have hT2 := hT1.keep (mK.rf [] _ _) hs2 (by decide) (by decide)
      obtain ⟨u1, u2, u3, u4, u5, u6⟩ := id hT2
      refine v_aload_n i_M_checkpoint_43 rfl ?_
      refine v_sipush (v := 256) i_M_checkpoint_44 rfl ?_
      refine v_iconst (v := 0) i_M_checkpoint_47 rfl ?_
      refine v_aload_n i_M_checkpoint_48 rfl ?_
      refine v_get B i_M_checkpoint_49 (by first | assumption | exact qset_self _ _ _ | (rw [qset_ne _ _ (by omega)]; first | assumption | exact qset_self _ _ _ | (rw [qset_ne _ _ (by omega)]; first | assumption | exact qset_self _ _ _ | (rw [qset_ne _ _ (by omega)]; first | assumption | exact qset_self _ _ _ | (rw [qset_ne _ _ (by omega)]; first | assumption | exact qset_self _ _ _ | (rw [qset_ne _ _ (by omega)]; first | assumption | exact qset_self _ _ _ | (rw [qset_ne _ _ (by omega)]; first | assumption | exact qset_self _ _ _))))))) rfl ?_
      rw [u1]
      refine v_inv B i_M_checkpoint_52 kn_m_M_copyPages (c_M_copyPages (T := 256) (S := 0) (n := made) B h2 (by omega) (by omega) (by omega)) b0 rfl rfl (Nat.le_of_ble_eq_true rfl) ⟨by decide, by decide, by first | decide | (simp; omega), by first | decide | (simp; omega)⟩ rfl (fun r X' hq => ?_) (fun _ _ h => False.elim h)
      obtain ⟨rfl, I3, J3, h3, hc3, hk3, hf3⟩ := hq
      obtain ⟨c0, -⟩ := id h3
      refine v_aload_n i_M_checkpoint_55 rfl ?_
      refine v_aload_n i_M_checkpoint_56 rfl ?_
      refine v_get B i_M_checkpoint_57 (by first | assumption | exact qset_self _ _ _ | (rw [qset_ne _ _ (by omega)]; first | assumption | exact qset_self _ _ _ | (rw [qset_ne _ _ (by omega)]; first | assumption | exact qset_self _ _ _ | (rw [qset_ne _ _ (by omega)]; first | assumption | exact qset_self _ _ _ | (rw [qset_ne _ _ (by omega)]; first | assumption | exact qset_self _ _ _ | (rw [qset_ne _ _ (by omega)]; first | assumption | exact qset_self _ _ _ | (rw [qset_ne _ _ (by omega)]; first | assumption | exact qset_self _ _ _))))))) rfl ?_
      rw [u1]
      refine v_mput B h3 (j := 11) i_M_checkpoint_60 (Nat.le_of_ble_eq_true rfl) rfl rfl rfl (fun X4 h4 f4 => ?_)
      obtain ⟨d0, -⟩ := id h4
      refine v_aload_n i_M_checkpoint_63 rfl ?_
      refine v_aload_n i_M_checkpoint_64 rfl ?_
      refine v_get B i_M_checkpoint_65 (by first | assumption | exact qset_self _ _ _ | (rw [qset_ne _ _ (by omega)]; first | assumption | exact qset_self _ _ _ | (rw [qset_ne _ _ (by omega)]; first | assumption | exact qset_self _ _ _ | (rw [qset_ne _ _ (by omega)]; first | assumption | exact qset_self _ _ _ | (rw [qset_ne _ _ (by omega)]; first | assumption | exact qset_self _ _ _ | (rw [qset_ne _ _ (by omega)]; first | assumption | exact qset_self _ _ _ | (rw [qset_ne _ _ (by omega)]; first | assumption | exact qset_self _ _ _))))))) rfl ?_
      rw [pk_un (by decide), u3]
      refine v_mput B h4 (j := 13) i_M_checkpoint_68 (Nat.le_of_ble_eq_true rfl) rfl rfl rfl (fun X5 h5 f5 => ?_)
      have e10 : upd (upd s2 11 (nI made)) 13 (nI lat) 10 = nI made := by rw [pk_un (by decide), pk_un (by decide)]; exact u1
      refine v_iconst (v := 0) i_M_checkpoint_71 rfl ?_
      refine v_istore_n i_M_checkpoint_72 (by decide) rfl ?_
      refine v_loc [(0, .ref m), (1, .int (nI (tchg pg D.2.2.1 made + 1))), (2, .int (nI 0))] rfl ?_
      refine c_M_cp_d (X := X5) (I := I3) (J := J3) B _ t2b e10 (fun X6 I6 h6 ha6 hk6 hf6 => ?_) made 0 X5 I3 (by omega) h5 (fun t ht => by omega) (mK.rf _ _ _) (qSame.rf _ _ _)
      refine v_aload_n i_M_checkpoint_94 rfl ?_
      refine v_iconst (v := 0) i_M_checkpoint_95 rfl ?_
      refine v_mput B h6 (j := 20) i_M_checkpoint_96 (Nat.le_of_ble_eq_true rfl) rfl rfl rfl (fun X7 h7 f7 => ?_)
      refine v_aload_n i_M_checkpoint_99 rfl ?_
      refine v_iconst (v := 0) i_M_checkpoint_100 rfl ?_
      refine v_mput B h7 (j := 21) i_M_checkpoint_101 (Nat.le_of_ble_eq_true rfl) rfl rfl rfl (fun X8 h8 f8 => ?_)
      refine v_iload_n i_M_checkpoint_104 rfl ?_
      rw [hck]
      refine v_iret i_M_checkpoint_105 rfl (by decide) (by decide) ⟨Or.inr (Or.inr ⟨rfl, hdn2, rfl, rfl, rfl, _, I6, J3, h8, ?_, ?_, ?_⟩), ⟨_, rfl⟩, ((((((f1.trans hf2).trans hf3).trans f4).trans f5).trans hf6).trans f7).trans f8⟩
      · rw [pk_un (by decide), pk_un (by decide), pk_un (by decide), pk_un (by decide), hs2 0 (by decide)]; exact hc1
      · -- the tree
        refine ⟨?_, u2, ?_, fun p hp => ((hc3.other (q := p) (by omega) (u4 p hp)).keep hk6 (by decide)), fun w hw => ?_, fun p hp => ?_⟩
        · rw [pk_un (by decide), pk_un (by decide), pk_un (by decide), pk_un (by decide)]; exact u1
        · rw [pk_un (by decide), pk_un (by decide), pk_un (by decide), pk_un (by decide)]; exact u3
        · rw [(hk6 10 (by decide)).1, (hk3 10 (by decide)).1]; exact u5 w hw
        · rw [ha6 p hp]
          show (0 : Int32) = bI (gchg (pg p) lat)
          rw [hcl p hp]; rfl
      · obtain ⟨⟨a1, a2, a3⟩, ⟨b1, b2, b4, b5, b6⟩, ⟨c1, c2⟩, d⟩ := id hG2
        refine ⟨⟨?_, ⟨t2, t2b⟩, fun p hp => ?_⟩, ⟨?_, ?_, ?_, ?_, ?_, ?_⟩, ⟨by show 0 ≤ 40; omega, c2, by show lat + 0 ≤ lat; omega⟩, fun b hb => absurd hb (Nat.not_lt_zero _), fun _ i hi => ?_⟩
        · rw [pk_un (by decide), pk_un (by decide), pk_un (by decide), pk_us]
        · exact ((hc3.page hp (by rw [Nat.zero_add]; exact u4 p hp)).keep hk6 (by decide))
        · rw [pk_un (by decide), pk_un (by decide), pk_us]
        · rw [pk_un (by decide), pk_us]; rfl
        · rw [pk_us]
          show (0 : Int32) = nI (if (dwn (tchg pg D.2.2.1 made + 1) D).2.2.2.2.2 = true then 0 else lat - (lat + 0))
          rw [hdn2, if_neg (by decide), show lat - (lat + 0) = 0 by omega]; rfl
        · rw [pk_un (by decide), pk_un (by decide), pk_un (by decide), pk_un (by decide)]; exact b4
        · rw [pk_un (by decide), pk_un (by decide), pk_un (by decide), pk_un (by decide)]; exact b5
        · rw [pk_un (by decide), pk_un (by decide), pk_un (by decide), pk_un (by decide)]; exact b6
        · have : i < lat - (lat + 0) := hi
          omega
    · -- the power went
      have hck := dk2 hw
      have hdn2 := dfx.2.2.2 hw
      rw [hck]
      have hT2 := hT1.keep (mK.rf [] _ _) hs2 (by decide) (by decide)
      have hdl2 : dlat (dwn (tchg pg D.2.2.1 made + 1) D).2 = dlat D := by unfold dlat; rw [dfx.1, dfx.2.1]
      refine ⟨Or.inr (Or.inl ⟨rfl, hdn2, s2, I, J, h2, h20, ?_, hG2.toD ?_ (by rw [hdl2]; exact hlow) (fun q => by rw [hdn2] at q; cases q)⟩), ⟨_, rfl⟩, f1.trans hf2⟩
      · rw [dfx.2.1]; exact hT2
      · rw [h21, hdn2, if_pos rfl]; rfl
end MW
