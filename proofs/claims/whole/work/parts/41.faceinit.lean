/-! a PastTree is made -/
section PI
variable {X : qX} {x : Nat} {l : Launch} {s0 : State} {C : qC}
set_option maxHeartbeats 2000000 in
theorem c_P_init (B : qB l s0 C) (h0 : X.1 x = some (.inr (4, qz 4))) (ha : X.2 = x + 1) : qMet l s0 C m_P_init rm_P_init [.ref x] X (fun r X' => r = none ∧ PtAt X' x (x + 25) 1 (fun _ => x + 2) (fun _ => (0, 0, none, [])) 1 0 (fun _ => 0) (fun _ => none) 0 0 0 [] [] 0 ([], 0, 0, none, false) [] [] ∧ X'.2 = x + 25 ∧ ∀ q, q < x → X'.1 q = X.1 q) (fun _ _ => False) := by
  refine q_of (by decide +kernel) (Nat.le_of_ble_eq_true rfl) ?_
  refine v_L (L' := [(0, .ref x)]) rfl ?_
  refine v_aload_n i_P_init_0 rfl ?_
  refine v_obj B i_P_init_1 wo_1 wo_2 (by decide) (by decide) ?_
  refine v_aload_n i_P_init_4 rfl ?_
  refine v_new B (N := 12) i_P_init_5 rfl (by decide) (by decide) ?_
  refine v_dup i_P_init_8 rfl ?_
  refine v_invI B i_P_init_9 kn_m_T_init (c_T_init B (qnew_self _ _) (qnew_2 _ _)) rfl rfl (Nat.le_of_ble_eq_true rfl) ⟨by decide, by decide, by decide, by decide⟩ rfl (fun r X' hq => ?_) (fun _ _ h => False.elim h)
  obtain ⟨rfl, hT, zT, oT⟩ := hq
  rw [ha] at hT zT oT ⊢
  have o1 : ∀ q, q < x + 1 → X'.1 q = X.1 q := fun q hq => (oT q hq).trans (qnew_ne _ _ (by omega))
  generalize X' = X1 at hT zT o1 ⊢
  refine v_put B i_P_init_12 ((o1 x (by omega)).trans h0) (Nat.le_of_ble_eq_true rfl) rfl rfl ?_
  obtain ⟨X2, e2⟩ : ∃ Y, Y = qset X1 x (.inr (4, (qz 4).set 0 (.ref (x + 1)))) := ⟨_, rfl⟩
  rw [← e2]
  have z2 : X2.2 = x + 16 := by rw [e2, qset_2, zT]
  have s2 : X2.1 x = some (.inr (4, [.ref (x + 1), .null, .null, .null])) := by rw [e2, qset_self]; rfl
  have o2 : ∀ q, x < q → X2.1 q = X1.1 q := fun q hq => by rw [e2, qset_ne _ _ (by omega)]
  have q2 : ∀ q, q < x → X2.1 q = X.1 q := fun q hq => by rw [e2, qset_ne _ _ (by omega)]; exact o1 q (by omega)
  clear e2 o1 oT
  refine v_aload_n i_P_init_15 rfl ?_
  refine v_new B (N := 7) i_P_init_16 rfl (by decide) (by decide) ?_
  refine v_dup i_P_init_19 rfl ?_
  refine v_invI B i_P_init_20 kn_m_D_init (c_D_init B (qnew_self _ _) (qnew_2 _ _)) rfl rfl (Nat.le_of_ble_eq_true rfl) ⟨by decide, by decide, by decide, by decide⟩ rfl (fun r X' hq => ?_) (fun _ _ h => False.elim h)
  obtain ⟨rfl, hD, zD, oD⟩ := hq
  rw [z2] at hD zD oD ⊢
  have o3 : ∀ q, q < x + 16 → X'.1 q = X2.1 q := fun q hq => (oD q hq).trans (qnew_ne _ _ (by omega))
  generalize X' = X3 at hD zD o3 ⊢
  refine v_put B i_P_init_23 ((o3 x (by omega)).trans s2) (Nat.le_of_ble_eq_true rfl) rfl rfl ?_
  obtain ⟨X4, e4⟩ : ∃ Y, Y = qset X3 x (.inr (4, [Value.ref (x + 1), .null, .null, .null].set 1 (.ref (x + 16)))) := ⟨_, rfl⟩
  rw [← e4]
  have z4 : X4.2 = x + 19 := by rw [e4, qset_2, zD]
  have s4 : X4.1 x = some (.inr (4, [.ref (x + 1), .ref (x + 16), .null, .null])) := by rw [e4, qset_self]; rfl
  have o4 : ∀ q, q ≠ x → X4.1 q = X3.1 q := fun q hq => by rw [e4, qset_ne _ _ hq]
  clear e4 oD
  refine v_aload_n i_P_init_26 rfl ?_
  refine v_new B (N := 3) i_P_init_27 rfl (by decide) (by decide) ?_
  refine v_dup i_P_init_30 rfl ?_
  refine v_sipush (v := 800) i_P_init_31 rfl ?_
  refine v_invI B i_P_init_34 kn_m_R_init (c_R_init B (z := qz 2) 800 (by omega) (qnew_self _ _) rfl (qnew_2 _ _)) rfl rfl (Nat.le_of_ble_eq_true rfl) ⟨by decide, by decide, by decide, by decide⟩ rfl (fun r X' hq => ?_) (fun _ _ h => False.elim h)
  obtain ⟨rfl, hF, zF, oF⟩ := hq
  rw [z4] at hF zF oF ⊢
  have o5 : ∀ q, q < x + 19 → X'.1 q = X4.1 q := fun q hq => (oF q hq).trans (qnew_ne _ _ (by omega))
  generalize X' = X5 at hF zF o5 ⊢
  refine v_put B i_P_init_37 ((o5 x (by omega)).trans s4) (Nat.le_of_ble_eq_true rfl) rfl rfl ?_
  obtain ⟨X6, e6⟩ : ∃ Y, Y = qset X5 x (.inr (4, [Value.ref (x + 1), .ref (x + 16), .null, .null].set 2 (.ref (x + 19)))) := ⟨_, rfl⟩
  rw [← e6]
  have z6 : X6.2 = x + 22 := by rw [e6, qset_2, zF]
  have s6 : X6.1 x = some (.inr (4, [.ref (x + 1), .ref (x + 16), .ref (x + 19), .null])) := by rw [e6, qset_self]; rfl
  have o6 : ∀ q, q ≠ x → X6.1 q = X5.1 q := fun q hq => by rw [e6, qset_ne _ _ hq]
  clear e6 oF
  refine v_aload_n i_P_init_40 rfl ?_
  refine v_new B (N := 3) i_P_init_41 rfl (by decide) (by decide) ?_
  refine v_dup i_P_init_44 rfl ?_
  refine v_sipush (v := 800) i_P_init_45 rfl ?_
  refine v_invI B i_P_init_48 kn_m_R_init (c_R_init B (z := qz 2) 800 (by omega) (qnew_self _ _) rfl (qnew_2 _ _)) rfl rfl (Nat.le_of_ble_eq_true rfl) ⟨by decide, by decide, by decide, by decide⟩ rfl (fun r X' hq => ?_) (fun _ _ h => False.elim h)
  obtain ⟨rfl, hO, zO, oO⟩ := hq
  rw [z6] at hO zO oO ⊢
  have o7 : ∀ q, q < x + 22 → X'.1 q = X6.1 q := fun q hq => (oO q hq).trans (qnew_ne _ _ (by omega))
  generalize X' = X7 at hO zO o7 ⊢
  refine v_put B i_P_init_51 ((o7 x (by omega)).trans s6) (Nat.le_of_ble_eq_true rfl) rfl rfl ?_
  obtain ⟨X8, e8⟩ : ∃ Y, Y = qset X7 x (.inr (4, [Value.ref (x + 1), .ref (x + 16), .ref (x + 19), .null].set 3 (.ref (x + 22)))) := ⟨_, rfl⟩
  rw [← e8]
  have z8 : X8.2 = x + 25 := by rw [e8, qset_2, zO]
  have s8 : X8.1 x = some (.inr (4, [.ref (x + 1), .ref (x + 16), .ref (x + 19), .ref (x + 22)])) := by rw [e8, qset_self]; rfl
  have o8 : ∀ q, q ≠ x → X8.1 q = X7.1 q := fun q hq => by rw [e8, qset_ne _ _ hq]
  clear e8 oO
  have c5 : ∀ q, q ≠ x → q < x + 22 → X8.1 q = X5.1 q := fun q h1 h2 => by rw [o8 q h1, o7 q h2, o6 q h1]
  have c3 : ∀ q, q ≠ x → q < x + 19 → X8.1 q = X3.1 q := fun q h1 h2 => by rw [c5 q h1 (by omega), o5 q h2, o4 q h1]
  have c1 : ∀ q, x < q → q < x + 16 → X8.1 q = X1.1 q := fun q h1 h2 => by rw [c3 q (by omega) (by omega), o3 q h2, o2 q h1]
  refine v_vret i_P_init_54 rfl (by decide) (by decide) ⟨rfl, ⟨s8, ?_, ?_, hF.cells (fun q a b => c5 q (by omega) (by omega)), hO.cells (fun q a b => o8 q (by omega)), Nat.le_refl _, by omega, fun i h1 h2 => by omega⟩, z8, ?_⟩
  · obtain ⟨a1, ⟨bk, a2, a3, a4⟩, ⟨fr, a5, a6⟩, ⟨pf, a7, a8⟩, a9, a10, a11, a12, a13, a14, a15, a16, a17, a18⟩ := hT
    refine ⟨by rw [c1 _ (by omega) (by omega)]; exact a1, ⟨bk, by rw [c1 _ (by omega) (by omega)]; exact a2, a3, a4⟩, ⟨fr, by rw [c1 _ (by omega) (by omega)]; exact a5, a6⟩, ⟨pf, by rw [c1 _ (by omega) (by omega)]; exact a7, a8⟩, a9.cells (fun q a b => c1 q (by omega) (by omega)), a10.cells (fun q a b => c1 q (by omega) (by omega)), ?_, a12, a13, a14, rfl, fun i j h1 h2 => by omega, fun i h1 h2 => by omega, by omega⟩
    intro i hi
    exact (a11 i hi).cells (fun q a b => by have a1 : x + 2 ≤ q := a; have b1 : q < x + 2 + 5 := b; exact c1 q (by omega) (by omega))
  · obtain ⟨d1, d2, d3, d4, fr, fs, d5, d6, d7⟩ := hD
    exact ⟨by rw [c3 _ (by omega) (by omega)]; exact d1, d2, d3, d4, fr, fs, by rw [c3 _ (by omega) (by omega)]; exact d5, by rw [c3 _ (by omega) (by omega)]; exact d6, d7⟩
  · intro q hq
    rw [c3 q (by omega) (by omega), o3 q (by omega)]
    exact q2 q hq
/-- a new one, seen with room behind it for others -/
theorem PtAt.raise {X' : qX} {E : Nat} {pg : Nat → Pg} {made lat : Nat} {ro : Nat → Nat} {pn : Nat → Option Nat} {fe : Int64} {g1 g2 : Int32} {co li : qRw} {db : Nat} {D : Dk} {F O : qRw} (h : PtAt X x (x + 25) 1 (fun _ => x + 2) pg made lat ro pn fe g1 g2 co li db D F O) (hs : ∀ q, x ≤ q → q < x + 25 → X'.1 q = X.1 q) (h1 : x + 25 ≤ E) (h2 : E ≤ X'.2) : PtS X' x E pg made lat ro db D := by
  obtain ⟨h0, ⟨a1, ⟨bk, a2, a3, a4⟩, ⟨fr, a5, a6⟩, ⟨pf, a7, a8⟩, a9, a10, a11, a12, a13, a14, a15, a16, a17, a18⟩, ⟨d1, d2, d3, d4, dr, ds, d5, d6, d7⟩, hF, hO, -, -, -⟩ := h
  refine ⟨1, fun _ => x + 2, pn, fe, g1, g2, co, li, F, O, by rw [hs _ (by omega) (by omega)]; exact h0, ⟨by rw [hs _ (by omega) (by omega)]; exact a1, ⟨bk, by rw [hs _ (by omega) (by omega)]; exact a2, a3, a4⟩, ⟨fr, by rw [hs _ (by omega) (by omega)]; exact a5, a6⟩, ⟨pf, by rw [hs _ (by omega) (by omega)]; exact a7, a8⟩, a9.cells (fun q a b => hs q (by omega) (by omega)), a10.cells (fun q a b => hs q (by omega) (by omega)), fun i hi => (a11 i hi).cells (fun q a b => by have a1 : x + 2 ≤ q := a; have b1 : q < x + 2 + 5 := b; exact hs q (by omega) (by omega)), a12, a13, a14, rfl, fun i j h1 h2 => by omega, fun i h1 h2 => by omega, by omega⟩,
    ⟨by rw [hs _ (by omega) (by omega)]; exact d1, d2, d3, d4, dr, ds, by rw [hs _ (by omega) (by omega)]; exact d5, by rw [hs _ (by omega) (by omega)]; exact d6, d7⟩, hF.cells (fun q a b => hs q (by omega) (by omega)), hO.cells (fun q a b => hs q (by omega) (by omega)), h1, h2, fun i h1 h2 => by omega⟩
/-- .. and with others' cells changed -/
theorem PtS.keep {X' : qX} {E : Nat} {pg : Nat → Pg} {made lat : Nat} {ro : Nat → Nat} {db : Nat} {D : Dk} (h : PtS X x E pg made lat ro db D) (hs : ∀ q, (q < x + 25 ∨ E ≤ q) → X'.1 q = X.1 q) (h2 : X.2 ≤ X'.2) : PtS X' x E pg made lat ro db D := by
  obtain ⟨cnt, pa, pn, fe, g1, g2, co, li, F, O, h0, hT, ⟨d1, d2, d3, d4, dr, ds, d5, d6, d7⟩, hF, hO, e1, e2, e3⟩ := h
  have hpa : ∀ i, i < cnt → pa i + 5 ≤ x + 25 ∨ E ≤ pa i := by
    intro i hi
    rcases Nat.eq_zero_or_pos i with q | q
    · subst q
      obtain ⟨-, -, -, -, -, -, -, -, -, -, a15, -⟩ := hT
      omega
    · exact Or.inr (e3 i q hi)
  obtain ⟨a1, ⟨bk, a2, a3, a4⟩, ⟨fr, a5, a6⟩, ⟨pf, a7, a8⟩, a9, a10, a11, a12, a13, a14, a15, a16, a17, a18⟩ := hT
  refine ⟨cnt, pa, pn, fe, g1, g2, co, li, F, O, by rw [hs _ (by omega)]; exact h0, ⟨by rw [hs _ (by omega)]; exact a1, ⟨bk, by rw [hs _ (by omega)]; exact a2, a3, a4⟩, ⟨fr, by rw [hs _ (by omega)]; exact a5, a6⟩, ⟨pf, by rw [hs _ (by omega)]; exact a7, a8⟩, a9.cells (fun q a b => hs q (by omega)), a10.cells (fun q a b => hs q (by omega)), fun i hi => (a11 i hi).cells (fun q a b => hs q (by have := hpa i hi; omega)), a12, a13, a14, a15, a16, fun i h3 h4 => ⟨(a17 i h3 h4).1, by have := (a17 i h3 h4).2; omega⟩, by omega⟩,
    ⟨by rw [hs _ (by omega)]; exact d1, d2, d3, d4, dr, ds, by rw [hs _ (by omega)]; exact d5, by rw [hs _ (by omega)]; exact d6, d7⟩, hF.cells (fun q a b => hs q (by omega)), hO.cells (fun q a b => hs q (by omega)), e1, by omega, e3⟩
end PI
