/-! a page is changed, level by level: the pages, how many, the roots, what goes (places), what comes -/
abbrev TU : Type := (Nat → Pg) × Nat × (Nat → Nat) × Option Nat × Option Nat × qRw
def tchL (pn : Nat → Option Nat) (lat lev : Nat) (s : TU) : qRw := tlist (s.1 (tps pn lev)) lat (vO s.2.2.2.1) (vO s.2.2.2.2.1) s.2.2.2.2.2
abbrev tchA (pn : Nat → Option Nat) (lat v lev : Nat) (s : TU) : Prop := tps pn lev = s.2.2.1 v ∧ 0 < lev ∧ (tchL pn lat lev s).length = 1
abbrev tchB (pn : Nat → Option Nat) (lat v lev : Nat) (s : TU) : Prop := (tps pn lev = s.2.2.1 v ∨ 3 ≤ (tchL pn lat lev s).length) ∧ (s.1 (tps pn lev)).2.2.2.length + s.2.2.2.2.2.length ≤ 16
def tchP1 (pn : Nat → Option Nat) (v lev : Nat) (s : TU) : Nat → Pg := va_up s.1 (tps pn lev) (gdie (s.1 (tps pn lev)) v)
def tchGo (P : Pg) (v : Nat) (o1 o2 : Option Nat) (co : qRw) : Pg := (P.1, P.2.1, P.2.2.1, gend (gend P.2.2.2 o1 v) o2 v ++ gtk co v 0 co.length)
def tchC (pn : Nat → Option Nat) (lat v lev : Nat) (s : TU) : TU := (trrP (tchP1 pn v lev s) s.2.1 (tchL pn lat lev s) lev v, trrN s.2.1 (tchL pn lat lev s), va_up s.2.2.1 v (trrR s.2.1 (tchL pn lat lev s)), s.2.2.2.1, s.2.2.2.2.1, tmkC s.2.1 (tchL pn lat lev s) lev v)
def tchD (pn : Nat → Option Nat) (lat v : Nat) (k : Int32) (lev : Nat) (s : TU) : TU := (tmkP (trbP (tchP1 pn v lev s) s.2.1 (tps pn (lev + 1)) k lat v (tchL pn lat lev s)) s.2.1 (trbL (tchP1 pn v lev s) s.2.1 (tps pn (lev + 1)) k lat (tchL pn lat lev s)) lev v, tmkN s.2.1 (trbL (tchP1 pn v lev s) s.2.1 (tps pn (lev + 1)) k lat (tchL pn lat lev s)), s.2.2.1,
  trbO1 (tchP1 pn v lev s) (tps pn (lev + 1)) k lat, trbO2 (tchP1 pn v lev s) (tps pn (lev + 1)) k lat (tchL pn lat lev s), rlow (tmkC s.2.1 (trbL (tchP1 pn v lev s) s.2.1 (tps pn (lev + 1)) k lat (tchL pn lat lev s)) lev v) (trbK (tchP1 pn v lev s) (tps pn (lev + 1)) k lat (tchL pn lat lev s)))
def tch (pn : Nat → Option Nat) (lat v : Nat) (k : Int32) (lev : Nat) (s : TU) : Bool × TU :=
  if tchA pn lat v lev s then (false, tchP1 pn v lev s, s.2.1, va_up s.2.2.1 v (tpn 256 (rv (tchL pn lat lev s) 0)), s.2.2.2)
  else if tchB pn lat v lev s then (false, va_up s.1 (tps pn lev) (tchGo (s.1 (tps pn lev)) v s.2.2.2.1 s.2.2.2.2.1 s.2.2.2.2.2), s.2)
  else if tps pn lev = s.2.2.1 v then (false, tchC pn lat v lev s) else (true, tchD pn lat v k lev s)
def tchOK (pn : Nat → Option Nat) (lat v lev : Nat) (s : TU) : Prop :=
  tps pn lev < s.2.1 ∧ lev < 16 ∧ (s.1 (tps pn lev)).1 = lev ∧ oLt s.2.2.2.1 (s.1 (tps pn lev)).2.2.2.length ∧ oLt s.2.2.2.2.1 (s.1 (tps pn lev)).2.2.2.length ∧
  (tchA pn lat v lev s → ∃ c, c < s.2.1 ∧ rv (tchL pn lat lev s) 0 = lN c) ∧
  (¬ tchA pn lat v lev s → ¬ tchB pn lat v lev s → tps pn lev = s.2.2.1 v → s.2.1 + 3 ≤ 256) ∧
  (¬ tchA pn lat v lev s → ¬ tchB pn lat v lev s → ¬ tps pn lev = s.2.2.1 v → s.2.1 + 2 ≤ 256 ∧ lev + 1 < 16 ∧ tps pn (lev + 1) < s.2.1)
def tup (pn : Nat → Option Nat) (lat v : Nat) (k : Int32) : Nat → Nat → TU → TU
  | 0, _, s => s
  | n + 1, lev, s => if (tch pn lat v k lev s).1 = true then tup pn lat v k n (lev + 1) (tch pn lat v k lev s).2 else (tch pn lat v k lev s).2
def tupOK (pn : Nat → Option Nat) (lat v : Nat) (k : Int32) : Nat → Nat → TU → Prop
  | 0, _, _ => False
  | n + 1, lev, s => tchOK pn lat v lev s ∧ ((tch pn lat v k lev s).1 = true → tupOK pn lat v k n (lev + 1) (tch pn lat v k lev s).2)
/-- what the update begins with -/
def tup0 (pg : Nat → Pg) (made lat : Nat) (ro : Nat → Nat) (pn : Nat → Option Nat) (k : Int32) (w : Int64) (b : Bool) : TU :=
  (pg, made, va_up ro (lat + 1) (ro lat), gslot (pg (tdes pg made ro pn lat k).1) k lat, none, if b = true then [(k, w)] else [])
def tupd (pg : Nat → Pg) (made lat : Nat) (ro : Nat → Nat) (pn : Nat → Option Nat) (k : Int32) (w : Int64) (b : Bool) : TU := tup (tdes pg made ro pn lat k).2.2 lat (lat + 1) k 16 0 (tup0 pg made lat ro pn k w b)
theorem tpn_lN {c : Nat} (h : c < 256) : tpn 256 (lN c) = c := by
  have : (lN c).toInt = (c : Int) := pk_lT (by omega)
  rw [tpn, this, if_pos (by omega)]; simp
section TW
variable {X X' : qX} {t cnt : Nat} {pa : Nat → Nat} {pg : Nat → Pg} {made lat : Nat} {ro : Nat → Nat} {pn : Nat → Option Nat} {fe : Int64} {g1 g2 : Int32} {co li : qRw} {db : Nat}
variable {l : Launch} {s0 : State} {C : qC}
/-- the tree in the midst of an update -/
abbrev TrU (X : qX) (t cnt : Nat) (pa : Nat → Nat) (lat : Nat) (pn : Nat → Option Nat) (fe : Int64) (db : Nat) (li : qRw) (s : TU) : Prop := TrAt X t cnt pa s.1 s.2.1 lat s.2.2.1 pn fe (vO s.2.2.2.1) (vO s.2.2.2.2.1) s.2.2.2.2.2 li db
set_option maxHeartbeats 4000000 in
theorem c_T_changePage (B : qB l s0 C) (s : TU) (h : TrU X t cnt pa lat pn fe db li s) (hX : t + 24 ≤ X.2) (v lev : Nat) (k : Int32) (hv : v < 801) (hok : tchOK pn lat v lev s) :
    qMet l s0 C m_T_changePage rm_T_changePage [.ref t, .int (nI lev), .int (nI v), .int k] X (fun r X' => r = some (.int (bI (tch pn lat v k lev s).1)) ∧ ∃ (cnt' : Nat) (pa' : Nat → Nat) (li' : qRw), TrU X' t cnt' pa' lat pn fe db li' (tch pn lat v k lev s).2 ∧ qFr X X' t cnt pa ∧ qGr X cnt cnt' pa pa') (fun _ _ => False) := by
  obtain ⟨pg, made, ro, o1, o2, co⟩ := s
  obtain ⟨hp, hlev, hlv, ho1, ho2, hA, hC, hD⟩ := hok
  dsimp only [TrU] at h hp hlv ho1 ho2
  obtain ⟨h0, -, -, -, hco, hl0, hPG, ⟨m1, m2, m3, m4, m5⟩, hro, -⟩ := id h
  have hP := hPG (tps pn lev) (by omega)
  have hps : ∀ j, tps pn j < cnt := by
    intro j
    obtain ⟨-, -, -, -, -, -, -, -, -, hpn, -⟩ := id h
    unfold tps
    split
    · cases hj : pn j with
      | none => show 0 < cnt; omega
      | some i => exact hpn j i hj
    · omega
  obtain ⟨-, ⟨-, -, -, ok4, -⟩, -⟩ := id hP
  refine q_of (by decide +kernel) (Nat.le_of_ble_eq_true rfl) ?_
  refine v_L (L' := [(0, .ref t), (1, .int (nI lev)), (2, .int (nI v)), (3, .int k)]) rfl ?_
  refine v_aload_n i_T_changePage_0 rfl ?_
  refine v_iload_n i_T_changePage_1 rfl ?_
  refine v_inv B i_T_changePage_2 kn_m_T_passed (c_T_passed B h lev (by omega)) h0 rfl rfl (Nat.le_of_ble_eq_true rfl) ⟨by decide, by decide, by first | decide | (simp; omega), by first | decide | (simp; omega)⟩ rfl (fun r X' hq => ?_) (fun _ _ h => False.elim h)
  obtain ⟨rfl, rfl⟩ := hq
  refine v_astore i_T_changePage_5 (by decide) rfl ?_
  refine v_aload i_T_changePage_7 rfl ?_
  refine v_get B i_T_changePage_9 hP.1 rfl ?_
  refine v_aload_n i_T_changePage_12 rfl ?_
  refine v_iload_n i_T_changePage_13 rfl ?_
  refine v_inv B i_T_changePage_14 kn_m_T_rootOf (c_T_rootOf B h v hv) h0 rfl rfl (Nat.le_of_ble_eq_true rfl) ⟨by decide, by decide, by first | decide | (simp; omega), by first | decide | (simp; omega)⟩ rfl (fun r X' hq => ?_) (fun _ _ h => False.elim h)
  obtain ⟨rfl, rfl⟩ := hq
  have hrv := hro v hv
  have go : ∀ b : Bool, (b = true ↔ tps pn lev = ro v) → qV l s0 C m_T_changePage rm_T_changePage (fun r X' => r = some (.int (bI (tch pn lat v k lev (pg, made, ro, o1, o2, co)).1)) ∧ ∃ (cnt' : Nat) (pa' : Nat → Nat) (li' : qRw), TrU X' t cnt' pa' lat pn fe db li' (tch pn lat v k lev (pg, made, ro, o1, o2, co)).2 ∧ qFr X X' t cnt pa ∧ qGr X cnt cnt' pa pa') (fun _ _ => False) 0 0 X 25 [(0, .ref t), (1, .int (nI lev)), (2, .int (nI v)), (3, .int k), (4, .ref (pa (tps pn lev)))] [.int (bI b)] := by
    intro b hb
    refine v_istore i_T_changePage_25 (by decide) rfl ?_
    refine v_aload_n i_T_changePage_27 rfl ?_
    refine v_aload i_T_changePage_28 rfl ?_
    refine v_inv B i_T_changePage_30 kn_m_T_listWhatStays (c_T_listWhatStays B h (tps pn lev) (by omega)) h0 rfl rfl (Nat.le_of_ble_eq_true rfl) ⟨by decide, by decide, by first | decide | (simp; omega), by first | decide | (simp; omega)⟩ rfl (fun r X' hq => ?_) (fun _ _ h => False.elim h)
    obtain ⟨rfl, h1, hs1⟩ := hq
    have f1 := qFr.own (t := t) (cnt := cnt) (pa := pa) hs1 (by omega) (by omega)
    have z1 := hs1.1
    rw [show tlist (pg (tps pn lev)) lat (vO o1) (vO o2) co = tchL pn lat lev (pg, made, ro, o1, o2, co) from rfl] at h1
    have hLlen : (tchL pn lat lev (pg, made, ro, o1, o2, co)).length ≤ 18 := by
      show (tlc (tls (pg (tps pn lev)).2.2.2 lat (vO o1) (vO o2) (pg (tps pn lev)).2.2.2.length) co co.length).length ≤ 18
      rw [tlc_len]
      have := tls_len (pg (tps pn lev)).2.2.2 lat (vO o1) (vO o2) (pg (tps pn lev)).2.2.2.length
      have := hco.2.1
      omega
    generalize X' = X1 at h1 f1 z1 ⊢
    obtain ⟨a0, -, -, -, aco, ali, aPG, -⟩ := id h1
    obtain ⟨al0, -⟩ := id ali
    obtain ⟨ac0, ac2, -⟩ := id aco
    have aP := aPG (tps pn lev) (by omega)
    have hs2 : qSame X1 (qset X1 (pa (tps pn lev)) (.inr (1, [Value.int (nI (tps pn lev)), .ref (pa (tps pn lev) + 1), .ref (pa (tps pn lev) + 2), .ref (pa (tps pn lev) + 3), .ref (pa (tps pn lev) + 4), .int (nI (pg (tps pn lev)).1), .int (nI (pg (tps pn lev)).2.1), .int (vO (pg (tps pn lev)).2.2.1), .int (nI (pg (tps pn lev)).2.2.2.length)].set 7 (.int (nI v))))) (pa (tps pn lev)) (pa (tps pn lev) + 5) := (qSame.rf X1 _ _).set _ (by omega) (by omega)
    have h2 := h1.page (by omega) hs2 (aP.die (v := v) (by omega))
    rw [show va_up pg (tps pn lev) (gdie (pg (tps pn lev)) v) = tchP1 pn v lev (pg, made, ro, o1, o2, co) from rfl] at h2
    have f2 := f1.trans (qFr.page (t := t) hs2 (i := tps pn lev) (cnt := cnt) (by omega)) (qGr.rf X cnt pa)
    have z2 := hs2.1.trans z1
    have rest : ¬ tchA pn lat v lev (pg, made, ro, o1, o2, co) → qV l s0 C m_T_changePage rm_T_changePage (fun r X' => r = some (.int (bI (tch pn lat v k lev (pg, made, ro, o1, o2, co)).1)) ∧ ∃ (cnt' : Nat) (pa' : Nat → Nat) (li' : qRw), TrU X' t cnt' pa' lat pn fe db li' (tch pn lat v k lev (pg, made, ro, o1, o2, co)).2 ∧ qFr X X' t cnt pa ∧ qGr X cnt cnt' pa pa') (fun _ _ => False) 0 0 X1 75 [(0, .ref t), (1, .int (nI lev)), (2, .int (nI v)), (3, .int k), (4, .ref (pa (tps pn lev))), (5, .int (bI b))] [] := by
      intro nA
      have remake : ¬ tchB pn lat v lev (pg, made, ro, o1, o2, co) → qV l s0 C m_T_changePage rm_T_changePage (fun r X' => r = some (.int (bI (tch pn lat v k lev (pg, made, ro, o1, o2, co)).1)) ∧ ∃ (cnt' : Nat) (pa' : Nat → Nat) (li' : qRw), TrU X' t cnt' pa' lat pn fe db li' (tch pn lat v k lev (pg, made, ro, o1, o2, co)).2 ∧ qFr X X' t cnt pa ∧ qGr X cnt cnt' pa pa') (fun _ _ => False) 0 0 X1 115 [(0, .ref t), (1, .int (nI lev)), (2, .int (nI v)), (3, .int k), (4, .ref (pa (tps pn lev))), (5, .int (bI b))] [] := by
        intro nB
        rw [tch, if_neg nA, if_neg nB]
        refine v_aload i_T_changePage_115 rfl ?_
        refine v_iload_n i_T_changePage_117 rfl ?_
        refine v_put B i_T_changePage_118 aP.1 (Nat.le_of_ble_eq_true rfl) rfl rfl ?_
        generalize qset X1 (pa (tps pn lev)) (.inr (1, [Value.int (nI (tps pn lev)), .ref (pa (tps pn lev) + 1), .ref (pa (tps pn lev) + 2), .ref (pa (tps pn lev) + 3), .ref (pa (tps pn lev) + 4), .int (nI (pg (tps pn lev)).1), .int (nI (pg (tps pn lev)).2.1), .int (vO (pg (tps pn lev)).2.2.1), .int (nI (pg (tps pn lev)).2.2.2.length)].set 7 (.int (nI v)))) = X2 at h2 f2 z2 ⊢
        obtain ⟨b0, -⟩ := id h2
        refine v_iload i_T_changePage_121 rfl ?_
        refine v_if_eq (tgt := 134) i_T_changePage_123 rfl (fun h123 => ?_) (fun h123 => ?_)
        · have hnr : ¬ tps pn lev = ro v := fun q => by rw [bI_0.mp h123] at hb; exact absurd (hb.mpr q) (by decide)
          obtain ⟨d1, d2, d3⟩ := hD nA nB hnr
          dsimp only at d1 d3
          rw [show (if tps pn lev = (pg, made, ro, o1, o2, co).2.2.1 v then (false, tchC pn lat v lev (pg, made, ro, o1, o2, co)) else (true, tchD pn lat v k lev (pg, made, ro, o1, o2, co))) = (true, tchD pn lat v k lev (pg, made, ro, o1, o2, co)) from if_neg hnr]
          refine v_aload_n i_T_changePage_134 rfl ?_
          refine v_aload_n i_T_changePage_135 rfl ?_
          refine v_iload_n i_T_changePage_136 rfl ?_
          refine v_iconst (v := 1) i_T_changePage_137 rfl ?_
          refine v_iadd i_T_changePage_138 ?_
          rw [nI_1]
          refine v_inv B i_T_changePage_139 kn_m_T_passed (c_T_passed B h2 (lev + 1) (by omega)) b0 rfl rfl (Nat.le_of_ble_eq_true rfl) ⟨by decide, by decide, by first | decide | (simp; omega), by first | decide | (simp; omega)⟩ rfl (fun r X' hq => ?_) (fun _ _ h => False.elim h)
          obtain ⟨rfl, rfl⟩ := hq
          refine v_iload_n i_T_changePage_142 rfl ?_
          refine v_iload_n i_T_changePage_143 rfl ?_
          refine v_iload_n i_T_changePage_144 rfl ?_
          refine v_inv B i_T_changePage_145 kn_m_T_remakeBelow (c_T_remakeBelow B h2 (by omega) (by omega) (tps pn (lev + 1)) (hps _) lev v (by omega) (by omega) k (by omega)) b0 rfl rfl (Nat.le_of_ble_eq_true rfl) ⟨by decide, by decide, by first | decide | (simp; omega), by first | decide | (simp; omega)⟩ rfl (fun r X' hq => ?_) (fun _ _ h => False.elim h)
          obtain ⟨rfl, cnt3, pa3, h3, f3, gr3⟩ := hq
          refine v_iconst (v := 1) i_T_changePage_148 rfl ?_
          refine v_wide (k' := 10) (n' := 146) (by decide) (by decide) ?_
          refine v_zret i_T_changePage_149 rfl (Or.inr rfl) (by decide) (by decide) ⟨rfl, cnt3, pa3, _, h3, ?_, ?_⟩
          · exact f2.trans f3 (qGr.rf X cnt pa)
          · exact ⟨gr3.1, gr3.2.1, fun i hi1 hi2 => by have := gr3.2.2 i hi1 hi2; omega⟩
        · have hr : tps pn lev = ro v := hb.mp (bI_ne h123)
          have d1 := hC nA nB hr
          dsimp only at d1
          rw [show (if tps pn lev = (pg, made, ro, o1, o2, co).2.2.1 v then (false, tchC pn lat v lev (pg, made, ro, o1, o2, co)) else (true, tchD pn lat v k lev (pg, made, ro, o1, o2, co))) = (false, tchC pn lat v lev (pg, made, ro, o1, o2, co)) from if_pos hr]
          refine v_aload_n i_T_changePage_126 rfl ?_
          refine v_iload_n i_T_changePage_127 rfl ?_
          refine v_iload_n i_T_changePage_128 rfl ?_
          refine v_inv B i_T_changePage_129 kn_m_T_remakeRoot (c_T_remakeRoot B h2 (by omega) (by omega) lev v (by omega) (by omega) (by omega)) b0 rfl rfl (Nat.le_of_ble_eq_true rfl) ⟨by decide, by decide, by first | decide | (simp; omega), by first | decide | (simp; omega)⟩ rfl (fun r X' hq => ?_) (fun _ _ h => False.elim h)
          obtain ⟨rfl, cnt3, pa3, h3, f3, gr3⟩ := hq
          refine v_iconst (v := 0) i_T_changePage_132 rfl ?_
          refine v_zret i_T_changePage_133 rfl (Or.inl rfl) (by decide) (by decide) ⟨rfl, cnt3, pa3, _, h3, ?_, ?_⟩
          · exact f2.trans f3 (qGr.rf X cnt pa)
          · exact ⟨gr3.1, gr3.2.1, fun i hi1 hi2 => by have := gr3.2.2 i hi1 hi2; omega⟩
      have room : (tps pn lev = ro v ∨ 3 ≤ (tchL pn lat lev (pg, made, ro, o1, o2, co)).length) → qV l s0 C m_T_changePage rm_T_changePage (fun r X' => r = some (.int (bI (tch pn lat v k lev (pg, made, ro, o1, o2, co)).1)) ∧ ∃ (cnt' : Nat) (pa' : Nat → Nat) (li' : qRw), TrU X' t cnt' pa' lat pn fe db li' (tch pn lat v k lev (pg, made, ro, o1, o2, co)).2 ∧ qFr X X' t cnt pa ∧ qGr X cnt cnt' pa pa') (fun _ _ => False) 0 0 X1 91 [(0, .ref t), (1, .int (nI lev)), (2, .int (nI v)), (3, .int k), (4, .ref (pa (tps pn lev))), (5, .int (bI b))] [] := by
        intro hor
        refine v_aload i_T_changePage_91 rfl ?_
        refine v_aload_n i_T_changePage_93 rfl ?_
        refine v_get B i_T_changePage_94 (by first | assumption | exact qset_self _ _ _ | (rw [qset_ne _ _ (by omega)]; first | assumption | exact qset_self _ _ _ | (rw [qset_ne _ _ (by omega)]; first | assumption | exact qset_self _ _ _ | (rw [qset_ne _ _ (by omega)]; first | assumption | exact qset_self _ _ _ | (rw [qset_ne _ _ (by omega)]; first | assumption | exact qset_self _ _ _ | (rw [qset_ne _ _ (by omega)]; first | assumption | exact qset_self _ _ _ | (rw [qset_ne _ _ (by omega)]; first | assumption | exact qset_self _ _ _))))))) rfl ?_
        refine v_get B i_T_changePage_97 (by first | assumption | exact qset_self _ _ _ | (rw [qset_ne _ _ (by omega)]; first | assumption | exact qset_self _ _ _ | (rw [qset_ne _ _ (by omega)]; first | assumption | exact qset_self _ _ _ | (rw [qset_ne _ _ (by omega)]; first | assumption | exact qset_self _ _ _ | (rw [qset_ne _ _ (by omega)]; first | assumption | exact qset_self _ _ _ | (rw [qset_ne _ _ (by omega)]; first | assumption | exact qset_self _ _ _ | (rw [qset_ne _ _ (by omega)]; first | assumption | exact qset_self _ _ _))))))) rfl ?_
        refine v_inv B i_T_changePage_100 kn_m_G_hasRoomFor (c_G_hasRoomFor B aP co.length (by omega)) aP.1 rfl rfl (Nat.le_of_ble_eq_true rfl) ⟨by decide, by decide, by first | decide | (simp; omega), by first | decide | (simp; omega)⟩ rfl (fun r X' hq => ?_) (fun _ _ h => False.elim h)
        obtain ⟨rfl, rfl⟩ := hq
        refine v_if_eq (tgt := 115) i_T_changePage_103 rfl (fun h103 => ?_) (fun h103 => ?_)
        · refine remake (fun q => ?_)
          have := bI_0.mp h103
          rw [decide_eq_false_iff_not] at this
          exact this q.2
        have hrm := of_decide_eq_true (bI_ne h103)
        have hB : tchB pn lat v lev (pg, made, ro, o1, o2, co) := ⟨hor, hrm⟩
        rw [tch, if_neg nA, if_pos hB]
        refine v_aload_n i_T_changePage_106 rfl ?_
        refine v_aload i_T_changePage_107 rfl ?_
        refine v_iload_n i_T_changePage_109 rfl ?_
        refine v_inv B i_T_changePage_110 kn_m_T_letGoAndCome (c_T_letGoAndCome B h1 (tps pn lev) (by omega) ho1 ho2 v (by omega) hrm) a0 rfl rfl (Nat.le_of_ble_eq_true rfl) ⟨by decide, by decide, by first | decide | (simp; omega), by first | decide | (simp; omega)⟩ rfl (fun r X' hq => ?_) (fun _ _ h => False.elim h)
        obtain ⟨rfl, h3, hs3⟩ := hq
        refine v_iconst (v := 0) i_T_changePage_113 rfl ?_
        refine v_zret i_T_changePage_114 rfl (Or.inl rfl) (by decide) (by decide) ⟨rfl, cnt, pa, _, h3, f1.trans (qFr.page hs3 (by omega)) (qGr.rf X cnt pa), qGr.rf X cnt pa⟩
      refine v_iload i_T_changePage_75 rfl ?_
      refine v_if_ne (tgt := 91) i_T_changePage_77 rfl (fun h77 => ?_) (fun h77 => ?_)
      · exact room (Or.inl (hb.mp (bI_ne h77)))
      refine v_aload_n i_T_changePage_80 rfl ?_
      refine v_get B i_T_changePage_81 (by first | assumption | exact qset_self _ _ _ | (rw [qset_ne _ _ (by omega)]; first | assumption | exact qset_self _ _ _ | (rw [qset_ne _ _ (by omega)]; first | assumption | exact qset_self _ _ _ | (rw [qset_ne _ _ (by omega)]; first | assumption | exact qset_self _ _ _ | (rw [qset_ne _ _ (by omega)]; first | assumption | exact qset_self _ _ _ | (rw [qset_ne _ _ (by omega)]; first | assumption | exact qset_self _ _ _ | (rw [qset_ne _ _ (by omega)]; first | assumption | exact qset_self _ _ _))))))) rfl ?_
      refine v_get B i_T_changePage_84 (by first | assumption | exact qset_self _ _ _ | (rw [qset_ne _ _ (by omega)]; first | assumption | exact qset_self _ _ _ | (rw [qset_ne _ _ (by omega)]; first | assumption | exact qset_self _ _ _ | (rw [qset_ne _ _ (by omega)]; first | assumption | exact qset_self _ _ _ | (rw [qset_ne _ _ (by omega)]; first | assumption | exact qset_self _ _ _ | (rw [qset_ne _ _ (by omega)]; first | assumption | exact qset_self _ _ _ | (rw [qset_ne _ _ (by omega)]; first | assumption | exact qset_self _ _ _))))))) rfl ?_
      refine v_iconst (v := 3) i_T_changePage_87 rfl ?_
      refine v_icmp_lt (tgt := 115) i_T_changePage_88 rfl (fun h88 => ?_) (fun h88 => ?_)
      · refine remake (fun q => ?_)
        rcases q.1 with q | q
        · have h7 := hb.mpr q
          rw [h7] at h77
          exact absurd h77 (by decide)
        · exact absurd h88 (nI_nlt (a := (tchL pn lat lev (pg, made, ro, o1, o2, co)).length) (b := 3) q (by omega))
      · refine room (Or.inr ?_)
        rcases Nat.lt_or_ge (tchL pn lat lev (pg, made, ro, o1, o2, co)).length 3 with q | q
        · exact absurd (nI_lt (b := 3) q (by omega)) h88
        · exact q
    refine v_loc [(0, .ref t), (1, .int (nI lev)), (2, .int (nI v)), (3, .int k), (4, .ref (pa (tps pn lev))), (5, .int (bI b))] rfl ?_
    refine v_iload i_T_changePage_33 rfl ?_
    refine v_if_eq (tgt := 75) i_T_changePage_35 rfl (fun h35 => ?_) (fun h35 => ?_)
    · refine rest (fun q => ?_)
      rw [bI_0.mp h35] at hb
      exact absurd (hb.mpr q.1) (by decide)
    have hr : tps pn lev = ro v := hb.mp (bI_ne h35)
    refine v_iload_n i_T_changePage_38 rfl ?_
    refine v_if_le (tgt := 75) i_T_changePage_39 rfl (fun h39 => ?_) (fun h39 => ?_)
    · refine rest (fun q => ?_)
      exact nI_nle q.2.1 (by omega) h39
    refine v_aload_n i_T_changePage_42 rfl ?_
    refine v_get B i_T_changePage_43 (by first | assumption | exact qset_self _ _ _ | (rw [qset_ne _ _ (by omega)]; first | assumption | exact qset_self _ _ _ | (rw [qset_ne _ _ (by omega)]; first | assumption | exact qset_self _ _ _ | (rw [qset_ne _ _ (by omega)]; first | assumption | exact qset_self _ _ _ | (rw [qset_ne _ _ (by omega)]; first | assumption | exact qset_self _ _ _ | (rw [qset_ne _ _ (by omega)]; first | assumption | exact qset_self _ _ _ | (rw [qset_ne _ _ (by omega)]; first | assumption | exact qset_self _ _ _))))))) rfl ?_
    refine v_get B i_T_changePage_46 (by first | assumption | exact qset_self _ _ _ | (rw [qset_ne _ _ (by omega)]; first | assumption | exact qset_self _ _ _ | (rw [qset_ne _ _ (by omega)]; first | assumption | exact qset_self _ _ _ | (rw [qset_ne _ _ (by omega)]; first | assumption | exact qset_self _ _ _ | (rw [qset_ne _ _ (by omega)]; first | assumption | exact qset_self _ _ _ | (rw [qset_ne _ _ (by omega)]; first | assumption | exact qset_self _ _ _ | (rw [qset_ne _ _ (by omega)]; first | assumption | exact qset_self _ _ _))))))) rfl ?_
    refine v_iconst (v := 1) i_T_changePage_49 rfl ?_
    refine v_icmp_ne (tgt := 75) i_T_changePage_50 rfl (fun h50 => ?_) (fun h50 => ?_)
    · refine rest (fun q => h50 ?_)
      rw [q.2.2]; rfl
    have hAA : tchA pn lat v lev (pg, made, ro, o1, o2, co) := by
      refine ⟨hr, ?_, (nI_eq (b := 1) (by omega) (by omega)).mp h50⟩
      rcases Nat.eq_zero_or_pos lev with q | q
      · subst q; exact absurd (by decide) h39
      · exact q
    obtain ⟨c, hc, hcw⟩ := hA hAA
    dsimp only at hc
    rw [tch, if_pos hAA, hcw, tpn_lN (by omega)]
    refine v_aload i_T_changePage_53 rfl ?_
    refine v_iload_n i_T_changePage_55 rfl ?_
    refine v_put B i_T_changePage_56 aP.1 (Nat.le_of_ble_eq_true rfl) rfl rfl ?_
    generalize qset X1 (pa (tps pn lev)) (.inr (1, [Value.int (nI (tps pn lev)), .ref (pa (tps pn lev) + 1), .ref (pa (tps pn lev) + 2), .ref (pa (tps pn lev) + 3), .ref (pa (tps pn lev) + 4), .int (nI (pg (tps pn lev)).1), .int (nI (pg (tps pn lev)).2.1), .int (vO (pg (tps pn lev)).2.2.1), .int (nI (pg (tps pn lev)).2.2.2.length)].set 7 (.int (nI v)))) = X2 at h2 f2 z2 ⊢
    obtain ⟨b0, -, -, -, -, bli, -⟩ := id h2
    refine v_aload_n i_T_changePage_59 rfl ?_
    refine v_iload_n i_T_changePage_60 rfl ?_
    refine v_aload_n i_T_changePage_61 rfl ?_
    refine v_get B i_T_changePage_62 (by first | assumption | exact qset_self _ _ _ | (rw [qset_ne _ _ (by omega)]; first | assumption | exact qset_self _ _ _ | (rw [qset_ne _ _ (by omega)]; first | assumption | exact qset_self _ _ _ | (rw [qset_ne _ _ (by omega)]; first | assumption | exact qset_self _ _ _ | (rw [qset_ne _ _ (by omega)]; first | assumption | exact qset_self _ _ _ | (rw [qset_ne _ _ (by omega)]; first | assumption | exact qset_self _ _ _ | (rw [qset_ne _ _ (by omega)]; first | assumption | exact qset_self _ _ _))))))) rfl ?_
    refine v_iconst (v := 0) i_T_changePage_65 rfl ?_
    refine v_inv B i_T_changePage_66 kn_m_R_whatAt (c_R_whatAt B bli 0) bli.1 rfl rfl (Nat.le_of_ble_eq_true rfl) ⟨by decide, by decide, by first | decide | (simp; omega), by first | decide | (simp; omega)⟩ rfl (fun r X' hq => ?_) (fun _ _ h => False.elim h)
    obtain ⟨rfl, rfl⟩ := hq
    rw [show (0 : Int32) = nI 0 from rfl, rwhatAt_nI (by rw [hAA.2.2]; decide) (by omega), hcw]
    refine v_l2i i_T_changePage_69 ?_
    rw [lN_i]
    refine v_inv B i_T_changePage_70 kn_m_T_setRoot (c_T_setRoot B h2 v c hv (by omega)) b0 rfl rfl (Nat.le_of_ble_eq_true rfl) ⟨by decide, by decide, by first | decide | (simp; omega), by first | decide | (simp; omega)⟩ rfl (fun r X' hq => ?_) (fun _ _ h => False.elim h)
    obtain ⟨rfl, h3, hs3⟩ := hq
    refine v_iconst (v := 0) i_T_changePage_73 rfl ?_
    refine v_zret i_T_changePage_74 rfl (Or.inl rfl) (by decide) (by decide) ⟨rfl, cnt, pa, _, h3, f2.trans (qFr.own hs3 (by omega) (by omega)) (qGr.rf X cnt pa), qGr.rf X cnt pa⟩
  refine v_icmp_ne (tgt := 24) i_T_changePage_17 rfl (fun h17 => ?_) (fun h17 => ?_)
  · have hne : ¬ tps pn lev = ro v := fun q => h17 (by rw [q])
    refine v_iconst (v := 0) i_T_changePage_24 rfl ?_
    exact v_loc [(0, .ref t), (1, .int (nI lev)), (2, .int (nI v)), (3, .int k), (4, .ref (pa (tps pn lev)))] rfl (go false ⟨fun q => absurd q (by decide), fun q => absurd q hne⟩)
  · have he : tps pn lev = ro v := (nI_eq (by omega) (by omega)).mp h17
    refine v_iconst (v := 1) i_T_changePage_20 rfl ?_
    refine v_goto (tgt := 25) i_T_changePage_21 rfl ?_
    exact v_loc [(0, .ref t), (1, .int (nI lev)), (2, .int (nI v)), (3, .int k), (4, .ref (pa (tps pn lev)))] rfl (go true ⟨fun _ => he, fun _ => rfl⟩)
theorem c_T_update_loop (B : qB l s0 C) (v : Nat) (k : Int32) (w : Int64) (zb : Int32) (lf : Nat) (hv : v < 801) : ∀ (j n : Nat) (r : Bool) (s : TU) (X' : qX) (cnt' : Nat) (pa' : Nat → Nat) (li' : qRw), n + j = 16 → (r = true → tupOK pn lat v k j n s) → TrU X' t cnt' pa' lat pn fe db li' s → t + 24 ≤ X'.2 → qFr X X' t cnt pa → qGr X cnt cnt' pa pa' →
      qV l s0 C m_T_update rm_T_update (fun r' X'' => r' = some (.int (nI v)) ∧ ∃ (cnt'' : Nat) (pa'' : Nat → Nat) (li'' : qRw), TrU X'' t cnt'' pa'' v pn fe db li'' (if r = true then tup pn lat v k j n s else s) ∧ qFr X X'' t cnt pa ∧ qGr X cnt cnt'' pa pa'') (fun _ _ => False) (15 * n) (219 * n) X' 88 [(0, .ref t), (1, .int k), (2, .long w), (4, .int zb), (5, .ref lf), (6, .int (nI v)), (7, .int (bI r)), (8, .int (nI n))] [] := by
  have fin : ∀ (n : Nat) (s : TU) (X' : qX) (cnt' : Nat) (pa' : Nat → Nat) (li' : qRw) (r : Bool), n ≤ 16 → TrU X' t cnt' pa' lat pn fe db li' s → t + 24 ≤ X'.2 → qFr X X' t cnt pa → qGr X cnt cnt' pa pa' →
      qV l s0 C m_T_update rm_T_update (fun r' X'' => r' = some (.int (nI v)) ∧ ∃ (cnt'' : Nat) (pa'' : Nat → Nat) (li'' : qRw), TrU X'' t cnt'' pa'' v pn fe db li'' s ∧ qFr X X'' t cnt pa ∧ qGr X cnt cnt'' pa pa'') (fun _ _ => False) (15 * n) (219 * n) X' 117 [(0, .ref t), (1, .int k), (2, .long w), (4, .int zb), (5, .ref lf), (6, .int (nI v)), (7, .int (bI r)), (8, .int (nI n))] [] := by
    intro n s X' cnt' pa' li' r hn h hX f g
    obtain ⟨h0, -, -, -, -, -, -, ⟨m1, m2, m3, m4, m5⟩, -⟩ := id h
    refine v_aload_n i_T_update_117 rfl ?_
    refine v_iload i_T_update_118 rfl ?_
    refine v_put B i_T_update_120 (by first | assumption | exact qset_self _ _ _ | (rw [qset_ne _ _ (by omega)]; first | assumption | exact qset_self _ _ _ | (rw [qset_ne _ _ (by omega)]; first | assumption | exact qset_self _ _ _ | (rw [qset_ne _ _ (by omega)]; first | assumption | exact qset_self _ _ _ | (rw [qset_ne _ _ (by omega)]; first | assumption | exact qset_self _ _ _ | (rw [qset_ne _ _ (by omega)]; first | assumption | exact qset_self _ _ _ | (rw [qset_ne _ _ (by omega)]; first | assumption | exact qset_self _ _ _))))))) (Nat.le_of_ble_eq_true rfl) rfl rfl ?_
    refine v_iload i_T_update_123 rfl ?_
    refine v_iret i_T_update_125 rfl (by show 15 * n ≤ 240; omega) (by show 219 * n ≤ 3504; omega) ⟨rfl, cnt', pa', li', ?_, f.trans (qFr.own (t := t) (cnt := cnt') (pa := pa') ((qSame.rf X' t (t + 1)).set _ (by omega) (by omega)) (by omega) (by omega)) g, g⟩
    exact h.obj (lat' := v) rfl ⟨m1, m2⟩ (by omega) m5
  intro j
  induction j with
  | zero =>
    intro n r s X' cnt' pa' li' hn hok h hX f g
    have hr : r = false := by
      cases r with
      | false => rfl
      | true => exact False.elim (hok rfl)
    subst hr
    refine v_iload i_T_update_88 rfl ?_
    refine v_bipush (v := 16) i_T_update_90 rfl ?_
    refine v_icmp_ge (tgt := 117) i_T_update_92 rfl (fun h92 => ?_) (fun h92 => ?_)
    · exact v_mono (fun r' Y hy => hy) (fun _ _ h => h) (fin n s X' cnt' pa' li' false (by omega) h hX f g)
    · exact absurd (nI_le (a := 16) (b := n) (by omega) (by omega)) h92
  | succ j ih =>
    intro n r s X' cnt' pa' li' hn hok h hX f g
    refine v_iload i_T_update_88 rfl ?_
    refine v_bipush (v := 16) i_T_update_90 rfl ?_
    refine v_icmp_ge (tgt := 117) i_T_update_92 rfl (fun h92 => ?_) (fun h92 => ?_)
    · exact absurd h92 (nI_ge (a := n) (b := 16) (by omega) (by omega))
    refine v_iload i_T_update_95 rfl ?_
    refine v_if_eq (tgt := 117) i_T_update_97 rfl (fun h97 => ?_) (fun h97 => ?_)
    · rw [bI_0.mp h97]
      exact fin n s X' cnt' pa' li' false (by omega) h hX f g
    have hr := bI_ne h97
    subst hr
    obtain ⟨hok1, hok2⟩ := hok rfl
    obtain ⟨h0, -⟩ := id h
    refine v_aload_n i_T_update_100 rfl ?_
    refine v_iload i_T_update_101 rfl ?_
    refine v_iload i_T_update_103 rfl ?_
    refine v_iload_n i_T_update_105 rfl ?_
    refine v_inv B i_T_update_106 kn_m_T_changePage (c_T_changePage B s h hX v n k hv hok1) h0 rfl rfl (Nat.le_of_ble_eq_true rfl) ⟨by decide, by decide, by show 15 * n + 15 ≤ 240; omega, by show 219 * n + 219 ≤ 3504; omega⟩ rfl (fun r X' hq => ?_) (fun _ _ h => False.elim h)
    obtain ⟨rfl, cnt2, pa2, li2, h2, f2, g2⟩ := hq
    refine v_istore i_T_update_109 (by decide) rfl ?_
    refine v_iinc (v := nI (n + 1)) i_T_update_111 rfl (nI_1 n) (by decide) rfl ?_
    refine v_goto (tgt := 88) i_T_update_114 rfl ?_
    refine v_loc [(0, .ref t), (1, .int k), (2, .long w), (4, .int zb), (5, .ref lf), (6, .int (nI v)), (7, .int (bI (tch pn lat v k n s).1)), (8, .int (nI (n + 1)))] rfl ?_
    have K := ih (n + 1) (tch pn lat v k n s).1 (tch pn lat v k n s).2 X' cnt2 pa2 li2 (by omega) hok2 h2 (Nat.le_trans hX f2.1) (f.trans f2 g) (g.trans g2 f.1)
    rw [show 15 * (n + 1) = 15 * n + rm_T_changePage.cells from rfl, show 219 * (n + 1) = 219 * n + rm_T_changePage.slots from rfl] at K
    exact K
set_option maxHeartbeats 4000000 in
theorem c_T_update (B : qB l s0 C) (h : TrAt X t cnt pa pg made lat ro pn fe g1 g2 co li db) (hX : t + 24 ≤ X.2) (k : Int32) (w : Int64) (b : Bool) (hok : tref pg made lat ro = false → tupOK (tdes pg made ro pn lat k).2.2 lat (lat + 1) k 16 0 (tup0 pg made lat ro pn k w b)) :
    qMet l s0 C m_T_update rm_T_update [.ref t, .int k, .long w, .int (bI b)] X (fun r X' => (tref pg made lat ro = true ∧ r = some (.int (-1)) ∧ X' = X) ∨ (tref pg made lat ro = false ∧ r = some (.int (nI (lat + 1))) ∧ ∃ (cnt' : Nat) (pa' : Nat → Nat) (li' : qRw), TrU X' t cnt' pa' (lat + 1) (tdes pg made ro pn lat k).2.2 (tdes pg made ro pn lat k).2.1 db li' (tupd pg made lat ro pn k w b) ∧ qFr X X' t cnt pa ∧ qGr X cnt cnt' pa pa')) (fun _ _ => False) := by
  obtain ⟨h0, -, -, -, hco, hl0, hPG, ⟨m1, m2, m3, m4, m5⟩, hro, -⟩ := id h
  refine q_of (by decide +kernel) (Nat.le_of_ble_eq_true rfl) ?_
  refine v_L (L' := [(0, .ref t), (1, .int k), (2, .long w), (4, .int (bI b))]) rfl ?_
  refine v_aload_n i_T_update_0 rfl ?_
  refine v_inv B i_T_update_1 kn_m_T_isRefused (c_T_isRefused B h) h0 rfl rfl (Nat.le_of_ble_eq_true rfl) ⟨by decide, by decide, by first | decide | (simp; omega), by first | decide | (simp; omega)⟩ rfl (fun r X' hq => ?_) (fun _ _ h => False.elim h)
  obtain ⟨rfl, rfl⟩ := hq
  refine v_if_eq (tgt := 9) i_T_update_4 rfl (fun h4 => ?_) (fun h4 => ?_)
  rotate_left
  · refine v_iconst (v := (-1)) i_T_update_7 rfl ?_
    exact v_iret i_T_update_8 rfl (by decide) (by decide) (Or.inl ⟨bI_ne h4, rfl, rfl⟩)
  have hnr := bI_0.mp h4
  have hlt : lat < 800 := by
    unfold tref at hnr
    rw [Bool.or_eq_false_iff, decide_eq_false_iff_not, decide_eq_false_iff_not] at hnr
    omega
  refine v_mono (fun r Y hy => Or.inr ⟨hnr, hy⟩) (fun _ _ h => h) ?_
  refine v_aload_n i_T_update_9 rfl ?_
  refine v_aload_n i_T_update_10 rfl ?_
  refine v_get B i_T_update_11 (by first | assumption | exact qset_self _ _ _ | (rw [qset_ne _ _ (by omega)]; first | assumption | exact qset_self _ _ _ | (rw [qset_ne _ _ (by omega)]; first | assumption | exact qset_self _ _ _ | (rw [qset_ne _ _ (by omega)]; first | assumption | exact qset_self _ _ _ | (rw [qset_ne _ _ (by omega)]; first | assumption | exact qset_self _ _ _ | (rw [qset_ne _ _ (by omega)]; first | assumption | exact qset_self _ _ _ | (rw [qset_ne _ _ (by omega)]; first | assumption | exact qset_self _ _ _))))))) rfl ?_
  refine v_iload_n i_T_update_14 rfl ?_
  refine v_inv B i_T_update_15 kn_m_T_descend (c_T_descend B h lat (by omega) k) h0 rfl rfl (Nat.le_of_ble_eq_true rfl) ⟨by decide, by decide, by first | decide | (simp; omega), by first | decide | (simp; omega)⟩ rfl (fun r X' hq => ?_) (fun _ _ h => False.elim h)
  obtain ⟨rfl, hlf, h1, hs1⟩ := hq
  have f1 := qFr.own (t := t) (cnt := cnt) (pa := pa) hs1 (by omega) (by omega)
  have z1 := hs1.1
  generalize X' = X1 at h1 f1 z1 ⊢
  obtain ⟨a0, -, -, -, aco, -, aPG, -⟩ := id h1
  have aP := aPG (tdes pg made ro pn lat k).1 (by omega)
  refine v_astore i_T_update_18 (by decide) rfl ?_
  refine v_aload_n i_T_update_20 rfl ?_
  refine v_aload i_T_update_21 rfl ?_
  refine v_iload_n i_T_update_23 rfl ?_
  refine v_aload_n i_T_update_24 rfl ?_
  refine v_get B i_T_update_25 (by first | assumption | exact qset_self _ _ _ | (rw [qset_ne _ _ (by omega)]; first | assumption | exact qset_self _ _ _ | (rw [qset_ne _ _ (by omega)]; first | assumption | exact qset_self _ _ _ | (rw [qset_ne _ _ (by omega)]; first | assumption | exact qset_self _ _ _ | (rw [qset_ne _ _ (by omega)]; first | assumption | exact qset_self _ _ _ | (rw [qset_ne _ _ (by omega)]; first | assumption | exact qset_self _ _ _ | (rw [qset_ne _ _ (by omega)]; first | assumption | exact qset_self _ _ _))))))) rfl ?_
  refine v_inv B i_T_update_28 kn_m_G_slotOf (c_G_slotOf B aP k lat (by omega)) aP.1 rfl rfl (Nat.le_of_ble_eq_true rfl) ⟨by decide, by decide, by first | decide | (simp; omega), by first | decide | (simp; omega)⟩ rfl (fun r X' hq => ?_) (fun _ _ h => False.elim h)
  obtain ⟨rfl, rfl⟩ := hq
  refine v_put B i_T_update_31 (by first | assumption | exact qset_self _ _ _ | (rw [qset_ne _ _ (by omega)]; first | assumption | exact qset_self _ _ _ | (rw [qset_ne _ _ (by omega)]; first | assumption | exact qset_self _ _ _ | (rw [qset_ne _ _ (by omega)]; first | assumption | exact qset_self _ _ _ | (rw [qset_ne _ _ (by omega)]; first | assumption | exact qset_self _ _ _ | (rw [qset_ne _ _ (by omega)]; first | assumption | exact qset_self _ _ _ | (rw [qset_ne _ _ (by omega)]; first | assumption | exact qset_self _ _ _))))))) (Nat.le_of_ble_eq_true rfl) rfl rfl ?_
  refine v_aload_n i_T_update_34 rfl ?_
  refine v_iconst (v := (-1)) i_T_update_35 rfl ?_
  refine v_put B i_T_update_36 (by first | assumption | exact qset_self _ _ _ | (rw [qset_ne _ _ (by omega)]; first | assumption | exact qset_self _ _ _ | (rw [qset_ne _ _ (by omega)]; first | assumption | exact qset_self _ _ _ | (rw [qset_ne _ _ (by omega)]; first | assumption | exact qset_self _ _ _ | (rw [qset_ne _ _ (by omega)]; first | assumption | exact qset_self _ _ _ | (rw [qset_ne _ _ (by omega)]; first | assumption | exact qset_self _ _ _ | (rw [qset_ne _ _ (by omega)]; first | assumption | exact qset_self _ _ _))))))) (Nat.le_of_ble_eq_true rfl) rfl rfl ?_
  have h2 : TrAt (qset (qset X1 t (.inr (3, [Value.ref (t + 1), .ref (t + 6), .ref (t + 7), .int (nI made), .int (nI lat), .ref (t + 8), .long (tdes pg made ro pn lat k).2.1, .int g1, .int g2, .ref (t + 9), .ref (t + 12), .int (nI db)].set 7 (.int (vO (gslot (pg (tdes pg made ro pn lat k).1) k lat)))))) t (.inr (3, ([Value.ref (t + 1), .ref (t + 6), .ref (t + 7), .int (nI made), .int (nI lat), .ref (t + 8), .long (tdes pg made ro pn lat k).2.1, .int g1, .int g2, .ref (t + 9), .ref (t + 12), .int (nI db)].set 7 (.int (vO (gslot (pg (tdes pg made ro pn lat k).1) k lat)))).set 8 (.int (-1))))) t cnt pa pg made lat ro (tdes pg made ro pn lat k).2.2 (tdes pg made ro pn lat k).2.1 (vO (gslot (pg (tdes pg made ro pn lat k).1) k lat)) (vO none) co li db :=
    (h1.obj (g1' := vO (gslot (pg (tdes pg made ro pn lat k).1) k lat)) rfl ⟨m1, m2⟩ m4 m5).obj (g2' := vO none) rfl ⟨m1, m2⟩ m4 m5
  have f2 : qFr X1 (qset (qset X1 t (.inr (3, [Value.ref (t + 1), .ref (t + 6), .ref (t + 7), .int (nI made), .int (nI lat), .ref (t + 8), .long (tdes pg made ro pn lat k).2.1, .int g1, .int g2, .ref (t + 9), .ref (t + 12), .int (nI db)].set 7 (.int (vO (gslot (pg (tdes pg made ro pn lat k).1) k lat)))))) t (.inr (3, ([Value.ref (t + 1), .ref (t + 6), .ref (t + 7), .int (nI made), .int (nI lat), .ref (t + 8), .long (tdes pg made ro pn lat k).2.1, .int g1, .int g2, .ref (t + 9), .ref (t + 12), .int (nI db)].set 7 (.int (vO (gslot (pg (tdes pg made ro pn lat k).1) k lat)))).set 8 (.int (-1))))) t cnt pa := qFr.own (((qSame.rf X1 t (t + 1)).set _ (by omega) (by omega)).set _ (by omega) (by omega)) (by omega) (by omega)
  generalize qset (qset X1 t (.inr (3, [Value.ref (t + 1), .ref (t + 6), .ref (t + 7), .int (nI made), .int (nI lat), .ref (t + 8), .long (tdes pg made ro pn lat k).2.1, .int g1, .int g2, .ref (t + 9), .ref (t + 12), .int (nI db)].set 7 (.int (vO (gslot (pg (tdes pg made ro pn lat k).1) k lat)))))) t (.inr (3, ([Value.ref (t + 1), .ref (t + 6), .ref (t + 7), .int (nI made), .int (nI lat), .ref (t + 8), .long (tdes pg made ro pn lat k).2.1, .int g1, .int g2, .ref (t + 9), .ref (t + 12), .int (nI db)].set 7 (.int (vO (gslot (pg (tdes pg made ro pn lat k).1) k lat)))).set 8 (.int (-1)))) = X2 at h2 f2 ⊢
  have f2' := f1.trans f2 (qGr.rf X cnt pa)
  obtain ⟨b0, -, -, -, bco, -⟩ := id h2
  refine v_aload_n i_T_update_39 rfl ?_
  refine v_get B i_T_update_40 (by first | assumption | exact qset_self _ _ _ | (rw [qset_ne _ _ (by omega)]; first | assumption | exact qset_self _ _ _ | (rw [qset_ne _ _ (by omega)]; first | assumption | exact qset_self _ _ _ | (rw [qset_ne _ _ (by omega)]; first | assumption | exact qset_self _ _ _ | (rw [qset_ne _ _ (by omega)]; first | assumption | exact qset_self _ _ _ | (rw [qset_ne _ _ (by omega)]; first | assumption | exact qset_self _ _ _ | (rw [qset_ne _ _ (by omega)]; first | assumption | exact qset_self _ _ _))))))) rfl ?_
  refine v_inv B i_T_update_43 kn_m_R_clear (c_R_clear B bco) bco.1 rfl rfl (Nat.le_of_ble_eq_true rfl) ⟨by decide, by decide, by first | decide | (simp; omega), by first | decide | (simp; omega)⟩ rfl (fun r X' hq => ?_) (fun _ _ h => False.elim h)
  obtain ⟨rfl, hr3, hs3⟩ := hq
  have h3 := h2.coming hs3 hr3
  have f3 := f2'.trans (qFr.own (t := t) (cnt := cnt) (pa := pa) hs3 (by omega) (by omega)) (qGr.rf X cnt pa)
  generalize X' = X3 at h3 f3 ⊢
  have go : ∀ X4 : qX, TrAt X4 t cnt pa pg made lat ro (tdes pg made ro pn lat k).2.2 (tdes pg made ro pn lat k).2.1 (vO (gslot (pg (tdes pg made ro pn lat k).1) k lat)) (vO none) (if b = true then [(k, w)] else []) li db → qFr X X4 t cnt pa →
      qV l s0 C m_T_update rm_T_update (fun r X' => r = some (.int (nI (lat + 1))) ∧ ∃ (cnt' : Nat) (pa' : Nat → Nat) (li' : qRw), TrU X' t cnt' pa' (lat + 1) (tdes pg made ro pn lat k).2.2 (tdes pg made ro pn lat k).2.1 db li' (tupd pg made lat ro pn k w b) ∧ qFr X X' t cnt pa ∧ qGr X cnt cnt' pa pa') (fun _ _ => False) 0 0 X4 60 [(0, .ref t), (1, .int k), (2, .long w), (4, .int (bI b)), (5, .ref (pa (tdes pg made ro pn lat k).1))] [] := by
    intro X4 h4 f4
    obtain ⟨c0, -⟩ := id h4
    refine v_aload_n i_T_update_60 rfl ?_
    refine v_get B i_T_update_61 (by first | assumption | exact qset_self _ _ _ | (rw [qset_ne _ _ (by omega)]; first | assumption | exact qset_self _ _ _ | (rw [qset_ne _ _ (by omega)]; first | assumption | exact qset_self _ _ _ | (rw [qset_ne _ _ (by omega)]; first | assumption | exact qset_self _ _ _ | (rw [qset_ne _ _ (by omega)]; first | assumption | exact qset_self _ _ _ | (rw [qset_ne _ _ (by omega)]; first | assumption | exact qset_self _ _ _ | (rw [qset_ne _ _ (by omega)]; first | assumption | exact qset_self _ _ _))))))) rfl ?_
    refine v_iconst (v := 1) i_T_update_64 rfl ?_
    refine v_iadd i_T_update_65 ?_
    rw [nI_1]
    refine v_istore i_T_update_66 (by decide) rfl ?_
    refine v_aload_n i_T_update_68 rfl ?_
    refine v_iload i_T_update_69 rfl ?_
    refine v_aload_n i_T_update_71 rfl ?_
    refine v_aload_n i_T_update_72 rfl ?_
    refine v_get B i_T_update_73 (by first | assumption | exact qset_self _ _ _ | (rw [qset_ne _ _ (by omega)]; first | assumption | exact qset_self _ _ _ | (rw [qset_ne _ _ (by omega)]; first | assumption | exact qset_self _ _ _ | (rw [qset_ne _ _ (by omega)]; first | assumption | exact qset_self _ _ _ | (rw [qset_ne _ _ (by omega)]; first | assumption | exact qset_self _ _ _ | (rw [qset_ne _ _ (by omega)]; first | assumption | exact qset_self _ _ _ | (rw [qset_ne _ _ (by omega)]; first | assumption | exact qset_self _ _ _))))))) rfl ?_
    refine v_inv B i_T_update_76 kn_m_T_rootOf (c_T_rootOf B h4 lat (by omega)) c0 rfl rfl (Nat.le_of_ble_eq_true rfl) ⟨by decide, by decide, by first | decide | (simp; omega), by first | decide | (simp; omega)⟩ rfl (fun r X' hq => ?_) (fun _ _ h => False.elim h)
    obtain ⟨rfl, rfl⟩ := hq
    refine v_inv B i_T_update_79 kn_m_T_setRoot (c_T_setRoot B h4 (lat + 1) (ro lat) (by omega) (hro lat (by omega))) c0 rfl rfl (Nat.le_of_ble_eq_true rfl) ⟨by decide, by decide, by first | decide | (simp; omega), by first | decide | (simp; omega)⟩ rfl (fun r X' hq => ?_) (fun _ _ h => False.elim h)
    obtain ⟨rfl, h5, hs5⟩ := hq
    refine v_iconst (v := 1) i_T_update_82 rfl ?_
    refine v_istore i_T_update_83 (by decide) rfl ?_
    refine v_iconst (v := 0) i_T_update_85 rfl ?_
    refine v_istore i_T_update_86 (by decide) rfl ?_
    refine v_loc [(0, .ref t), (1, .int k), (2, .long w), (4, .int (bI b)), (5, .ref (pa (tdes pg made ro pn lat k).1)), (6, .int (nI (lat + 1))), (7, .int (bI true)), (8, .int (nI 0))] rfl ?_
    have f5 := f4.trans (qFr.own (t := t) (cnt := cnt) (pa := pa) hs5 (by omega) (by omega)) (qGr.rf X cnt pa)
    have K := c_T_update_loop (X := X) (cnt := cnt) (pa := pa) (lat := lat) (fe := (tdes pg made ro pn lat k).2.1) (db := db) (pn := (tdes pg made ro pn lat k).2.2) (t := t) B (lat + 1) k w (bI b) (pa (tdes pg made ro pn lat k).1) (by omega) 16 0 true (tup0 pg made lat ro pn k w b) X' cnt pa li (by omega) (fun _ => hok hnr) h5 (Nat.le_trans hX f5.1) f5 (qGr.rf X cnt pa)
    exact K
  refine v_iload i_T_update_46 rfl ?_
  refine v_if_eq (tgt := 60) i_T_update_48 rfl (fun h48 => ?_) (fun h48 => ?_)
  · refine v_loc [(0, .ref t), (1, .int k), (2, .long w), (4, .int (bI b)), (5, .ref (pa (tdes pg made ro pn lat k).1))] rfl (go X3 ?_ f3)
    rw [if_neg (by rw [bI_0.mp h48]; decide)]
    exact h3
  · obtain ⟨c0, -, -, -, cco, -⟩ := id h3
    refine v_aload_n i_T_update_51 rfl ?_
    refine v_get B i_T_update_52 (by first | assumption | exact qset_self _ _ _ | (rw [qset_ne _ _ (by omega)]; first | assumption | exact qset_self _ _ _ | (rw [qset_ne _ _ (by omega)]; first | assumption | exact qset_self _ _ _ | (rw [qset_ne _ _ (by omega)]; first | assumption | exact qset_self _ _ _ | (rw [qset_ne _ _ (by omega)]; first | assumption | exact qset_self _ _ _ | (rw [qset_ne _ _ (by omega)]; first | assumption | exact qset_self _ _ _ | (rw [qset_ne _ _ (by omega)]; first | assumption | exact qset_self _ _ _))))))) rfl ?_
    refine v_iload_n i_T_update_55 rfl ?_
    refine v_lload_n i_T_update_56 rfl ?_
    refine v_inv B i_T_update_57 kn_m_R_insert (c_R_insert B cco k w (by decide)) cco.1 rfl rfl (Nat.le_of_ble_eq_true rfl) ⟨by decide, by decide, by first | decide | (simp; omega), by first | decide | (simp; omega)⟩ rfl (fun r X' hq => ?_) (fun _ _ h => False.elim h)
    obtain ⟨rfl, hr4, hs4⟩ := hq
    refine v_loc [(0, .ref t), (1, .int k), (2, .long w), (4, .int (bI b)), (5, .ref (pa (tdes pg made ro pn lat k).1))] rfl (go _ ?_ (f3.trans (qFr.own (t := t) (cnt := cnt) (pa := pa) hs4 (by omega) (by omega)) (qGr.rf X cnt pa)))
    rw [if_pos (bI_ne h48)]
    exact h3.coming hs4 hr4
end TW
