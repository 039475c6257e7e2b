/-! all keys of a version, in their order -/
def ychd (x : Int64) : Nat := x.toInt.toNat
theorem ychd_lN {c : Nat} (h : c < 2 ^ 31) : ychd (lN c) = c := by
  unfold ychd
  rw [pk_lT (by omega)]
  rfl
def yCol (V : yV) : Nat → qRw → qRw
  | 0, L => L
  | l + 1, L => L.flatMap (fun e => yCol V l (V (ychd e.2)).2.2)
theorem yCol_app (V : yV) (l : Nat) (A C : qRw) : yCol V l (A ++ C) = yCol V l A ++ yCol V l C := by
  cases l with
  | zero => rfl
  | succ l => simp [yCol]
theorem yCol_one (V : yV) (l : Nat) (x : Int32 × Int64) : yCol V (l + 1) [x] = yCol V l (V (ychd x.2)).2.2 := by simp [yCol]
theorem yCol_spec {V : yV} {made : Nat} (hm : made ≤ 256) : ∀ {l : Nat} {L : qRw} {lo hi : Int} {n : Nat}, yNB V made l L lo hi n → ySS (yCol V l L) ∧ yRng (yCol V l L) lo hi ∧ (yCol V l L).length = n
  | 0, L, lo, hi, n, h => ⟨h.1, h.2.1, h.2.2.symm⟩
  | l + 1, L, lo, hi, n, h => by
    have h4 := (yNB_succ.mp h).2.2.2
    clear h
    revert lo n
    induction L with
    | nil =>
      intro lo n h4
      obtain ⟨rfl, rfl⟩ := h4
      exact ⟨List.Pairwise.nil, fun e he => (nomatch he), rfl⟩
    | cons e t ih =>
      intro lo n h4
      obtain ⟨c, m, n1, n2, h1, h2, h3, h4, rfl⟩ := h4
      obtain ⟨i1, i2, i3⟩ := ih _ _ h4
      obtain ⟨j1, j2, j3⟩ := yCol_spec hm h2.2.2.2.2
      have hlt := h2.lt
      have hle := ySg_le (Bp := yCh V made l) yCh.lt h4
      have e1 : yCol V (l + 1) (e :: t) = yCol V l (V c).2.2 ++ yCol V (l + 1) t := by
        rw [show e :: t = [e] ++ t from rfl, yCol_app, yCol_one, h1, ychd_lN (by have := h2.1; omega)]
      rw [e1]
      refine ⟨ySS_app.mpr ⟨j1, i1, fun a ha b hb => ?_⟩, fun x hx => ?_, by rw [List.length_append, i3, j3]⟩
      · have := j2 a ha; have := i2 b hb; omega
      · rcases List.mem_append.mp hx with q | q
        · have := j2 x q; omega
        · have := i2 x q; omega
/-- keys of an interval -/
def yIn (lo hi : Int) (e : Int32 × Int64) : Bool := decide (lo ≤ e.1.toInt ∧ e.1.toInt < hi)
theorem filter_none {L : qRw} {p : Int32 × Int64 → Bool} (h : ∀ e ∈ L, p e = false) : L.filter p = [] := List.filter_eq_nil_iff.mpr (fun e he q => by rw [h e he] at q; cases q)
theorem filter_all {L : qRw} {p : Int32 × Int64 → Bool} (h : ∀ e ∈ L, p e = true) : L.filter p = L := List.filter_eq_self.mpr h
/-- a leaf holds the keys of its interval -/
theorem yleaf {pg : Nat → Pg} {made w : Nat} {k : Int32} (hm : made ≤ 256) {l : Nat} {pp : Nat → Nat} {lo hi : Nat → Int} {nn : Nat → Nat} (h : yPth pg made w k l pp lo hi nn) : ∀ j, j ≤ l → yal (pg (pp 0)).2.2.2 w = (yCol (yVw pg w) j (yal (pg (pp j)).2.2.2 w)).filter (yIn (lo 0) (hi 0)) ∧ lo j ≤ lo 0 ∧ hi 0 ≤ hi j
  | 0, _ => by
    refine ⟨(filter_all (fun e he => ?_)).symm, Int.le_refl _, Int.le_refl _⟩
    have := (h.1 0 (Nat.zero_le _)).2.2.2.1.rng e he
    unfold yIn; exact decide_eq_true this
  | j + 1, hj => by
    obtain ⟨ih, b1, b2⟩ := yleaf hm h j (by omega)
    obtain ⟨-, i, A, C, g1, g2, g3, g4, g5, g6, g7⟩ := h.2 j (by omega)
    obtain ⟨p1, p2, p3, p4, p5, p6, p7⟩ := h.1 (j + 1) hj
    have inn := h.inner (show j < l by omega)
    have q4 := p4
    rw [g4, show A ++ yen (pg (pp (j + 1))).2.2.2 i :: C = A ++ (yen (pg (pp (j + 1))).2.2.2 i :: []) ++ C by simp] at q4
    obtain ⟨nA, nR, nC, k1, k2, k3, k4, k5, k6, k7, k8, k9⟩ := yNB_parts q4
    refine ⟨?_, by omega, by omega⟩
    rw [g4, show A ++ yen (pg (pp (j + 1))).2.2.2 i :: C = A ++ (yen (pg (pp (j + 1))).2.2.2 i :: []) ++ C by simp, yCol_app, yCol_app, List.filter_append, List.filter_append, yCol_one]
    have hA : (yCol (yVw pg w) (j + 1) A).filter (yIn (lo 0) (hi 0)) = [] := by
      by_cases q : A = []
      · rw [q]; rfl
      · refine filter_none (fun e he => ?_)
        have := (yCol_spec hm (k1 q)).2.1 e he
        unfold yIn; exact decide_eq_false (by omega)
    have hC : (yCol (yVw pg w) (j + 1) C).filter (yIn (lo 0) (hi 0)) = [] := by
      by_cases q : C = []
      · rw [q]; rfl
      · refine filter_none (fun e he => ?_)
        have := (yCol_spec hm (k4 q)).2.1 e he
        unfold yIn; exact decide_eq_false (by omega)
    have hc : ychd (yen (pg (pp (j + 1))).2.2.2 i).2 = pp j := by
      show ychd (en (pg (pp (j + 1))).2.2.2 i).2.2.2 = pp j
      rw [g5]; exact ychd_lN (by have := (h.1 j (by omega)).1; omega)
    rw [hA, hC, hc, List.nil_append, List.append_nil]
    exact ih
/-- all keys at a version -/
def yKs (pg : Nat → Pg) (r w : Nat) : qRw := yCol (yVw pg w) (pg r).1 (yal (pg r).2.2.2 w)
theorem yKs_spec {pg : Nat → Pg} {made r w : Nat} (hm : made ≤ 256) (h : yGd pg made r w) : ySS (yKs pg r w) ∧ (yKs pg r w).length ≤ w := by
  obtain ⟨l, n, h1, h2, h3, h4, h5, h6⟩ := h
  unfold yKs
  rw [h2]
  have := yCol_spec hm h5
  exact ⟨this.1, by omega⟩
/-- the walk down at a version -/
theorem ydown {pg : Nat → Pg} {made : Nat} {ro : Nat → Nat} {w : Nat} (hm : made ≤ 256) (hl : ∀ p, p < made → (pg p).2.2.2.length ≤ 16) (h : yGd pg made (ro w) w) (hw : w ≤ 800) (k : Int32) :
    ∃ p a b, p < made ∧ (pg p).1 = 0 ∧ ySS (yal (pg p).2.2.2 w) ∧ a ≤ k.toInt ∧ k.toInt < b ∧ yal (pg p).2.2.2 w = (yKs pg (ro w) w).filter (yIn a b) ∧ mdOK pg made w k 16 (ro w) ∧ tlf pg made w k 16 (ro w) = p ∧ (p = ro w ∨ 3 ≤ (yal (pg p).2.2.2 w).length) ∧
      ∀ q, (tdes pg made ro q w k).1 = p ∧ yFe (tdes pg made ro q w k).2.1 b := by
  have hlv := h.level hw
  obtain ⟨l, n, h1, h2, h3, h4, h5, h6⟩ := h
  have kb := Int32.toInt_lt k
  have kb2 := Int32.le_toInt k
  obtain ⟨pp, lo, hi, nn, r1, r2, r3, r4, r5, r6⟩ := ypath (k := k) hm hl h1 h2 h3 (by omega) h5 kb2 kb (Int.le_refl _)
  obtain ⟨s1, s2⟩ := r6 16 (by omega)
  obtain ⟨p1, p2, p3, p4, p5, p6, p7⟩ := r1.1 0 (Nat.zero_le _)
  have hf := (yleaf hm r1 l (Nat.le_refl _)).1
  have ed : ∀ q, tdes pg made ro q w k = tdesc pg made w k 16 (ro w) 9223372036854775807 q := fun q => by unfold tdes; rw [tpn_nI h1 hm]
  refine ⟨pp 0, lo 0, hi 0, p1, p2, p4.ss, p5, p6, ?_, s1, ?_, ?_, fun q => ?_⟩
  · rw [hf, r2]; unfold yKs; rw [h2]
  · rw [← tdesc_leaf pg made w k 16 (ro w) 9223372036854775807 (fun _ => none)]
    exact (s2 _ _).1
  · by_cases q : l = 0
    · subst q; left; exact r2
    · exact Or.inr (r1.2 0 (by omega)).1
  · rw [ed]
    obtain ⟨u1, u2, u3, u4⟩ := s2 9223372036854775807 q
    exact ⟨u1, u4 (Or.inr ⟨rfl, rfl⟩)⟩
