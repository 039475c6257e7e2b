/-! the tree at all versions -/
def yInv (pg : Nat → Pg) (made lat : Nat) (ro : Nat → Nat) : Prop := 1 ≤ made ∧ made ≤ 256 ∧ (∀ p, p < made → yCl (pg p) lat ∧ (pg p).2.2.2.length ≤ 16) ∧ (∀ w, w ≤ lat → yGd pg made (ro w) w) ∧ ∀ w, w ≤ lat → yDn pg made (ro w) w
theorem y3 (l : Nat) (h : 2 * 3 ^ l ≤ 800) : l ≤ 5 := by
  rcases Nat.lt_or_ge 5 l with q | q
  · exfalso
    have : 3 ^ 6 ≤ 3 ^ l := Nat.pow_le_pow_right (by omega) (by omega)
    omega
  · exact q
theorem yGd.level {pg : Nat → Pg} {made r w : Nat} (h : yGd pg made r w) (hw : w ≤ 800) : (pg r).1 ≤ 5 := by
  obtain ⟨l, n, h1, h2, h3, h4, h5, h6⟩ := h
  rw [h2]
  rcases h4 with q | q
  · omega
  · have := yNB_many h5
    have : 2 * 3 ^ l ≤ (yal (pg r).2.2.2 w).length * 3 ^ l := Nat.mul_le_mul_right _ q
    exact y3 l (by omega)
theorem tpn_root {made i : Nat} (h : i < made) (hm : made ≤ 256) : tpn made (nI i).toInt64 = i := tpn_nI h hm
section YI
variable {pg : Nat → Pg} {made lat : Nat} {ro : Nat → Nat} {k : Int32} {w : Int64} {b : Bool}
theorem tref_false (h : yInv pg made lat ro) (ht : tref pg made lat ro = false) : made + 2 * ((pg (ro lat)).1 + 1) + 1 ≤ 256 ∧ lat < 800 := by
  unfold tref at ht
  obtain ⟨l, n, h1, -⟩ := h.2.2.2.1 lat (Nat.le_refl _)
  rw [tpn_nI h1 h.2.1, Bool.or_eq_false_iff] at ht
  have a := of_decide_eq_false ht.1
  have b := of_decide_eq_false ht.2
  omega
/-- the way down and the beginning of an update -/
theorem ybegin (h : yInv pg made lat ro) (ht : tref pg made lat ro = false) (k : Int32) (w : Int64) (b : Bool) :
    ∃ l pp lo hi nn, ∀ pn : Nat → Option Nat, yCx pg made lat ro k l pp lo hi nn (tdes pg made ro pn lat k).2.2 ∧ (tdes pg made ro pn lat k).1 = pp 0 ∧ yLI pg made lat ro l pp lo hi nn 0 (tup0 pg made lat ro pn k w b) ∧ mdOK pg made lat k 16 (ro lat) := by
  obtain ⟨t1, t2⟩ := tref_false h ht
  obtain ⟨i1, i2, i3, i4, i5⟩ := id h
  have hgd := i4 lat (Nat.le_refl _)
  have hlv := hgd.level (by omega)
  obtain ⟨l, n, h1, h2, h3, h4, h5, h6⟩ := hgd
  have kb := Int32.toInt_lt k
  have kb2 := Int32.le_toInt k
  obtain ⟨pp, lo, hi, nn, r1, r2, r3, r4, r5, r6⟩ := ypath (k := k) i2 (fun p hp => (i3 p hp).2) h1 h2 h3 (by omega) h5 kb2 kb (Int.le_refl _)
  obtain ⟨s1, s2⟩ := r6 16 (by omega)
  refine ⟨l, pp, lo, hi, nn, fun pn => ?_⟩
  obtain ⟨u1, u2, u3, u4⟩ := s2 9223372036854775807 pn
  have ed : tdes pg made ro pn lat k = tdesc pg made lat k 16 (ro lat) 9223372036854775807 pn := by unfold tdes; rw [tpn_nI h1 i2]
  rw [← ed] at u1 u2 u3 u4
  have hcx : yCx pg made lat ro k l pp lo hi nn (tdes pg made ro pn lat k).2.2 := by
    refine ⟨by omega, by omega, i3, r1, r2, r3, r4, by omega, u2, fun hl => ?_, i5 lat (Nat.le_refl _)⟩
    rw [r2]
    rcases h4 with q | q
    · omega
    · exact q
  refine ⟨hcx, u1, ?_, s1⟩
  obtain ⟨p1, p2, p3, p4, p5, p6, p7⟩ := r1.1 0 (Nat.zero_le _)
  have hs := p4.ss
  have hlen := (i3 _ p1).2
  have hoA : yoA (gslot (pg (pp 0)) k lat) (pg (pp 0)).2.2.2 lat ∧ ∀ t, t < (pg (pp 0)).2.2.2.length → alv (en (pg (pp 0)).2.2.2 t) lat = true → ¬ some t = gslot (pg (pp 0)) k lat → (en (pg (pp 0)).2.2.2 t).1 ≠ k := by
    rcases yslot (k := k) hs with ⟨i, e1, e2, e3, e4, e5⟩ | ⟨e1, e2⟩
    · rw [e1]
      exact ⟨⟨fun t ht => by cases ht; exact e2, fun t ht => by cases ht; exact e3⟩, fun t t1 t2 t3 t4 => t3 (by rw [e5 t t1 t2 t4])⟩
    · rw [e1]
      exact ⟨⟨fun t ht => (nomatch ht), fun t ht => (nomatch ht)⟩, fun t t1 t2 _ => e2 t t1 t2⟩
  have hoN : yoA none (pg (pp 0)).2.2.2 lat := ⟨fun t ht => (nomatch ht), fun t ht => (nomatch ht)⟩
  have e0 : tup0 pg made lat ro pn k w b = (pg, made, va_up ro (lat + 1) (ro lat), gslot (pg (pp 0)) k lat, none, if b = true then [(k, w)] else []) := by unfold tup0; rw [u1]
  rw [e0]
  have hcl : (if b = true then [(k, w)] else ([] : qRw)).length ≤ 1 := by split <;> simp
  have hck : ∀ e ∈ (if b = true then [(k, w)] else ([] : qRw)), e.1 = k := by
    intro e he
    split at he
    · rw [List.mem_singleton] at he; rw [he]
    · cases he
  generalize hcoq : (if b = true then [(k, w)] else ([] : qRw)) = co at hcl hck ⊢
  have hperm := ytlist_perm (P := pg (pp 0)) (lat := lat) hoA.1.1 hoN.1 hlen co
  have hws := ytlist_ws (P := pg (pp 0)) (lat := lat) hoA.1.1 hoN.1 hlen co
  have hne : (yF (pg (pp 0)).2.2.2 lat (gslot (pg (pp 0)) k lat) none (pg (pp 0)).2.2.2.length).Pairwise (fun a b => a.1 ≠ b.1) := by
    refine List.Pairwise.sublist (yF_sub _) ?_
    refine List.Perm.pairwise (yal_perm _ _) ?_ (fun {x y} q => Ne.symm q)
    refine List.Pairwise.imp ?_ hs
    intro a b q e
    have q' : a.1.toInt < b.1.toInt := q
    rw [e] at q'; omega
  have hne2 : (yF (pg (pp 0)).2.2.2 lat (gslot (pg (pp 0)) k lat) none (pg (pp 0)).2.2.2.length ++ co).Pairwise (fun a b => a.1 ≠ b.1) := by
    refine List.pairwise_append.mpr ⟨hne, ?_, fun a ha c hcc => ?_⟩
    · match co, hcl with
      | [], _ => exact List.Pairwise.nil
      | [x], _ => exact List.pairwise_singleton _ _
    · rw [hck c hcc]
      obtain ⟨t, t1, t2, t3, t4, rfl⟩ := yF_mem.mp ha
      exact hoA.2 t t1 t2 t3
  have hss : ySS (tlist (pg (pp 0)) lat (vO (gslot (pg (pp 0)) k lat)) (vO none) co) := ySS_of_ne hws (List.Perm.pairwise hperm.symm hne2 (fun {x y} q => Ne.symm q))
  have hlenL := hperm.length_eq
  rw [List.length_append] at hlenL
  have hF1 := (yF_sub (es := (pg (pp 0)).2.2.2) (v := lat) (o1 := gslot (pg (pp 0)) k lat) (o2 := none) (pg (pp 0)).2.2.2.length).length_le
  have hFa := (yal_perm (pg (pp 0)).2.2.2 lat).length_eq
  have hF2 : (yF (pg (pp 0)).2.2.2 lat none none (pg (pp 0)).2.2.2.length).length ≤ (yF (pg (pp 0)).2.2.2 lat (gslot (pg (pp 0)) k lat) none (pg (pp 0)).2.2.2.length).length + 1 := by
    cases hg : gslot (pg (pp 0)) k lat with
    | none => omega
    | some i =>
      rw [hg] at hoA
      rw [(yF_del1 (hoA.1.2 i rfl) (hoA.1.1 i rfl)).length_eq, List.length_cons]
      exact Nat.le_refl _
  refine ⟨Nat.zero_le _, Nat.le_refl _, by show made ≤ made + 2 * 0; omega, rfl, fun p hp => Or.inl rfl, fun p q1 q2 => by have q2' : p < made := q2; omega, hoA.1, hoN, by show co.length ≤ 2; omega, Or.inl rfl, (tlist (pg (pp 0)) lat (vO (gslot (pg (pp 0)) k lat)) (vO none) co).length, ⟨hss, fun e he => ?_, rfl⟩, ?_, fun hl => ?_⟩
  · rcases List.mem_append.mp (hperm.mem_iff.mp he) with q | q
    · have := (yF_sub _).subset q
      exact p4.rng e ((yal_perm _ _).mem_iff.mpr this)
    · rw [hck e q]; exact ⟨p5, p6⟩
  · have := p4.2.2
    omega
  · have := (r1.2 0 hl).1
    show 2 ≤ (tlist (pg (pp 0)) lat (vO (gslot (pg (pp 0)) k lat)) (vO none) co).length
    omega
end YI
