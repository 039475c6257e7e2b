/-! going back: earlier versions out of later ones; the history -/
theorem oback_back {o : Option Nat} {j v : Nat} (h : j ≤ v) : oback (oback o v) j = oback o j := by
  cases o with
  | none => rfl
  | some t =>
    have e : ∀ u, oback (some t) u = if u < t then none else some t := by
      intro u
      unfold oback ogt
      by_cases q : u < t
      · rw [if_pos q, if_pos (by simp [q])]
      · rw [if_neg q, if_neg (by simp [q])]
    rw [e v, e j]
    by_cases q : v < t
    · rw [if_pos q, if_pos (by omega)]; rfl
    · rw [if_neg q, e j]
theorem gtrim_back {es : List Ent} {j v : Nat} (h : j ≤ v) : ∀ n, gtrim es j (gtrim es v n) = gtrim es j n
  | 0 => rfl
  | n + 1 => by
    rw [gtrim]
    by_cases q : v < (en es n).2.1
    · rw [if_pos q, gtrim_back h n, gtrim, if_pos (by omega)]
    · rw [if_neg q]
theorem gtrim_congr {es es' : List Ent} {v : Nat} : ∀ n, (∀ i, i < n → (en es i).2.1 = (en es' i).2.1) → gtrim es v n = gtrim es' v n
  | 0, _ => rfl
  | n + 1, h => by rw [gtrim, gtrim, h n (by omega), gtrim_congr n (fun i hi => h i (by omega))]
theorem gback_back {P : Pg} {j v : Nat} (h : j ≤ v) : gback (gback P v) j = gback P j := by
  obtain ⟨x1, x2, x3, es⟩ := P
  have hl : ((es.take (gtrim es v es.length)).map (fun e : Ent => (e.1, e.2.1, oback e.2.2.1 v, e.2.2.2))).length = gtrim es v es.length := by
    rw [List.length_map, List.length_take]; have := gtrim_le es v es.length; omega
  have ht : gtrim ((es.take (gtrim es v es.length)).map (fun e : Ent => (e.1, e.2.1, oback e.2.2.1 v, e.2.2.2))) j (gtrim es v es.length) = gtrim es j es.length := by
    rw [← gtrim_back (es := es) h es.length]
    refine gtrim_congr _ (fun i hi => ?_)
    rw [yen_map (by rw [List.length_map] at hl; omega), yen_take hi]
  have hle := gtrim_le es j (gtrim es v es.length)
  rw [gtrim_back h] at hle
  have e : (((es.take (gtrim es v es.length)).map (fun e : Ent => (e.1, e.2.1, oback e.2.2.1 v, e.2.2.2))).take (gtrim es j es.length)).map (fun e : Ent => (e.1, e.2.1, oback e.2.2.1 j, e.2.2.2)) = (es.take (gtrim es j es.length)).map (fun e : Ent => (e.1, e.2.1, oback e.2.2.1 j, e.2.2.2)) := by
    have hle2 := gtrim_le es v es.length
    refine list_ext_en (by rw [List.length_map, List.length_map, List.length_take, List.length_take, hl]; omega) (fun i hi => ?_)
    rw [List.length_map, List.length_take, hl] at hi
    rw [yen_map (by rw [List.length_take, hl]; omega), yen_map (by rw [List.length_take]; omega), yen_take (by omega), yen_take (by omega), yen_map (by rw [List.length_take]; omega), yen_take (by omega), oback_back h]
  show (x1, x2, oback (oback x3 v) j, (((es.take (gtrim es v es.length)).map (fun e : Ent => (e.1, e.2.1, oback e.2.2.1 v, e.2.2.2))).take (gtrim ((es.take (gtrim es v es.length)).map (fun e : Ent => (e.1, e.2.1, oback e.2.2.1 v, e.2.2.2))) j ((es.take (gtrim es v es.length)).map (fun e : Ent => (e.1, e.2.1, oback e.2.2.1 v, e.2.2.2))).length)).map (fun e : Ent => (e.1, e.2.1, oback e.2.2.1 j, e.2.2.2))) = (x1, x2, oback x3 j, (es.take (gtrim es j es.length)).map (fun e : Ent => (e.1, e.2.1, oback e.2.2.1 j, e.2.2.2)))
  rw [hl, ht, oback_back h, e]
theorem tmd_congr {pg pg' : Nat → Pg} {v : Nat} : ∀ n, (∀ i, i < n → (pg i).2.1 = (pg' i).2.1) → tmd pg v n = tmd pg' v n
  | 0, _ => rfl
  | n + 1, h => by rw [tmd, tmd, h n (by omega), tmd_congr n (fun i hi => h i (by omega))]
theorem tmd_back {pg : Nat → Pg} {j v : Nat} (h : j ≤ v) : ∀ n, tmd pg j (tmd pg v n) = tmd pg j n
  | 0 => rfl
  | n + 1 => by
    rw [tmd]
    by_cases q : 1 ≤ n ∧ v < (pg n).2.1
    · rw [if_pos q, tmd_back h n, tmd, if_pos ⟨q.1, by omega⟩]
    · rw [if_neg q]
theorem tmd_cl {pg : Nat → Pg} {v : Nat} {n : Nat} (h : ∀ i, i < n → (pg i).2.1 ≤ v) : tmd pg v n = n := by
  cases n with
  | zero => rfl
  | succ n => rw [tmd, if_neg (fun q => by have := h n (by omega); omega)]
theorem tmd_new {pg : Nat → Pg} {v m : Nat} (hm : 1 ≤ m) : ∀ n, (∀ i, m ≤ i → i < m + n → v < (pg i).2.1) → tmd pg v (m + n) = tmd pg v m
  | 0, _ => rfl
  | n + 1, h => by
    rw [← Nat.add_assoc, tmd, if_pos ⟨by omega, h (m + n) (by omega) (by omega)⟩]
    exact tmd_new hm n (fun i h1 h2 => h i h1 (by omega))
abbrev yTm (pg : Nat → Pg) (made j : Nat) : Nat := tmd pg j made
abbrev yTp (pg : Nat → Pg) (made j : Nat) : Nat → Pg := tbk pg j (tmd pg j made)
theorem tbk_lt {pg : Nat → Pg} {v n i : Nat} (h : i < n) : tbk pg v n i = gback (pg i) v := by unfold tbk; rw [if_pos h]
theorem yTr_ag {pg pg' : Nat → Pg} {made made' lat : Nat} {ro ro' : Nat → Nat} (h : yAg pg made lat ro pg' made' ro') {j : Nat} (hj : j ≤ lat) : yAg (yTp pg made j) (yTm pg made j) j ro (yTp pg' made' j) (yTm pg' made' j) ro' := by
  obtain ⟨rfl, h2, h3⟩ := h
  have e : yTm pg made j = yTm pg' made j := tmd_congr _ (fun i hi => by rw [h2 i hi])
  refine ⟨e, fun p hp => ?_, fun w hw => h3 w (by omega)⟩
  have hp' : p < tmd pg' j made := by have : tmd pg j made = tmd pg' j made := e; have hp2 : p < tmd pg j made := hp; omega
  show tbk pg j (tmd pg j made) p = tbk pg' j (tmd pg' j made) p
  rw [tbk_lt hp, tbk_lt hp', h2 p (by have := tmd_le pg j made; have hp2 : p < tmd pg j made := hp; omega)]
theorem yTr_tr {pg : Nat → Pg} {made : Nat} {ro : Nat → Nat} {j v : Nat} (h : j ≤ v) : yAg (yTp (yTp pg made v) (yTm pg made v) j) (yTm (yTp pg made v) (yTm pg made v) j) j ro (yTp pg made j) (yTm pg made j) ro := by
  have e : yTm (yTp pg made v) (yTm pg made v) j = yTm pg made j := by
    show tmd (tbk pg v (tmd pg v made)) j (tmd pg v made) = tmd pg j made
    rw [← tmd_back (pg := pg) h made]
    exact tmd_congr _ (fun i hi => by rw [tbk_lt hi]; rfl)
  refine ⟨e, fun p hp => ?_, fun _ _ => rfl⟩
  have hp1 : p < tmd (tbk pg v (tmd pg v made)) j (tmd pg v made) := hp
  have hp2 : p < tmd pg j made := by have : tmd (tbk pg v (tmd pg v made)) j (tmd pg v made) = tmd pg j made := e; omega
  have hp3 : p < tmd pg v made := by have := tmd_le (tbk pg v (tmd pg v made)) j (tmd pg v made); omega
  show tbk (tbk pg v (tmd pg v made)) j (tmd (tbk pg v (tmd pg v made)) j (tmd pg v made)) p = tbk pg j (tmd pg j made) p
  rw [tbk_lt hp1, tbk_lt hp2, tbk_lt hp3, gback_back h]
theorem yTr_cl {pg : Nat → Pg} {made lat : Nat} {ro : Nat → Nat} (hi : yInv pg made lat ro) : yAg (yTp pg made lat) (yTm pg made lat) lat ro pg made ro := by
  have e : tmd pg lat made = made := tmd_cl (fun i h => (hi.2.2.1 i h).1.1)
  refine ⟨e, fun p hp => ?_, fun _ _ => rfl⟩
  have hp' : p < tmd pg lat made := hp
  show tbk pg lat (tmd pg lat made) p = pg p
  rw [tbk_lt hp', gback_cl (hi.2.2.1 p (by omega)).1]
/-- an update undone -/
theorem yTr_fin {pg : Nat → Pg} {made lat : Nat} {ro : Nat → Nat} {U : TU} (h : yFin pg made lat ro U) (hi : yInv pg made lat ro) : yAg (yTp U.1 U.2.1 lat) (yTm U.1 U.2.1 lat) lat U.2.2.1 pg made ro := by
  obtain ⟨h1, h2, h3, h4, h5, h6, h7⟩ := id h
  have e : tmd U.1 lat U.2.1 = made := by
    have e1 : U.2.1 = made + (U.2.1 - made) := by omega
    rw [e1, tmd_new hi.1 _ (fun i i1 i2 => by have := (h4 i i1 (by omega)).1; omega)]
    refine tmd_cl (fun i hi' => ?_)
    have hb := (h.ps hi').back (hi.2.2.1 i hi').1
    have e2 : (gback (U.1 i) lat).2.1 = (U.1 i).2.1 := rfl
    rw [← e2, hb]
    exact (hi.2.2.1 i hi').1.1
  refine ⟨e, fun p hp => ?_, h5⟩
  have hp' : p < tmd U.1 lat U.2.1 := hp
  show tbk U.1 lat (tmd U.1 lat U.2.1) p = pg p
  rw [tbk_lt hp', (h.ps (by omega)).back (hi.2.2.1 p (by omega)).1]
/-- one version made out of another -/
def yOn (pg : Nat → Pg) (made j : Nat) (ro : Nat → Nat) (o : Int32 × Int64 × Bool) : Prop := tref pg made j ro = false ∧ (o.2.2 = true ∨ ∃ i, gslot (pg (tdes pg made ro (fun _ => none) j o.1).1) o.1 j = some i)
theorem yOn.ag {pg pg' : Nat → Pg} {made made' j : Nat} {ro ro' : Nat → Nat} {o : Int32 × Int64 × Bool} (h : yOn pg made j ro o) (ha : yAg pg made j ro pg' made' ro') (hm : 1 ≤ made) : yOn pg' made' j ro' o := by
  refine ⟨by rw [← tref_ag hm ha]; exact h.1, ?_⟩
  rcases h.2 with q | ⟨i, q⟩
  · exact Or.inl q
  · right
    obtain ⟨rfl, h2, h3⟩ := id ha
    have hlt : (tdes pg made ro (fun _ => none) j o.1).1 < made := tdesc_lt hm _ _ _ _ _ _ (tpn_lt hm _)
    rw [← tdes_ag hm ha (Nat.le_refl _), ← h2 _ hlt]
    exact ⟨i, q⟩
/-- all that is known of a tree and of how it came about -/
def yAll (pg : Nat → Pg) (made lat : Nat) (ro : Nat → Nat) (op : Nat → Int32 × Int64 × Bool) : Prop :=
  yInv pg made lat ro ∧ (∀ j, j ≤ lat → yInv (yTp pg made j) (yTm pg made j) j ro) ∧
  ∀ j, j < lat → yOn (yTp pg made j) (yTm pg made j) j ro (op j) ∧ yAg (yU (yTp pg made j) (yTm pg made j) j ro (op j)).1 (yU (yTp pg made j) (yTm pg made j) j ro (op j)).2.1 (j + 1) (yU (yTp pg made j) (yTm pg made j) j ro (op j)).2.2.1 (yTp pg made (j + 1)) (yTm pg made (j + 1)) ro
theorem yAll.link {pg pg' : Nat → Pg} {made made' : Nat} {ro ro' : Nat → Nat} {j : Nat} {o : Int32 × Int64 × Bool} {pg1 pg1' : Nat → Pg} {made1 made1' : Nat} {ro1 ro1' : Nat → Nat} (hi : yInv pg made j ro) (ha : yAg pg made j ro pg' made' ro') (hb : yAg pg1 made1 (j + 1) ro1 pg1' made1' ro1')
    (h : yOn pg made j ro o ∧ yAg (yU pg made j ro o).1 (yU pg made j ro o).2.1 (j + 1) (yU pg made j ro o).2.2.1 pg1 made1 ro1) :
    yOn pg' made' j ro' o ∧ yAg (yU pg' made' j ro' o).1 (yU pg' made' j ro' o).2.1 (j + 1) (yU pg' made' j ro' o).2.2.1 pg1' made1' ro1' :=
  ⟨h.1.ag ha hi.1, ((yU_ag ha hi h.1.1 o).symm.trans h.2).trans hb⟩
theorem yAll.ag {pg pg' : Nat → Pg} {made made' lat : Nat} {ro ro' : Nat → Nat} {op : Nat → Int32 × Int64 × Bool} (h : yAll pg made lat ro op) (ha : yAg pg made lat ro pg' made' ro') : yAll pg' made' lat ro' op := by
  obtain ⟨h1, h2, h3⟩ := h
  refine ⟨ha.inv h1, fun j hj => (yTr_ag ha hj).inv (h2 j hj), fun j hj => ?_⟩
  exact yAll.link (h2 j (by omega)) (yTr_ag ha (by omega)) (yTr_ag ha (by omega)) (h3 j hj)
/-- back to an earlier version -/
theorem yAll.back {pg : Nat → Pg} {made lat : Nat} {ro : Nat → Nat} {op : Nat → Int32 × Int64 × Bool} (h : yAll pg made lat ro op) {v : Nat} (hv : v ≤ lat) : yAll (yTp pg made v) (yTm pg made v) v ro op := by
  obtain ⟨h1, h2, h3⟩ := h
  refine ⟨h2 v hv, fun j hj => (yTr_tr hj).symm.inv (h2 j (by omega)), fun j hj => ?_⟩
  exact yAll.link (h2 j (by omega)) (yTr_tr (by omega)).symm (yTr_tr (by omega)).symm (h3 j (by omega))
/-- one version more -/
theorem yAll.next {pg : Nat → Pg} {made lat : Nat} {ro : Nat → Nat} {op : Nat → Int32 × Int64 × Bool} (h : yAll pg made lat ro op) {o : Int32 × Int64 × Bool} (ho : yOn pg made lat ro o) : yAll (yU pg made lat ro o).1 (yU pg made lat ro o).2.1 (lat + 1) (yU pg made lat ro o).2.2.1 (va_up op lat o) := by
  obtain ⟨h1, h2, h3⟩ := h
  have hf := (yupd h1 ho.1 o.1 o.2.1 o.2.2).2.1
  have hinv := hf.inv h1
  have hlast := yTr_fin hf h1
  have hcl := yTr_cl hinv
  -- earlier versions, told by the old tree
  have old : ∀ j, j ≤ lat → yAg (yTp pg made j) (yTm pg made j) j ro (yTp (yU pg made lat ro o).1 (yU pg made lat ro o).2.1 j) (yTm (yU pg made lat ro o).1 (yU pg made lat ro o).2.1 j) (yU pg made lat ro o).2.2.1 := by
    intro j hj
    have a := yTr_tr (pg := (yU pg made lat ro o).1) (made := (yU pg made lat ro o).2.1) (ro := (yU pg made lat ro o).2.2.1) hj
    have b := yTr_ag hlast hj
    exact b.symm.trans a
  refine ⟨hinv, fun j hj => ?_, fun j hj => ?_⟩
  · by_cases q : j = lat + 1
    · subst q; exact hcl.symm.inv hinv
    · exact (old j (by omega)).inv (h2 j (by omega))
  · by_cases q : j = lat
    · subst q
      rw [va_up_self]
      exact yAll.link h1 hlast.symm hcl.symm ⟨ho, yAg.rfl'⟩
    · rw [va_up_ne _ _ q]
      exact yAll.link (h2 j (by omega)) (old j (by omega)) (old (j + 1) (by omega)) (h3 j (by omega))
