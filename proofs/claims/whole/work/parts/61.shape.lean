/-! the tree at one version: levels, intervals, counts -/
abbrev yV : Type := Nat → Nat × Bool × qRw
abbrev yMn : Int := -2147483648
abbrev yMx : Int := 2147483648
def yHd (L : qRw) (m : Int) : Prop := ∀ e t, L = e :: t → e.1.toInt = m
def yRng (L : qRw) (lo hi : Int) : Prop := ∀ e ∈ L, lo ≤ e.1.toInt ∧ e.1.toInt < hi
def ySg (Bp : Nat → Int → Int → Nat → Prop) : qRw → Int → Int → Nat → Prop
  | [], lo, hi, n => lo = hi ∧ n = 0
  | e :: t, lo, hi, n => ∃ c m n1 n2, e.2 = lN c ∧ Bp c lo m n1 ∧ yHd t m ∧ ySg Bp t m hi n2 ∧ n = n1 + n2
def yNB (V : yV) (made : Nat) : Nat → qRw → Int → Int → Nat → Prop
  | 0, L, lo, hi, n => ySS L ∧ yRng L lo hi ∧ n = L.length
  | l + 1, L, lo, hi, n => ySS L ∧ yRng L lo hi ∧ (lo = yMn ∨ yHd L lo) ∧ ySg (fun c a b n => c < made ∧ (V c).1 = l ∧ (V c).2.1 = true ∧ 3 ≤ (V c).2.2.length ∧ yNB V made l (V c).2.2 a b n) L lo hi n
/-- a page below another -/
def yCh (V : yV) (made l : Nat) : Nat → Int → Int → Nat → Prop := fun c a b n => c < made ∧ (V c).1 = l ∧ (V c).2.1 = true ∧ 3 ≤ (V c).2.2.length ∧ yNB V made l (V c).2.2 a b n
theorem yNB_succ {V : yV} {made l : Nat} {L : qRw} {lo hi : Int} {n : Nat} : yNB V made (l + 1) L lo hi n ↔ ySS L ∧ yRng L lo hi ∧ (lo = yMn ∨ yHd L lo) ∧ ySg (yCh V made l) L lo hi n := Iff.rfl
theorem yNB.ss {V : yV} {made l : Nat} {L : qRw} {lo hi : Int} {n : Nat} (h : yNB V made l L lo hi n) : ySS L := by cases l <;> exact h.1
theorem yNB.rng {V : yV} {made l : Nat} {L : qRw} {lo hi : Int} {n : Nat} (h : yNB V made l L lo hi n) : yRng L lo hi := by cases l <;> exact h.2.1
theorem yRng.lt {L : qRw} {lo hi : Int} (h : yRng L lo hi) (h0 : 0 < L.length) : lo < hi := by
  cases L with
  | nil => simp at h0
  | cons e t => have := h e List.mem_cons_self; omega
theorem yCh.lt {V : yV} {made l c : Nat} {a b : Int} {n : Nat} (h : yCh V made l c a b n) : a < b := h.2.2.2.2.rng.lt (by have := h.2.2.2.1; omega)
theorem ySg_le {Bp : Nat → Int → Int → Nat → Prop} (hlt : ∀ {c a b n}, Bp c a b n → a < b) : ∀ {L : qRw} {lo hi : Int} {n : Nat}, ySg Bp L lo hi n → lo ≤ hi
  | [], _, _, _, h => by have := h.1; omega
  | e :: t, lo, hi, n, h => by
    obtain ⟨c, m, n1, n2, -, h2, -, h4, -⟩ := h
    have := hlt h2
    have := ySg_le hlt h4
    omega
theorem ySg_lt {Bp : Nat → Int → Int → Nat → Prop} (hlt : ∀ {c a b n}, Bp c a b n → a < b) {L : qRw} {lo hi : Int} {n : Nat} (h : ySg Bp L lo hi n) (h0 : L ≠ []) : lo < hi := by
  cases L with
  | nil => exact absurd rfl h0
  | cons e t =>
    obtain ⟨c, m, n1, n2, -, h2, -, h4, -⟩ := h
    have := hlt h2
    have := ySg_le hlt h4
    omega
theorem ySg_mono {Bp Bq : Nat → Int → Int → Nat → Prop} (hlt : ∀ {c a b n}, Bp c a b n → a < b) : ∀ {L : qRw} {lo hi : Int} {n : Nat}, (∀ c a b n, lo ≤ a → b ≤ hi → Bp c a b n → Bq c a b n) → ySg Bp L lo hi n → ySg Bq L lo hi n
  | [], _, _, _, _, h => h
  | e :: t, lo, hi, n, hm, h => by
    obtain ⟨c, m, n1, n2, h1, h2, h3, h4, h5⟩ := h
    have q1 := hlt h2
    have q2 := ySg_le hlt h4
    exact ⟨c, m, n1, n2, h1, hm _ _ _ _ (Int.le_refl _) q2 h2, h3, ySg_mono hlt (fun c a b n ha hb => hm c a b n (by omega) hb) h4, h5⟩
theorem ySg_app {Bp : Nat → Int → Int → Nat → Prop} {C : qRw} : ∀ {A : qRw} {lo hi : Int} {n : Nat}, ySg Bp (A ++ C) lo hi n ↔ ∃ m n1 n2, ySg Bp A lo m n1 ∧ (A ≠ [] → yHd C m) ∧ ySg Bp C m hi n2 ∧ n = n1 + n2
  | [], lo, hi, n => by
    constructor
    · intro h; exact ⟨lo, 0, n, ⟨rfl, rfl⟩, fun q => absurd rfl q, h, by omega⟩
    · rintro ⟨m, n1, n2, ⟨rfl, rfl⟩, -, h, rfl⟩; rw [Nat.zero_add]; exact h
  | e :: A, lo, hi, n => by
    constructor
    · rintro ⟨c, m, n1, n2, h1, h2, h3, h4, rfl⟩
      obtain ⟨m', k1, k2, g1, g2, g3, rfl⟩ := ySg_app.mp h4
      refine ⟨m', n1 + k1, k2, ⟨c, m, n1, k1, h1, h2, ?_, g1, rfl⟩, fun _ => ?_, g3, by omega⟩
      · cases A with
        | nil => intro e t q; cases q
        | cons x A => intro e t q; cases q; exact h3 x (A ++ C) rfl
      · cases A with
        | nil => obtain ⟨rfl, -⟩ := g1; exact h3
        | cons x A => exact g2 (List.cons_ne_nil _ _)
    · rintro ⟨m', k, k2, ⟨c, m, n1, k1, h1, h2, h3, g1, rfl⟩, g2, g3, rfl⟩
      refine ⟨c, m, n1, k1 + k2, h1, h2, ?_, ySg_app.mpr ⟨m', k1, k2, g1, fun _ => g2 (List.cons_ne_nil _ _), g3, rfl⟩, by omega⟩
      cases A with
      | nil => obtain ⟨rfl, -⟩ := g1; exact g2 (List.cons_ne_nil _ _)
      | cons x A => intro e t q; cases q; exact h3 x A rfl
theorem yRng_mono {L : qRw} {lo hi lo' hi' : Int} (h : yRng L lo hi) (h1 : lo' ≤ lo) (h2 : hi ≤ hi') : yRng L lo' hi' := fun e he => by have := h e he; omega
/-- pages that have changed lie elsewhere -/
theorem yNB_frame {V V' : yV} {made made' : Nat} (hm : made ≤ made') : ∀ {l : Nat} {L : qRw} {lo hi : Int} {n : Nat}, (∀ c, c < made → V' c = V c ∨ l ≤ (V c).1 ∨ ∃ e ∈ (V c).2.2, ¬ (lo ≤ e.1.toInt ∧ e.1.toInt < hi)) → yNB V made l L lo hi n → yNB V' made' l L lo hi n
  | 0, _, _, _, _, _, h => h
  | l + 1, L, lo, hi, n, hz, h => by
    obtain ⟨h1, h2, h3, h4⟩ := h
    refine ⟨h1, h2, h3, ySg_mono (Bp := yCh V made l) yCh.lt (fun c a b n ha hb hc => ?_) h4⟩
    obtain ⟨c1, c2, c3, c4, c5⟩ := hc
    have e : V' c = V c := by
      rcases hz c c1 with q | q | ⟨e, he, q⟩
      · exact q
      · omega
      · have := c5.rng e he; omega
    rw [e]
    refine ⟨by omega, c2, c3, c4, yNB_frame hm (fun d hd => ?_) c5⟩
    rcases hz d hd with q | q | ⟨e, he, q⟩
    · exact Or.inl q
    · exact Or.inr (Or.inl (by omega))
    · exact Or.inr (Or.inr ⟨e, he, by omega⟩)
theorem yNB_same {V V' : yV} {made made' : Nat} (hm : made ≤ made') (hV : ∀ c, c < made → V' c = V c) {l : Nat} {L : qRw} {lo hi : Int} {n : Nat} (h : yNB V made l L lo hi n) : yNB V' made' l L lo hi n := yNB_frame hm (fun c hc => Or.inl (hV c hc)) h
theorem ySS_app {A C : qRw} : ySS (A ++ C) ↔ ySS A ∧ ySS C ∧ ∀ a ∈ A, ∀ c ∈ C, a.1.toInt < c.1.toInt := List.pairwise_append
/-- a list cut in two -/
theorem yNB_split {V : yV} {made l : Nat} {A C : qRw} {x : Int32 × Int64} {lo hi : Int} {n : Nat} (h : yNB V made l (A ++ x :: C) lo hi n) (hA : A ≠ []) :
    ∃ n1 n2, yNB V made l A lo x.1.toInt n1 ∧ yNB V made l (x :: C) x.1.toInt hi n2 ∧ n = n1 + n2 := by
  have s := ySS_app.mp h.ss
  have r := h.rng
  have rA : yRng A lo x.1.toInt := fun e he => ⟨(r e (List.mem_append_left _ he)).1, s.2.2 e he x List.mem_cons_self⟩
  have rC : yRng (x :: C) x.1.toInt hi := fun e he => by
    refine ⟨?_, (r e (List.mem_append_right _ he)).2⟩
    rcases List.mem_cons.mp he with rfl | he
    · omega
    · have := (List.pairwise_cons.mp s.2.1).1 e he
      exact Int.le_of_lt this
  cases l with
  | zero => exact ⟨A.length, (x :: C).length, ⟨s.1, rA, rfl⟩, ⟨s.2.1, rC, rfl⟩, by rw [h.2.2, List.length_append]⟩
  | succ l =>
    obtain ⟨-, -, h3, h4⟩ := h
    obtain ⟨m, n1, n2, g1, g2, g3, g4⟩ := ySg_app.mp h4
    have hm := g2 hA x C rfl
    subst hm
    refine ⟨n1, n2, ⟨s.1, rA, ?_, g1⟩, ⟨s.2.1, rC, Or.inr (fun e t q => by cases q; rfl), g3⟩, g4⟩
    rcases h3 with q | q
    · exact Or.inl q
    · refine Or.inr (fun e t w => q e (t ++ x :: C) (by rw [w]; rfl))
/-- two lists put together -/
theorem yNB_merge {V : yV} {made l : Nat} {A C : qRw} {lo m hi : Int} {n1 n2 : Nat} (hA : yNB V made l A lo m n1) (hC : yNB V made l C m hi n2) (h0 : A ≠ []) (hlo : yMn ≤ lo) (hmh : m ≤ hi) (hlm : lo ≤ m) : yNB V made l (A ++ C) lo hi (n1 + n2) := by
  have s : ySS (A ++ C) := ySS_app.mpr ⟨hA.ss, hC.ss, fun a ha c hc => by have := hA.rng a ha; have := hC.rng c hc; omega⟩
  have r : yRng (A ++ C) lo hi := fun e he => by
    rcases List.mem_append.mp he with he | he
    · have := hA.rng e he; omega
    · have := hC.rng e he; omega
  cases l with
  | zero => exact ⟨s, r, by rw [hA.2.2, hC.2.2, List.length_append]⟩
  | succ l =>
    obtain ⟨-, a2, a3, a4⟩ := hA
    obtain ⟨-, c2, c3, c4⟩ := hC
    refine ⟨s, r, ?_, ySg_app.mpr ⟨m, n1, n2, a4, fun _ => ?_, c4, rfl⟩⟩
    · rcases a3 with q | q
      · exact Or.inl q
      · refine Or.inr (fun e t w => ?_)
        cases A with
        | nil => exact absurd rfl h0
        | cons y A => cases w; exact q e A rfl
    · rcases c3 with q | q
      · exfalso
        cases A with
        | nil => exact h0 rfl
        | cons x A => have := a2 x List.mem_cons_self; omega
      · exact q
/-- where a part of a list begins and ends -/
def yLo (A : qRw) (x : Int32 × Int64) (lo : Int) : Int := match A with
  | [] => lo
  | _ :: _ => x.1.toInt
def yHi (C : qRw) (hi : Int) : Int := match C with
  | [] => hi
  | y :: _ => y.1.toInt
theorem yNB_parts {V : yV} {made l : Nat} {A R C : qRw} {x : Int32 × Int64} {lo hi : Int} {n : Nat} (h : yNB V made l (A ++ (x :: R) ++ C) lo hi n) :
    ∃ nA nR nC, (A ≠ [] → yNB V made l A lo (yLo A x lo) nA) ∧ (A = [] → nA = 0) ∧ yNB V made l (x :: R) (yLo A x lo) (yHi C hi) nR ∧ (C ≠ [] → yNB V made l C (yHi C hi) hi nC) ∧ (C = [] → nC = 0) ∧ n = nA + nR + nC ∧ lo ≤ yLo A x lo ∧ yLo A x lo < yHi C hi ∧ yHi C hi ≤ hi := by
  have bR : ∀ {lo hi : Int} {n : Nat}, yNB V made l (x :: R) lo hi n → lo < hi := fun h => h.rng.lt (by simp)
  have front : ∀ {hi : Int} {n : Nat}, yNB V made l (A ++ (x :: R)) lo hi n → ∃ nA nR, (A ≠ [] → yNB V made l A lo (yLo A x lo) nA) ∧ (A = [] → nA = 0) ∧ yNB V made l (x :: R) (yLo A x lo) hi nR ∧ n = nA + nR ∧ lo ≤ yLo A x lo := by
    intro hi n h
    cases A with
    | nil => exact ⟨0, n, fun q => absurd rfl q, fun _ => rfl, h, by omega, Int.le_refl _⟩
    | cons y A =>
      obtain ⟨n1, n2, g1, g2, g3⟩ := yNB_split h (List.cons_ne_nil _ _)
      refine ⟨n1, n2, fun _ => g1, fun q => (nomatch q), g2, g3, ?_⟩
      have := g1.rng.lt (by simp)
      exact Int.le_of_lt this
  cases C with
  | nil =>
    rw [List.append_nil] at h
    obtain ⟨nA, nR, g1, g2, g3, g4, g5⟩ := front h
    exact ⟨nA, nR, 0, g1, g2, g3, fun q => absurd rfl q, fun _ => rfl, by omega, g5, bR g3, Int.le_refl _⟩
  | cons y C =>
    obtain ⟨n1, n2, g1, g2, g3⟩ := yNB_split h (by simp)
    obtain ⟨nA, nR, k1, k2, k3, k4, k5⟩ := front g1
    refine ⟨nA, nR, n2, k1, k2, k3, fun _ => g2, fun q => (nomatch q), by omega, k5, bR k3, ?_⟩
    have := g2.rng.lt (by simp)
    exact Int.le_of_lt this
theorem yNB_join {V : yV} {made l : Nat} {A R C : qRw} {lo a b hi : Int} {nA nR nC : Nat} (hA : A ≠ [] → yNB V made l A lo a nA) (hA0 : A = [] → nA = 0 ∧ a = lo) (hR : yNB V made l R a b nR) (hR0 : R ≠ []) (hC : C ≠ [] → yNB V made l C b hi nC) (hC0 : C = [] → nC = 0 ∧ b = hi)
    (hlo : yMn ≤ lo) (h1 : lo ≤ a) (h2 : a ≤ b) (h3 : b ≤ hi) : yNB V made l (A ++ R ++ C) lo hi (nA + nR + nC) := by
  have e1 : yNB V made l (A ++ R) lo b (nA + nR) := by
    by_cases q : A = []
    · obtain ⟨rfl, rfl⟩ := hA0 q
      rw [q, List.nil_append, Nat.zero_add]; exact hR
    · exact yNB_merge (hA q) hR q hlo h2 h1
  by_cases q : C = []
  · obtain ⟨rfl, rfl⟩ := hC0 q
    rw [q, List.append_nil]; exact e1
  · exact yNB_merge e1 (hC q) (by simp [hR0]) hlo h3 (by omega)
/-- a tree as high as this has so many keys -/
theorem yNB_many {V : yV} {made : Nat} : ∀ {l : Nat} {L : qRw} {lo hi : Int} {n : Nat}, yNB V made l L lo hi n → L.length * 3 ^ l ≤ n
  | 0, L, lo, hi, n, h => by rw [h.2.2, Nat.pow_zero, Nat.mul_one]; exact Nat.le_refl _
  | l + 1, L, lo, hi, n, h => by
    have h4 := (yNB_succ.mp h).2.2.2
    clear h
    revert lo n
    induction L with
    | nil => intro lo n _; simp
    | cons e t ih =>
      intro lo n h4
      obtain ⟨c, m, n1, n2, -, k2, -, k4, rfl⟩ := h4
      have i1 := ih _ _ k4
      have i2 := yNB_many k2.2.2.2.2
      have i3 : 3 * 3 ^ l ≤ (V c).2.2.length * 3 ^ l := Nat.mul_le_mul_right _ k2.2.2.2.1
      have e3 : 3 ^ (l + 1) = 3 * 3 ^ l := by rw [Nat.pow_succ, Nat.mul_comm]
      rw [List.length_cons, Nat.succ_mul]
      omega
