/-! the classes of the system, their fields (declarer, name, descriptor, final), types and first values -/
def kK_D : String := "PastTree$Disk"
def kF_D : u_T := fun k => match k with
  | 0 => ("PastTree$Disk", "records", "[I", true)
  | 1 => ("PastTree$Disk", "spoiled", "[Z", true)
  | 2 => ("PastTree$Disk", "blocks", "I", false)
  | 3 => ("PastTree$Disk", "written", "I", false)
  | 4 => ("PastTree$Disk", "kept", "I", false)
  | 5 => ("PastTree$Disk", "blocksToCut", "I", false)
  | _ => ("PastTree$Disk", "isDown", "Z", false)
def kt_D : Nat → FieldType := fun k => match k with
  | 0 => .array .int
  | 1 => .array .boolean
  | 2 => .int
  | 3 => .int
  | 4 => .int
  | 5 => .int
  | _ => .boolean
theorem kn_D : ∀ a, a < 7 → ∀ b, b < 7 → a ≠ b → (kF_D a).2.1 ≠ (kF_D b).2.1 := by decide +kernel
theorem kp_D : ∀ k, k < 7 → parseFieldDescriptor (kF_D k).2.2.1 = some (kt_D k) := by decide +kernel
theorem ki_D : ∀ w ∈ u_ws kK_D kF_D 7, w ∈ lw_tbl := by decide +kernel
def kz_D : List Value := [.null, .null, .int 0, .int 0, .int 0, .int 0, .int 0]
def kK_G : String := "PastTree$Page"
def kF_G : u_T := fun k => match k with
  | 0 => ("PastTree$Page", "number", "I", true)
  | 1 => ("PastTree$Page", "keys", "[I", true)
  | 2 => ("PastTree$Page", "froms", "[I", true)
  | 3 => ("PastTree$Page", "tos", "[I", true)
  | 4 => ("PastTree$Page", "whats", "[J", true)
  | 5 => ("PastTree$Page", "level", "I", false)
  | 6 => ("PastTree$Page", "born", "I", false)
  | 7 => ("PastTree$Page", "died", "I", false)
  | _ => ("PastTree$Page", "size", "I", false)
def kt_G : Nat → FieldType := fun k => match k with
  | 0 => .int
  | 1 => .array .int
  | 2 => .array .int
  | 3 => .array .int
  | 4 => .array .long
  | 5 => .int
  | 6 => .int
  | 7 => .int
  | _ => .int
theorem kn_G : ∀ a, a < 9 → ∀ b, b < 9 → a ≠ b → (kF_G a).2.1 ≠ (kF_G b).2.1 := by decide +kernel
theorem kp_G : ∀ k, k < 9 → parseFieldDescriptor (kF_G k).2.2.1 = some (kt_G k) := by decide +kernel
theorem ki_G : ∀ w ∈ u_ws kK_G kF_G 9, w ∈ lw_tbl := by decide +kernel
def kz_G : List Value := [.int 0, .null, .null, .null, .null, .int 0, .int 0, .int 0, .int 0]
def kK_R : String := "PastTree$Row"
def kF_R : u_T := fun k => match k with
  | 0 => ("PastTree$Row", "keys", "[I", true)
  | 1 => ("PastTree$Row", "whats", "[J", true)
  | _ => ("PastTree$Row", "size", "I", false)
def kt_R : Nat → FieldType := fun k => match k with
  | 0 => .array .int
  | 1 => .array .long
  | _ => .int
theorem kn_R : ∀ a, a < 3 → ∀ b, b < 3 → a ≠ b → (kF_R a).2.1 ≠ (kF_R b).2.1 := by decide +kernel
theorem kp_R : ∀ k, k < 3 → parseFieldDescriptor (kF_R k).2.2.1 = some (kt_R k) := by decide +kernel
theorem ki_R : ∀ w ∈ u_ws kK_R kF_R 3, w ∈ lw_tbl := by decide +kernel
def kz_R : List Value := [.null, .null, .int 0]
def kK_T : String := "PastTree$Tree"
def kF_T : u_T := fun k => match k with
  | 0 => ("PastTree$Tree", "first", "LPastTree$Page;", true)
  | 1 => ("PastTree$Tree", "book", "[LPastTree$Page;", true)
  | 2 => ("PastTree$Tree", "roots", "[I", true)
  | 3 => ("PastTree$Tree", "made", "I", false)
  | 4 => ("PastTree$Tree", "latest", "I", false)
  | 5 => ("PastTree$Tree", "path", "[LPastTree$Page;", true)
  | 6 => ("PastTree$Tree", "fence", "J", false)
  | 7 => ("PastTree$Tree", "goesOne", "I", false)
  | 8 => ("PastTree$Tree", "goesTwo", "I", false)
  | 9 => ("PastTree$Tree", "coming", "LPastTree$Row;", true)
  | 10 => ("PastTree$Tree", "list", "LPastTree$Row;", true)
  | _ => ("PastTree$Tree", "denseBelow", "I", false)
def kt_T : Nat → FieldType := fun k => match k with
  | 0 => .object "PastTree$Page"
  | 1 => .array (.object "PastTree$Page")
  | 2 => .array .int
  | 3 => .int
  | 4 => .int
  | 5 => .array (.object "PastTree$Page")
  | 6 => .long
  | 7 => .int
  | 8 => .int
  | 9 => .object "PastTree$Row"
  | 10 => .object "PastTree$Row"
  | _ => .int
theorem kn_T : ∀ a, a < 12 → ∀ b, b < 12 → a ≠ b → (kF_T a).2.1 ≠ (kF_T b).2.1 := by decide +kernel
theorem kp_T : ∀ k, k < 12 → parseFieldDescriptor (kF_T k).2.2.1 = some (kt_T k) := by decide +kernel
theorem ki_T : ∀ w ∈ u_ws kK_T kF_T 12, w ∈ lw_tbl := by decide +kernel
def kz_T : List Value := [.null, .null, .null, .int 0, .int 0, .null, .long 0, .int 0, .int 0, .null, .null, .int 0]
def kK_P : String := "PastTree"
def kF_P : u_T := fun k => match k with
  | 0 => ("PastTree", "tree", "LPastTree$Tree;", true)
  | 1 => ("PastTree", "device", "LPastTree$Disk;", true)
  | 2 => ("PastTree", "found", "LPastTree$Row;", true)
  | _ => ("PastTree", "others", "LPastTree$Row;", true)
def kt_P : Nat → FieldType := fun k => match k with
  | 0 => .object "PastTree$Tree"
  | 1 => .object "PastTree$Disk"
  | 2 => .object "PastTree$Row"
  | _ => .object "PastTree$Row"
theorem kn_P : ∀ a, a < 4 → ∀ b, b < 4 → a ≠ b → (kF_P a).2.1 ≠ (kF_P b).2.1 := by decide +kernel
theorem kp_P : ∀ k, k < 4 → parseFieldDescriptor (kF_P k).2.2.1 = some (kt_P k) := by decide +kernel
theorem ki_P : ∀ w ∈ u_ws kK_P kF_P 4, w ∈ lw_tbl := by decide +kernel
def kz_P : List Value := [.null, .null, .null, .null]
def kK_M : String := "PastTreeModel"
def kF_M : u_T := fun k => match k with
  | 0 => ("PastTreeModel", "code", "I", false)
  | 1 => ("PastTreeModel", "level", "[I", true)
  | 2 => ("PastTreeModel", "born", "[I", true)
  | 3 => ("PastTreeModel", "died", "[I", true)
  | 4 => ("PastTreeModel", "sizes", "[I", true)
  | 5 => ("PastTreeModel", "dirty", "[Z", true)
  | 6 => ("PastTreeModel", "key", "[I", true)
  | 7 => ("PastTreeModel", "from", "[I", true)
  | 8 => ("PastTreeModel", "to", "[I", true)
  | 9 => ("PastTreeModel", "what", "[J", true)
  | 10 => ("PastTreeModel", "made", "I", false)
  | 11 => ("PastTreeModel", "keptMade", "I", false)
  | 12 => ("PastTreeModel", "latest", "I", false)
  | 13 => ("PastTreeModel", "kept", "I", false)
  | 14 => ("PastTreeModel", "roots", "[I", true)
  | 15 => ("PastTreeModel", "logSize", "[I", true)
  | 16 => ("PastTreeModel", "spoiled", "[Z", true)
  | 17 => ("PastTreeModel", "logPuts", "[Z", true)
  | 18 => ("PastTreeModel", "logKey", "[I", true)
  | 19 => ("PastTreeModel", "logValue", "[J", true)
  | 20 => ("PastTreeModel", "blocks", "I", false)
  | 21 => ("PastTreeModel", "waiting", "I", false)
  | 22 => ("PastTreeModel", "waitPuts", "[Z", true)
  | 23 => ("PastTreeModel", "waitKey", "[I", true)
  | 24 => ("PastTreeModel", "waitValue", "[J", true)
  | 25 => ("PastTreeModel", "down", "Z", false)
  | 26 => ("PastTreeModel", "cut", "I", false)
  | 27 => ("PastTreeModel", "written", "I", false)
  | 28 => ("PastTreeModel", "goOne", "I", false)
  | 29 => ("PastTreeModel", "goTwo", "I", false)
  | 30 => ("PastTreeModel", "comes", "I", false)
  | 31 => ("PastTreeModel", "comeKey", "[I", true)
  | 32 => ("PastTreeModel", "comeWhat", "[J", true)
  | 33 => ("PastTreeModel", "listed", "I", false)
  | 34 => ("PastTreeModel", "listKey", "[I", true)
  | 35 => ("PastTreeModel", "listWhat", "[J", true)
  | 36 => ("PastTreeModel", "path", "[I", true)
  | 37 => ("PastTreeModel", "oneKey", "[I", true)
  | 38 => ("PastTreeModel", "oneValue", "[J", true)
  | 39 => ("PastTreeModel", "one", "I", false)
  | 40 => ("PastTreeModel", "twoKey", "[I", true)
  | 41 => ("PastTreeModel", "twoValue", "[J", true)
  | 42 => ("PastTreeModel", "walk", "[I", true)
  | _ => ("PastTreeModel", "walked", "[I", true)
def kt_M : Nat → FieldType := fun k => match k with
  | 0 => .int
  | 1 => .array .int
  | 2 => .array .int
  | 3 => .array .int
  | 4 => .array .int
  | 5 => .array .boolean
  | 6 => .array .int
  | 7 => .array .int
  | 8 => .array .int
  | 9 => .array .long
  | 10 => .int
  | 11 => .int
  | 12 => .int
  | 13 => .int
  | 14 => .array .int
  | 15 => .array .int
  | 16 => .array .boolean
  | 17 => .array .boolean
  | 18 => .array .int
  | 19 => .array .long
  | 20 => .int
  | 21 => .int
  | 22 => .array .boolean
  | 23 => .array .int
  | 24 => .array .long
  | 25 => .boolean
  | 26 => .int
  | 27 => .int
  | 28 => .int
  | 29 => .int
  | 30 => .int
  | 31 => .array .int
  | 32 => .array .long
  | 33 => .int
  | 34 => .array .int
  | 35 => .array .long
  | 36 => .array .int
  | 37 => .array .int
  | 38 => .array .long
  | 39 => .int
  | 40 => .array .int
  | 41 => .array .long
  | 42 => .array .int
  | _ => .array .int
theorem kn_M : ∀ a, a < 44 → ∀ b, b < 44 → a ≠ b → (kF_M a).2.1 ≠ (kF_M b).2.1 := by decide +kernel
theorem kp_M : ∀ k, k < 44 → parseFieldDescriptor (kF_M k).2.2.1 = some (kt_M k) := by decide +kernel
theorem ki_M : ∀ w ∈ u_ws kK_M kF_M 44, w ∈ lw_tbl := by decide +kernel
def kz_M : List Value := [.int 0, .null, .null, .null, .null, .null, .null, .null, .null, .null, .int 0, .int 0, .int 0, .int 0, .null, .null, .null, .null, .null, .null, .int 0, .int 0, .null, .null, .null, .int 0, .int 0, .int 0, .int 0, .int 0, .int 0, .null, .null, .int 0, .null, .null, .null, .null, .null, .int 0, .null, .null, .null, .null]
/-- the classes whose objects the store holds -/
def qcl : List vw_C := [(kK_D, kF_D, 7), (kK_G, kF_G, 9), (kK_R, kF_R, 3), (kK_T, kF_T, 12), (kK_P, kF_P, 4), (kK_M, kF_M, 44)]
def qtt : Nat → Nat → FieldType := fun c => match c with
  | 0 => kt_D
  | 1 => kt_G
  | 2 => kt_R
  | 3 => kt_T
  | 4 => kt_P
  | _ => kt_M
def qz : Nat → List Value := fun c => match c with
  | 0 => kz_D
  | 1 => kz_G
  | 2 => kz_R
  | 3 => kz_T
  | 4 => kz_P
  | _ => kz_M
theorem qcl_nm {c : Nat} {r : vw_C} (h : qcl[c]? = some r) : (∀ a, a < r.2.2 → ∀ b, b < r.2.2 → a ≠ b → (r.2.1 a).2.1 ≠ (r.2.1 b).2.1) ∧ (∀ k, k < r.2.2 → parseFieldDescriptor (r.2.1 k).2.2.1 = some (qtt c k)) ∧ (∀ w ∈ u_ws r.1 r.2.1 r.2.2, w ∈ lw_tbl) := by
  match c, h with
  | 0, h => cases h; exact ⟨kn_D, kp_D, ki_D⟩
  | 1, h => cases h; exact ⟨kn_G, kp_G, ki_G⟩
  | 2, h => cases h; exact ⟨kn_R, kp_R, ki_R⟩
  | 3, h => cases h; exact ⟨kn_T, kp_T, ki_T⟩
  | 4, h => cases h; exact ⟨kn_P, kp_P, ki_P⟩
  | 5, h => cases h; exact ⟨kn_M, kp_M, ki_M⟩
  | c + 6, h => simp [qcl] at h
theorem qz_ok : ∀ c, c < 6 → ∀ r, qcl[c]? = some r → ∀ j, j < r.2.2 → defaultValue (qtt c j) = vp_V (qz c) j := by
  intro c hc r h
  match c, h with
  | 0, h => cases h; decide +kernel
  | 1, h => cases h; decide +kernel
  | 2, h => cases h; decide +kernel
  | 3, h => cases h; decide +kernel
  | 4, h => cases h; decide +kernel
  | 5, h => cases h; decide +kernel
  | c + 6, h => omega
