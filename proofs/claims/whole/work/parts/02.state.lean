/-! mj: A THIN LOGIC OVER THE KIT'S W: abstract states (ids for addresses), one row an instruction. Part 02: the classes' tables. -/
def mj_tb : List Cond := lw_tbl.filter goodWord
theorem mj_tb_good {w : Cond} (h : w ∈ mj_tb) : w ∈ lw_tbl ∧ goodWord w = true := List.mem_filter.mp h
def mj_R0 : String := "IsomerList"
def mj_T0 : u_T := fun k => match k with
  | 0 => ("IsomerList", "line", "LIsomerList$Line;", true)
  | 1 => ("IsomerList", "formulaReader", "LIsomerList$FormulaReader;", true)
  | 2 => ("IsomerList", "textReader", "LIsomerList$TextReader;", true)
  | 3 => ("IsomerList", "textWriter", "LIsomerList$TextWriter;", true)
  | 4 => ("IsomerList", "numbering", "LIsomerList$Numbering;", true)
  | 5 => ("IsomerList", "lister", "LIsomerList$Lister;", true)
  | 6 => ("IsomerList", "shown", "LIsomerList$Molecule;", true)
  | 7 => ("IsomerList", "current", "LIsomerList$Catalogue;", true)
  | _ => ("IsomerList", "faultPlace", "I", false)
def mj_t0 : Nat → FieldType := fun k => match k with
  | 0 => .object "IsomerList$Line"
  | 1 => .object "IsomerList$FormulaReader"
  | 2 => .object "IsomerList$TextReader"
  | 3 => .object "IsomerList$TextWriter"
  | 4 => .object "IsomerList$Numbering"
  | 5 => .object "IsomerList$Lister"
  | 6 => .object "IsomerList$Molecule"
  | 7 => .object "IsomerList$Catalogue"
  | _ => .int
theorem mj_in0 : ∀ w ∈ u_ws mj_R0 mj_T0 9, w ∈ mj_tb := by decide +kernel
theorem mj_nm0 : ∀ a, a < 9 → ∀ b, b < 9 → a ≠ b → (mj_T0 a).2.1 ≠ (mj_T0 b).2.1 := by decide +kernel
theorem mj_ty0 : ∀ k, k < 9 → parseFieldDescriptor (mj_T0 k).2.2.1 = some (mj_t0 k) := by decide +kernel
def mj_R1 : String := "IsomerList$Line"
def mj_T1 : u_T := fun k => match k with
  | 0 => ("IsomerList$Line", "characters", "[C", true)
  | _ => ("IsomerList$Line", "length", "I", false)
def mj_t1 : Nat → FieldType := fun k => match k with
  | 0 => .array .char
  | _ => .int
theorem mj_in1 : ∀ w ∈ u_ws mj_R1 mj_T1 2, w ∈ mj_tb := by decide +kernel
theorem mj_nm1 : ∀ a, a < 2 → ∀ b, b < 2 → a ≠ b → (mj_T1 a).2.1 ≠ (mj_T1 b).2.1 := by decide +kernel
theorem mj_ty1 : ∀ k, k < 2 → parseFieldDescriptor (mj_T1 k).2.2.1 = some (mj_t1 k) := by decide +kernel
def mj_R2 : String := "IsomerList$FormulaReader"
def mj_T2 : u_T := fun k => match k with
  | 0 => ("IsomerList$FormulaReader", "counts", "[I", true)
  | _ => ("IsomerList$FormulaReader", "at", "I", false)
def mj_t2 : Nat → FieldType := fun k => match k with
  | 0 => .array .int
  | _ => .int
theorem mj_in2 : ∀ w ∈ u_ws mj_R2 mj_T2 2, w ∈ mj_tb := by decide +kernel
theorem mj_nm2 : ∀ a, a < 2 → ∀ b, b < 2 → a ≠ b → (mj_T2 a).2.1 ≠ (mj_T2 b).2.1 := by decide +kernel
theorem mj_ty2 : ∀ k, k < 2 → parseFieldDescriptor (mj_T2 k).2.2.1 = some (mj_t2 k) := by decide +kernel
def mj_R3 : String := "IsomerList$TextReader"
def mj_T3 : u_T := fun k => match k with
  | 0 => ("IsomerList$TextReader", "molecule", "LIsomerList$Molecule;", true)
  | 1 => ("IsomerList$TextReader", "ringAtoms", "[I", true)
  | 2 => ("IsomerList$TextReader", "ringBonds", "[I", true)
  | 3 => ("IsomerList$TextReader", "branchAtoms", "[I", true)
  | 4 => ("IsomerList$TextReader", "branches", "I", false)
  | 5 => ("IsomerList$TextReader", "last", "I", false)
  | 6 => ("IsomerList$TextReader", "ringsMayFollow", "Z", false)
  | _ => ("IsomerList$TextReader", "at", "I", false)
def mj_t3 : Nat → FieldType := fun k => match k with
  | 0 => .object "IsomerList$Molecule"
  | 1 => .array .int
  | 2 => .array .int
  | 3 => .array .int
  | 4 => .int
  | 5 => .int
  | 6 => .boolean
  | _ => .int
theorem mj_in3 : ∀ w ∈ u_ws mj_R3 mj_T3 8, w ∈ mj_tb := by decide +kernel
theorem mj_nm3 : ∀ a, a < 8 → ∀ b, b < 8 → a ≠ b → (mj_T3 a).2.1 ≠ (mj_T3 b).2.1 := by decide +kernel
theorem mj_ty3 : ∀ k, k < 8 → parseFieldDescriptor (mj_T3 k).2.2.1 = some (mj_t3 k) := by decide +kernel
def mj_R4 : String := "IsomerList$Molecule"
def mj_T4 : u_T := fun k => match k with
  | 0 => ("IsomerList$Molecule", "kinds", "[I", true)
  | 1 => ("IsomerList$Molecule", "free", "[I", true)
  | 2 => ("IsomerList$Molecule", "bonds", "[I", true)
  | _ => ("IsomerList$Molecule", "atoms", "I", false)
def mj_t4 : Nat → FieldType := fun k => match k with
  | 0 => .array .int
  | 1 => .array .int
  | 2 => .array .int
  | _ => .int
theorem mj_in4 : ∀ w ∈ u_ws mj_R4 mj_T4 4, w ∈ mj_tb := by decide +kernel
theorem mj_nm4 : ∀ a, a < 4 → ∀ b, b < 4 → a ≠ b → (mj_T4 a).2.1 ≠ (mj_T4 b).2.1 := by decide +kernel
theorem mj_ty4 : ∀ k, k < 4 → parseFieldDescriptor (mj_T4 k).2.2.1 = some (mj_t4 k) := by decide +kernel
def mj_R5 : String := "IsomerList$TextWriter"
def mj_T5 : u_T := fun k => match k with
  | 0 => ("IsomerList$TextWriter", "cameFrom", "[I", true)
  | 1 => ("IsomerList$TextWriter", "ringStarts", "[I", true)
  | 2 => ("IsomerList$TextWriter", "ringEnds", "[I", true)
  | _ => ("IsomerList$TextWriter", "rings", "I", false)
def mj_t5 : Nat → FieldType := fun k => match k with
  | 0 => .array .int
  | 1 => .array .int
  | 2 => .array .int
  | _ => .int
theorem mj_in5 : ∀ w ∈ u_ws mj_R5 mj_T5 4, w ∈ mj_tb := by decide +kernel
theorem mj_nm5 : ∀ a, a < 4 → ∀ b, b < 4 → a ≠ b → (mj_T5 a).2.1 ≠ (mj_T5 b).2.1 := by decide +kernel
theorem mj_ty5 : ∀ k, k < 4 → parseFieldDescriptor (mj_T5 k).2.2.1 = some (mj_t5 k) := by decide +kernel
def mj_R6 : String := "IsomerList$Numbering"
def mj_T6 : u_T := fun k => match k with
  | 0 => ("IsomerList$Numbering", "chosen", "[I", true)
  | 1 => ("IsomerList$Numbering", "taken", "[Z", true)
  | 2 => ("IsomerList$Numbering", "atoms", "I", false)
  | 3 => ("IsomerList$Numbering", "greatest", "I", false)
  | _ => ("IsomerList$Numbering", "sharers", "I", false)
def mj_t6 : Nat → FieldType := fun k => match k with
  | 0 => .array .int
  | 1 => .array .boolean
  | 2 => .int
  | 3 => .int
  | _ => .int
theorem mj_in6 : ∀ w ∈ u_ws mj_R6 mj_T6 5, w ∈ mj_tb := by decide +kernel
theorem mj_nm6 : ∀ a, a < 5 → ∀ b, b < 5 → a ≠ b → (mj_T6 a).2.1 ≠ (mj_T6 b).2.1 := by decide +kernel
theorem mj_ty6 : ∀ k, k < 5 → parseFieldDescriptor (mj_T6 k).2.2.1 = some (mj_t6 k) := by decide +kernel
def mj_R7 : String := "IsomerList$Lister"
def mj_T7 : u_T := fun k => match k with
  | 0 => ("IsomerList$Lister", "draft", "LIsomerList$Catalogue;", true)
  | 1 => ("IsomerList$Lister", "numbering", "LIsomerList$Numbering;", true)
  | 2 => ("IsomerList$Lister", "molecule", "LIsomerList$Molecule;", true)
  | 3 => ("IsomerList$Lister", "valencesFrom", "[I", true)
  | _ => ("IsomerList$Lister", "groups", "[I", true)
def mj_t7 : Nat → FieldType := fun k => match k with
  | 0 => .object "IsomerList$Catalogue"
  | 1 => .object "IsomerList$Numbering"
  | 2 => .object "IsomerList$Molecule"
  | 3 => .array .int
  | _ => .array .int
theorem mj_in7 : ∀ w ∈ u_ws mj_R7 mj_T7 5, w ∈ mj_tb := by decide +kernel
theorem mj_nm7 : ∀ a, a < 5 → ∀ b, b < 5 → a ≠ b → (mj_T7 a).2.1 ≠ (mj_T7 b).2.1 := by decide +kernel
theorem mj_ty7 : ∀ k, k < 5 → parseFieldDescriptor (mj_T7 k).2.2.1 = some (mj_t7 k) := by decide +kernel
def mj_R8 : String := "IsomerList$Catalogue"
def mj_T8 : u_T := fun k => match k with
  | 0 => ("IsomerList$Catalogue", "kinds", "[I", true)
  | 1 => ("IsomerList$Catalogue", "codes", "[I", true)
  | 2 => ("IsomerList$Catalogue", "atoms", "I", false)
  | 3 => ("IsomerList$Catalogue", "hydrogenSum", "I", false)
  | _ => ("IsomerList$Catalogue", "size", "I", false)
def mj_t8 : Nat → FieldType := fun k => match k with
  | 0 => .array .int
  | 1 => .array .int
  | 2 => .int
  | 3 => .int
  | _ => .int
theorem mj_in8 : ∀ w ∈ u_ws mj_R8 mj_T8 5, w ∈ mj_tb := by decide +kernel
theorem mj_nm8 : ∀ a, a < 5 → ∀ b, b < 5 → a ≠ b → (mj_T8 a).2.1 ≠ (mj_T8 b).2.1 := by decide +kernel
theorem mj_ty8 : ∀ k, k < 5 → parseFieldDescriptor (mj_T8 k).2.2.1 = some (mj_t8 k) := by decide +kernel
def mj_R9 : String := "IsomerListModel"
def mj_T9 : u_T := fun k => match k with
  | 0 => ("IsomerListModel", "refusal", "I", false)
  | 1 => ("IsomerListModel", "size", "I", false)
  | 2 => ("IsomerListModel", "line", "[C", true)
  | 3 => ("IsomerListModel", "wrong", "I", false)
  | 4 => ("IsomerListModel", "atoms", "I", false)
  | 5 => ("IsomerListModel", "hydrogenSum", "I", false)
  | 6 => ("IsomerListModel", "elements", "[I", true)
  | 7 => ("IsomerListModel", "structures", "I", false)
  | 8 => ("IsomerListModel", "list", "[I", true)
  | 9 => ("IsomerListModel", "tried", "I", false)
  | 10 => ("IsomerListModel", "kind", "[I", true)
  | 11 => ("IsomerListModel", "code", "[I", true)
  | 12 => ("IsomerListModel", "free", "[I", true)
  | 13 => ("IsomerListModel", "rest", "I", false)
  | 14 => ("IsomerListModel", "next", "[I", true)
  | 15 => ("IsomerListModel", "found", "I", false)
  | 16 => ("IsomerListModel", "fresh", "[I", true)
  | 17 => ("IsomerListModel", "numbered", "[I", true)
  | 18 => ("IsomerListModel", "isTaken", "[Z", true)
  | 19 => ("IsomerListModel", "signs", "I", false)
  | 20 => ("IsomerListModel", "signOf", "[I", true)
  | 21 => ("IsomerListModel", "bonds", "[I", true)
  | 22 => ("IsomerListModel", "best", "[I", true)
  | 23 => ("IsomerListModel", "many", "[I", true)
  | 24 => ("IsomerListModel", "pile", "[I", true)
  | 25 => ("IsomerListModel", "ringAtom", "[I", true)
  | 26 => ("IsomerListModel", "ringBond", "[I", true)
  | 27 => ("IsomerListModel", "before", "[I", true)
  | 28 => ("IsomerListModel", "rings", "[I", true)
  | 29 => ("IsomerListModel", "done", "[I", true)
  | 30 => ("IsomerListModel", "isOpen", "[Z", true)
  | 31 => ("IsomerListModel", "isReached", "[Z", true)
  | _ => ("IsomerListModel", "last", "[I", true)
def mj_t9 : Nat → FieldType := fun k => match k with
  | 0 => .int
  | 1 => .int
  | 2 => .array .char
  | 3 => .int
  | 4 => .int
  | 5 => .int
  | 6 => .array .int
  | 7 => .int
  | 8 => .array .int
  | 9 => .int
  | 10 => .array .int
  | 11 => .array .int
  | 12 => .array .int
  | 13 => .int
  | 14 => .array .int
  | 15 => .int
  | 16 => .array .int
  | 17 => .array .int
  | 18 => .array .boolean
  | 19 => .int
  | 20 => .array .int
  | 21 => .array .int
  | 22 => .array .int
  | 23 => .array .int
  | 24 => .array .int
  | 25 => .array .int
  | 26 => .array .int
  | 27 => .array .int
  | 28 => .array .int
  | 29 => .array .int
  | 30 => .array .boolean
  | 31 => .array .boolean
  | _ => .array .int
theorem mj_in9 : ∀ w ∈ u_ws mj_R9 mj_T9 33, w ∈ mj_tb := by decide +kernel
theorem mj_nm9 : ∀ a, a < 33 → ∀ b, b < 33 → a ≠ b → (mj_T9 a).2.1 ≠ (mj_T9 b).2.1 := by decide +kernel
theorem mj_ty9 : ∀ k, k < 33 → parseFieldDescriptor (mj_T9 k).2.2.1 = some (mj_t9 k) := by decide +kernel
abbrev mj_cl : List vw_C := [(mj_R0, mj_T0, 9), (mj_R1, mj_T1, 2), (mj_R2, mj_T2, 2), (mj_R3, mj_T3, 8), (mj_R4, mj_T4, 4), (mj_R5, mj_T5, 4), (mj_R6, mj_T6, 5), (mj_R7, mj_T7, 5), (mj_R8, mj_T8, 5), (mj_R9, mj_T9, 33)]
def mj_t : Nat → Nat → FieldType := fun c => match c with
  | 0 => mj_t0
  | 1 => mj_t1
  | 2 => mj_t2
  | 3 => mj_t3
  | 4 => mj_t4
  | 5 => mj_t5
  | 6 => mj_t6
  | 7 => mj_t7
  | 8 => mj_t8
  | _ => mj_t9
theorem mj_in : ∀ (ci : Nat) (q : vw_C), mj_cl[ci]? = some q → ∀ w ∈ u_ws q.1 q.2.1 q.2.2, w ∈ mj_tb := by
  intro ci q h
  match ci, h with
  | 0, h => cases h; exact mj_in0
  | 1, h => cases h; exact mj_in1
  | 2, h => cases h; exact mj_in2
  | 3, h => cases h; exact mj_in3
  | 4, h => cases h; exact mj_in4
  | 5, h => cases h; exact mj_in5
  | 6, h => cases h; exact mj_in6
  | 7, h => cases h; exact mj_in7
  | 8, h => cases h; exact mj_in8
  | 9, h => cases h; exact mj_in9
  | k + 10, h => simp [mj_cl] at h
theorem mj_nm : ∀ (ci : Nat) (q : vw_C), mj_cl[ci]? = some q → ∀ a, a < q.2.2 → ∀ b, b < q.2.2 → a ≠ b → (q.2.1 a).2.1 ≠ (q.2.1 b).2.1 := by
  intro ci q h
  match ci, h with
  | 0, h => cases h; exact mj_nm0
  | 1, h => cases h; exact mj_nm1
  | 2, h => cases h; exact mj_nm2
  | 3, h => cases h; exact mj_nm3
  | 4, h => cases h; exact mj_nm4
  | 5, h => cases h; exact mj_nm5
  | 6, h => cases h; exact mj_nm6
  | 7, h => cases h; exact mj_nm7
  | 8, h => cases h; exact mj_nm8
  | 9, h => cases h; exact mj_nm9
  | k + 10, h => simp [mj_cl] at h
theorem mj_ty : ∀ (ci : Nat) (q : vw_C), mj_cl[ci]? = some q → ∀ k, k < q.2.2 → parseFieldDescriptor (q.2.1 k).2.2.1 = some (mj_t ci k) := by
  intro ci q h
  match ci, h with
  | 0, h => cases h; exact mj_ty0
  | 1, h => cases h; exact mj_ty1
  | 2, h => cases h; exact mj_ty2
  | 3, h => cases h; exact mj_ty3
  | 4, h => cases h; exact mj_ty4
  | 5, h => cases h; exact mj_ty5
  | 6, h => cases h; exact mj_ty6
  | 7, h => cases h; exact mj_ty7
  | 8, h => cases h; exact mj_ty8
  | 9, h => cases h; exact mj_ty9
  | k + 10, h => simp [mj_cl] at h
