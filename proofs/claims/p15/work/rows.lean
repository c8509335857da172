section
-- ===== PART A: goes FIRST, ahead of the names: the tables' words, and 'selects' of the private methods out of them =====
/-- a private method of a class that the tables say can be made, by its rows of tables_1 -/
def lw_okq (q : MethodName × Nat) : Prop := (q.1.cls ≠ "java/lang/invoke/MethodHandle" ∧ q.1.cls ≠ "java/lang/invoke/VarHandle") ∧ Cond.instantiable q.1.cls q.2 ∈ tables_1 ∧ Cond.privateMethod q.1 ∈ tables_1 ∧ Cond.instanceMethod q.1 ∈ tables_1
theorem lw_p0 : lw_okq (⟨"RationDesk$Corners", "addTo", "(III)V"⟩, 10) := ⟨⟨by decide +kernel, by decide +kernel⟩, List.mem_of_getElem? (i := 72) (by decide +kernel), List.mem_of_getElem? (i := 80) (by decide +kernel), List.mem_of_getElem? (i := 81) (by decide +kernel)⟩
theorem lw_p1 : lw_okq (⟨"RationDesk", "refresh", "()V"⟩, 8) := ⟨⟨by decide +kernel, by decide +kernel⟩, List.mem_of_getElem? (i := 9) (by decide +kernel), List.mem_of_getElem? (i := 197) (by decide +kernel), List.mem_of_getElem? (i := 198) (by decide +kernel)⟩
theorem lw_p2 : lw_okq (⟨"RationDesk$Corners", "meet", "(III)V"⟩, 10) := ⟨⟨by decide +kernel, by decide +kernel⟩, List.mem_of_getElem? (i := 72) (by decide +kernel), List.mem_of_getElem? (i := 205) (by decide +kernel), List.mem_of_getElem? (i := 206) (by decide +kernel)⟩
theorem lw_p3 : lw_okq (⟨"RationDesk$Corners", "keep", "(IIII)V"⟩, 10) := ⟨⟨by decide +kernel, by decide +kernel⟩, List.mem_of_getElem? (i := 72) (by decide +kernel), List.mem_of_getElem? (i := 218) (by decide +kernel), List.mem_of_getElem? (i := 219) (by decide +kernel)⟩
theorem lw_p4 : lw_okq (⟨"RationDesk$Corners", "findSides", "(IIII)I"⟩, 10) := ⟨⟨by decide +kernel, by decide +kernel⟩, List.mem_of_getElem? (i := 72) (by decide +kernel), List.mem_of_getElem? (i := 222) (by decide +kernel), List.mem_of_getElem? (i := 223) (by decide +kernel)⟩
theorem lw_p5 : lw_okq (⟨"RationDesk$Cells", "rebuildCell", "(IILRationDesk$Atoms;LRationDesk$Corners;)V"⟩, 3) := ⟨⟨by decide +kernel, by decide +kernel⟩, List.mem_of_getElem? (i := 117) (by decide +kernel), List.mem_of_getElem? (i := 236) (by decide +kernel), List.mem_of_getElem? (i := 237) (by decide +kernel)⟩
theorem lw_p6 : lw_okq (⟨"RationDesk$Atoms", "contradict", "(IIII)Z"⟩, 8) := ⟨⟨by decide +kernel, by decide +kernel⟩, List.mem_of_getElem? (i := 17) (by decide +kernel), List.mem_of_getElem? (i := 275) (by decide +kernel), List.mem_of_getElem? (i := 276) (by decide +kernel)⟩
theorem lw_p7 : lw_okq (⟨"RationDesk", "isWorld", "(I)Z"⟩, 8) := ⟨⟨by decide +kernel, by decide +kernel⟩, List.mem_of_getElem? (i := 9) (by decide +kernel), List.mem_of_getElem? (i := 287) (by decide +kernel), List.mem_of_getElem? (i := 288) (by decide +kernel)⟩
theorem lw_p8 : lw_okq (⟨"RationDesk$ClauseStack", "isSatisfiedBy", "(II)Z"⟩, 4) := ⟨⟨by decide +kernel, by decide +kernel⟩, List.mem_of_getElem? (i := 53) (by decide +kernel), List.mem_of_getElem? (i := 307) (by decide +kernel), List.mem_of_getElem? (i := 308) (by decide +kernel)⟩
theorem lw_p9 : lw_okq (⟨"RationDesk$Atoms", "setPlane", "(IIIII)V"⟩, 8) := ⟨⟨by decide +kernel, by decide +kernel⟩, List.mem_of_getElem? (i := 17) (by decide +kernel), List.mem_of_getElem? (i := 332) (by decide +kernel), List.mem_of_getElem? (i := 333) (by decide +kernel)⟩
theorem lw_p10 : lw_okq (⟨"RationDesk", "isDefined", "(I)Z"⟩, 8) := ⟨⟨by decide +kernel, by decide +kernel⟩, List.mem_of_getElem? (i := 9) (by decide +kernel), List.mem_of_getElem? (i := 361) (by decide +kernel), List.mem_of_getElem? (i := 362) (by decide +kernel)⟩
theorem lw_p11 : lw_okq (⟨"RationDesk", "isDefinedOrAbsent", "(I)Z"⟩, 8) := ⟨⟨by decide +kernel, by decide +kernel⟩, List.mem_of_getElem? (i := 9) (by decide +kernel), List.mem_of_getElem? (i := 365) (by decide +kernel), List.mem_of_getElem? (i := 366) (by decide +kernel)⟩
theorem lw_p12 : lw_okq (⟨"RationDesk", "climb", "(III)V"⟩, 8) := ⟨⟨by decide +kernel, by decide +kernel⟩, List.mem_of_getElem? (i := 9) (by decide +kernel), List.mem_of_getElem? (i := 428) (by decide +kernel), List.mem_of_getElem? (i := 429) (by decide +kernel)⟩
theorem lw_p13 : lw_okq (⟨"RationDesk", "climbWorld", "(I)V"⟩, 8) := ⟨⟨by decide +kernel, by decide +kernel⟩, List.mem_of_getElem? (i := 9) (by decide +kernel), List.mem_of_getElem? (i := 436) (by decide +kernel), List.mem_of_getElem? (i := 437) (by decide +kernel)⟩
theorem lw_p14 : lw_okq (⟨"RationDesk$Peak", "climbCell", "(LRationDesk$Corners;I)V"⟩, 9) := ⟨⟨by decide +kernel, by decide +kernel⟩, List.mem_of_getElem? (i := 134) (by decide +kernel), List.mem_of_getElem? (i := 454) (by decide +kernel), List.mem_of_getElem? (i := 455) (by decide +kernel)⟩
theorem lw_p15 : lw_okq (⟨"RationDesk$Peak", "climbCorner", "(JJI)V"⟩, 9) := ⟨⟨by decide +kernel, by decide +kernel⟩, List.mem_of_getElem? (i := 134) (by decide +kernel), List.mem_of_getElem? (i := 474) (by decide +kernel), List.mem_of_getElem? (i := 475) (by decide +kernel)⟩
def lw_privs_1 : List (MethodName × Nat) := [(⟨"RationDesk$Corners", "addTo", "(III)V"⟩, 10), (⟨"RationDesk", "refresh", "()V"⟩, 8), (⟨"RationDesk$Corners", "meet", "(III)V"⟩, 10), (⟨"RationDesk$Corners", "keep", "(IIII)V"⟩, 10), (⟨"RationDesk$Corners", "findSides", "(IIII)I"⟩, 10), (⟨"RationDesk$Cells", "rebuildCell", "(IILRationDesk$Atoms;LRationDesk$Corners;)V"⟩, 3), (⟨"RationDesk$Atoms", "contradict", "(IIII)Z"⟩, 8), (⟨"RationDesk", "isWorld", "(I)Z"⟩, 8), (⟨"RationDesk$ClauseStack", "isSatisfiedBy", "(II)Z"⟩, 4), (⟨"RationDesk$Atoms", "setPlane", "(IIIII)V"⟩, 8), (⟨"RationDesk", "isDefined", "(I)Z"⟩, 8), (⟨"RationDesk", "isDefinedOrAbsent", "(I)Z"⟩, 8), (⟨"RationDesk", "climb", "(III)V"⟩, 8), (⟨"RationDesk", "climbWorld", "(I)V"⟩, 8), (⟨"RationDesk$Peak", "climbCell", "(LRationDesk$Corners;I)V"⟩, 9), (⟨"RationDesk$Peak", "climbCorner", "(JJI)V"⟩, 9)]
theorem lw_r1 : ∀ q ∈ lw_privs_1, lw_okq q := List.forall_mem_cons.mpr ⟨lw_p0, List.forall_mem_cons.mpr ⟨lw_p1, List.forall_mem_cons.mpr ⟨lw_p2, List.forall_mem_cons.mpr ⟨lw_p3, List.forall_mem_cons.mpr ⟨lw_p4, List.forall_mem_cons.mpr ⟨lw_p5, List.forall_mem_cons.mpr ⟨lw_p6, List.forall_mem_cons.mpr ⟨lw_p7, List.forall_mem_cons.mpr ⟨lw_p8, List.forall_mem_cons.mpr ⟨lw_p9, List.forall_mem_cons.mpr ⟨lw_p10, List.forall_mem_cons.mpr ⟨lw_p11, List.forall_mem_cons.mpr ⟨lw_p12, List.forall_mem_cons.mpr ⟨lw_p13, List.forall_mem_cons.mpr ⟨lw_p14, List.forall_mem_cons.mpr ⟨lw_p15, fun _ h => absurd h List.not_mem_nil⟩⟩⟩⟩⟩⟩⟩⟩⟩⟩⟩⟩⟩⟩⟩⟩
def lw_privs : List (MethodName × Nat) := lw_privs_1
def lw_tbl : List Cond := k2_sels lw_privs ++ tables_1
theorem lw_privs_ok : ∀ q ∈ lw_privs, lw_okq q := lw_r1
-- ===== names, fields: the rows that the claim's own NAMES text prints =====
def RX0 : String := "RationDesk$Atoms"
def TX0 : u_T := fun k => match k with
  | 0 => ("RationDesk$Atoms", "kind", "[I", true)
  | 1 => ("RationDesk$Atoms", "a", "[I", true)
  | 2 => ("RationDesk$Atoms", "b", "[I", true)
  | 3 => ("RationDesk$Atoms", "c", "[I", true)
  | 4 => ("RationDesk$Atoms", "d", "[I", true)
  | 5 => ("RationDesk$Atoms", "argument", "[I", true)
  | 6 => ("RationDesk$Atoms", "value", "[I", true)
  | _ => ("RationDesk$Atoms", "defined", "I", false)
def tyX0 : Nat → FieldType := fun k => match k with
  | 0 => .array .int
  | 1 => .array .int
  | 2 => .array .int
  | 3 => .array .int
  | 4 => .array .int
  | 5 => .array .int
  | 6 => .array .int
  | _ => .int
theorem nmX0 : ∀ a, a < 8 → ∀ b, b < 8 → a ≠ b → (TX0 a).2.1 ≠ (TX0 b).2.1 := by decide +kernel
theorem tyX0_ok : ∀ k, k < 8 → parseFieldDescriptor (TX0 k).2.2.1 = some (tyX0 k) := by decide +kernel
def RX1 : String := "RationDesk$Cells"
def TX1 : u_T := fun k => match k with
  | 0 => ("RationDesk$Cells", "open", "[Z", true)
  | 1 => ("RationDesk$Cells", "needed", "[I", true)
  | _ => ("RationDesk$Cells", "sought", "[I", true)
def tyX1 : Nat → FieldType := fun k => match k with
  | 0 => .array .boolean
  | 1 => .array .int
  | _ => .array .int
theorem nmX1 : ∀ a, a < 3 → ∀ b, b < 3 → a ≠ b → (TX1 a).2.1 ≠ (TX1 b).2.1 := by decide +kernel
theorem tyX1_ok : ∀ k, k < 3 → parseFieldDescriptor (TX1 k).2.2.1 = some (tyX1 k) := by decide +kernel
def RX2 : String := "RationDesk$ClauseStack"
def TX2 : u_T := fun k => match k with
  | 0 => ("RationDesk$ClauseStack", "literals", "[I", true)
  | 1 => ("RationDesk$ClauseStack", "marks", "[I", true)
  | 2 => ("RationDesk$ClauseStack", "size", "I", false)
  | _ => ("RationDesk$ClauseStack", "level", "I", false)
def tyX2 : Nat → FieldType := fun k => match k with
  | 0 => .array .int
  | 1 => .array .int
  | 2 => .int
  | _ => .int
theorem nmX2 : ∀ a, a < 4 → ∀ b, b < 4 → a ≠ b → (TX2 a).2.1 ≠ (TX2 b).2.1 := by decide +kernel
theorem tyX2_ok : ∀ k, k < 4 → parseFieldDescriptor (TX2 k).2.2.1 = some (tyX2 k) := by decide +kernel
def RX3 : String := "RationDesk$Corners"
def TX3 : u_T := fun k => match k with
  | 0 => ("RationDesk$Corners", "a", "[I", true)
  | 1 => ("RationDesk$Corners", "b", "[I", true)
  | 2 => ("RationDesk$Corners", "c", "[I", true)
  | 3 => ("RationDesk$Corners", "d", "[I", true)
  | 4 => ("RationDesk$Corners", "x", "[I", true)
  | 5 => ("RationDesk$Corners", "y", "[I", true)
  | 6 => ("RationDesk$Corners", "z", "[I", true)
  | 7 => ("RationDesk$Corners", "divisor", "[I", true)
  | 8 => ("RationDesk$Corners", "sides", "[I", true)
  | _ => ("RationDesk$Corners", "count", "I", false)
def tyX3 : Nat → FieldType := fun k => match k with
  | 0 => .array .int
  | 1 => .array .int
  | 2 => .array .int
  | 3 => .array .int
  | 4 => .array .int
  | 5 => .array .int
  | 6 => .array .int
  | 7 => .array .int
  | 8 => .array .int
  | _ => .int
theorem nmX3 : ∀ a, a < 10 → ∀ b, b < 10 → a ≠ b → (TX3 a).2.1 ≠ (TX3 b).2.1 := by decide +kernel
theorem tyX3_ok : ∀ k, k < 10 → parseFieldDescriptor (TX3 k).2.2.1 = some (tyX3 k) := by decide +kernel
def RX4 : String := "RationDesk$Peak"
def TX4 : u_T := fun k => match k with
  | 0 => ("RationDesk$Peak", "a", "I", false)
  | 1 => ("RationDesk$Peak", "b", "I", false)
  | 2 => ("RationDesk$Peak", "c", "I", false)
  | 3 => ("RationDesk$Peak", "over", "J", false)
  | 4 => ("RationDesk$Peak", "under", "J", false)
  | 5 => ("RationDesk$Peak", "reached", "Z", false)
  | 6 => ("RationDesk$Peak", "cellOver", "J", false)
  | 7 => ("RationDesk$Peak", "cellUnder", "J", false)
  | _ => ("RationDesk$Peak", "cellSides", "I", false)
def tyX4 : Nat → FieldType := fun k => match k with
  | 0 => .int
  | 1 => .int
  | 2 => .int
  | 3 => .long
  | 4 => .long
  | 5 => .boolean
  | 6 => .long
  | 7 => .long
  | _ => .int
theorem nmX4 : ∀ a, a < 9 → ∀ b, b < 9 → a ≠ b → (TX4 a).2.1 ≠ (TX4 b).2.1 := by decide +kernel
theorem tyX4_ok : ∀ k, k < 9 → parseFieldDescriptor (TX4 k).2.2.1 = some (tyX4 k) := by decide +kernel
def RX5 : String := "RationDesk"
def TX5 : u_T := fun k => match k with
  | 0 => ("RationDesk", "atoms", "LRationDesk$Atoms;", true)
  | 1 => ("RationDesk", "clauses", "LRationDesk$ClauseStack;", true)
  | 2 => ("RationDesk", "corners", "LRationDesk$Corners;", true)
  | 3 => ("RationDesk", "cells", "LRationDesk$Cells;", true)
  | 4 => ("RationDesk", "peak", "LRationDesk$Peak;", true)
  | 5 => ("RationDesk", "stale", "Z", false)
  | 6 => ("RationDesk", "topNumerator", "J", false)
  | _ => ("RationDesk", "topDenominator", "J", false)
def tyX5 : Nat → FieldType := fun k => match k with
  | 0 => .object "RationDesk$Atoms"
  | 1 => .object "RationDesk$ClauseStack"
  | 2 => .object "RationDesk$Corners"
  | 3 => .object "RationDesk$Cells"
  | 4 => .object "RationDesk$Peak"
  | 5 => .boolean
  | 6 => .long
  | _ => .long
theorem nmX5 : ∀ a, a < 8 → ∀ b, b < 8 → a ≠ b → (TX5 a).2.1 ≠ (TX5 b).2.1 := by decide +kernel
theorem tyX5_ok : ∀ k, k < 8 → parseFieldDescriptor (TX5 k).2.2.1 = some (tyX5 k) := by decide +kernel
abbrev vwCl : List vw_C := [(RX0, TX0, 8), (RX1, TX1, 3), (RX2, TX2, 4), (RX3, TX3, 10), (RX4, TX4, 9), (RX5, TX5, 8)]
abbrev MT : Type := MethodName × ByteArray × Nat × Option FieldType × Nat × Nat × Nat
def RN : Nat → String := fun c => match c with
  | 0 => "RationDesk$Atoms"
  | 1 => "RationDesk$Cells"
  | 2 => "RationDesk$ClauseStack"
  | 3 => "RationDesk$Corners"
  | 4 => "RationDesk$Peak"
  | 5 => "RationDesk"
  | _ => "RationDeskLaw"
def TT : Nat → u_T := fun c => match c with
  | 0 => TX0
  | 1 => TX1
  | 2 => TX2
  | 3 => TX3
  | 4 => TX4
  | _ => TX5
def nf : Nat → Nat := fun c => match c with
  | 0 => 8
  | 1 => 3
  | 2 => 4
  | 3 => 10
  | 4 => 9
  | _ => 8
/-- the kind of a field: 0 int, 1 long, 2 reference, 3 boolean -/
def fty : Nat → Nat → Nat := fun c k => (match c with
  | 0 => [2, 2, 2, 2, 2, 2, 2, 0]
  | 1 => [2, 2, 2]
  | 2 => [2, 2, 0, 0]
  | 3 => [2, 2, 2, 2, 2, 2, 2, 2, 2, 0]
  | 4 => [0, 0, 0, 1, 1, 3, 1, 1, 0]
  | _ => [2, 2, 2, 2, 2, 3, 1, 1]
  ).getD k 0
/-- what the program makes, in the order in which it makes it: an object of a class, or a row of booleans or ints -/
def SHL : List (Nat ⊕ (Bool × Nat)) := [.inl 5, .inl 0, .inr (false, 5), .inr (false, 5), .inr (false, 5), .inr (false, 5), .inr (false, 5), .inr (false, 5), .inr (false, 5), .inl 2, .inr (false, 24), .inr (false, 4), .inl 3, .inr (false, 14), .inr (false, 14), .inr (false, 14), .inr (false, 14), .inr (false, 364), .inr (false, 364), .inr (false, 364), .inr (false, 364), .inr (false, 364), .inl 1, .inr (true, 160), .inr (false, 160), .inr (false, 160), .inl 4]
abbrev mX0_init : MT := (⟨"RationDesk$Atoms", "<init>", "()V"⟩, prog_2_method_1_code, 1, none, 1, 16, 0)
abbrev mX0_defined : MT := (⟨"RationDesk$Atoms", "defined", "()I"⟩, prog_2_method_2_code, 1, (some .int), 0, 0, 0)
abbrev mX5_isAtom : MT := (⟨"RationDesk", "isAtom", "(I)Z"⟩, prog_1_method_16_code, 1, (some .boolean), 0, 0, 5)
abbrev mX0_setPlane : MT := (⟨"RationDesk$Atoms", "setPlane", "(IIIII)V"⟩, prog_2_method_5_code, 6, none, 1, 20, 0)
abbrev mX0_defineLinear : MT := (⟨"RationDesk$Atoms", "defineLinear", "(IIIIIZ)V"⟩, prog_2_method_3_code, 7, none, 2, 45, 0)
abbrev mX0_defineFact : MT := (⟨"RationDesk$Atoms", "defineFact", "(III)V"⟩, prog_2_method_4_code, 4, none, 2, 45, 0)
abbrev mX5_onPlane : MT := (⟨"RationDesk", "onPlane", "(I)I"⟩, prog_1_method_22_code, 1, (some .int), 0, 0, 5)
abbrev mX5_side : MT := (⟨"RationDesk", "side", "(II)I"⟩, prog_1_method_21_code, 2, (some .int), 0, 0, 5)
abbrev mX0_sidesNeeded : MT := (⟨"RationDesk$Atoms", "sidesNeeded", "(I)I"⟩, prog_2_method_6_code, 5, (some .int), 1, 21, 0)
abbrev mX0_sidesSought : MT := (⟨"RationDesk$Atoms", "sidesSought", "(I)I"⟩, prog_2_method_7_code, 5, (some .int), 1, 21, 0)
abbrev mX5_areEqual : MT := (⟨"RationDesk", "areEqual", "(III)Z"⟩, prog_1_method_23_code, 5, (some .boolean), 0, 0, 5)
abbrev mX0_contradict : MT := (⟨"RationDesk$Atoms", "contradict", "(IIII)Z"⟩, prog_2_method_9_code, 7, (some .boolean), 1, 24, 0)
abbrev mX0_hasFunction : MT := (⟨"RationDesk$Atoms", "hasFunction", "(II)Z"⟩, prog_2_method_8_code, 5, (some .boolean), 2, 50, 0)
abbrev mX1_init : MT := (⟨"RationDesk$Cells", "<init>", "()V"⟩, prog_3_method_1_code, 1, none, 1, 16, 1)
abbrev mX1_cellOf : MT := (⟨"RationDesk$Cells", "cellOf", "(II)I"⟩, prog_3_method_4_code, 2, (some .int), 0, 0, 1)
abbrev mX1_isCell : MT := (⟨"RationDesk$Cells", "isCell", "(I)Z"⟩, prog_3_method_5_code, 1, (some .boolean), 0, 0, 1)
abbrev mX1_pairsNeeded : MT := (⟨"RationDesk$Cells", "pairsNeeded", "(I)I"⟩, prog_3_method_10_code, 3, (some .int), 1, 24, 1)
abbrev mX1_pairsSought : MT := (⟨"RationDesk$Cells", "pairsSought", "(I)I"⟩, prog_3_method_11_code, 3, (some .int), 1, 24, 1)
abbrev mX3_havePoint : MT := (⟨"RationDesk$Corners", "havePoint", "(II)Z"⟩, prog_5_method_7_code, 5, (some .boolean), 0, 0, 3)
abbrev mX1_rebuildCell : MT := (⟨"RationDesk$Cells", "rebuildCell", "(IILRationDesk$Atoms;LRationDesk$Corners;)V"⟩, prog_3_method_3_code, 6, none, 3, 74, 1)
abbrev mX1_rebuild : MT := (⟨"RationDesk$Cells", "rebuild", "(LRationDesk$Atoms;LRationDesk$Corners;)V"⟩, prog_3_method_2_code, 5, none, 4, 99, 1)
abbrev mX1_isOpen : MT := (⟨"RationDesk$Cells", "isOpen", "(I)Z"⟩, prog_3_method_6_code, 2, (some .boolean), 1, 20, 1)
abbrev mX1_neededIn : MT := (⟨"RationDesk$Cells", "neededIn", "(I)I"⟩, prog_3_method_7_code, 2, (some .int), 1, 20, 1)
abbrev mX1_soughtIn : MT := (⟨"RationDesk$Cells", "soughtIn", "(I)I"⟩, prog_3_method_8_code, 2, (some .int), 1, 20, 1)
abbrev mX1_isOpenSomewhere : MT := (⟨"RationDesk$Cells", "isOpenSomewhere", "(I)Z"⟩, prog_3_method_9_code, 3, (some .boolean), 2, 41, 1)
abbrev mX2_init : MT := (⟨"RationDesk$ClauseStack", "<init>", "()V"⟩, prog_4_method_1_code, 1, none, 1, 16, 2)
abbrev mX2_size : MT := (⟨"RationDesk$ClauseStack", "size", "()I"⟩, prog_4_method_2_code, 1, (some .int), 0, 0, 2)
abbrev mX2_level : MT := (⟨"RationDesk$ClauseStack", "level", "()I"⟩, prog_4_method_3_code, 1, (some .int), 0, 0, 2)
abbrev mX2_add : MT := (⟨"RationDesk$ClauseStack", "add", "(III)Z"⟩, prog_4_method_4_code, 5, (some .boolean), 0, 0, 2)
abbrev mX2_raise : MT := (⟨"RationDesk$ClauseStack", "raise", "()Z"⟩, prog_4_method_5_code, 1, (some .boolean), 0, 0, 2)
abbrev mX2_lower : MT := (⟨"RationDesk$ClauseStack", "lower", "()Z"⟩, prog_4_method_6_code, 1, (some .boolean), 0, 0, 2)
abbrev mX5_holdsIn : MT := (⟨"RationDesk", "holdsIn", "(II)Z"⟩, prog_1_method_20_code, 3, (some .boolean), 0, 0, 5)
abbrev mX2_isSatisfiedBy : MT := (⟨"RationDesk$ClauseStack", "isSatisfiedBy", "(II)Z"⟩, prog_4_method_8_code, 4, (some .boolean), 1, 22, 2)
abbrev mX2_areSatisfiedBy : MT := (⟨"RationDesk$ClauseStack", "areSatisfiedBy", "(I)Z"⟩, prog_4_method_7_code, 3, (some .boolean), 2, 45, 2)
abbrev mX3_addTo : MT := (⟨"RationDesk$Corners", "addTo", "(III)V"⟩, prog_5_method_2_code, 4, none, 0, 0, 3)
abbrev mX3_init : MT := (⟨"RationDesk$Corners", "<init>", "()V"⟩, prog_5_method_1_code, 2, none, 1, 23, 3)
abbrev mX3_count : MT := (⟨"RationDesk$Corners", "count", "()I"⟩, prog_5_method_3_code, 1, (some .int), 0, 0, 3)
abbrev mX3_sidesOf : MT := (⟨"RationDesk$Corners", "sidesOf", "(I)I"⟩, prog_5_method_4_code, 2, (some .int), 0, 0, 3)
abbrev mX3_divisorOf : MT := (⟨"RationDesk$Corners", "divisorOf", "(I)I"⟩, prog_5_method_5_code, 2, (some .int), 0, 0, 3)
abbrev mX3_sumAt : MT := (⟨"RationDesk$Corners", "sumAt", "(IIII)J"⟩, prog_5_method_6_code, 5, (some .long), 0, 0, 3)
abbrev mX3_isPlane : MT := (⟨"RationDesk$Corners", "isPlane", "(I)Z"⟩, prog_5_method_11_code, 1, (some .boolean), 0, 0, 3)
abbrev mX3_determinant : MT := (⟨"RationDesk$Corners", "determinant", "([I[I[IIII)I"⟩, prog_5_method_10_code, 6, (some .int), 1, 20, 3)
abbrev mX3_findSides : MT := (⟨"RationDesk$Corners", "findSides", "(IIII)I"⟩, prog_5_method_13_code, 8, (some .int), 1, 21, 3)
abbrev mX3_keep : MT := (⟨"RationDesk$Corners", "keep", "(IIII)V"⟩, prog_5_method_12_code, 5, none, 2, 48, 3)
abbrev mX5_isWithin : MT := (⟨"RationDesk", "isWithin", "(II)Z"⟩, prog_1_method_13_code, 2, (some .boolean), 0, 0, 5)
abbrev mX3_meet : MT := (⟨"RationDesk$Corners", "meet", "(III)V"⟩, prog_5_method_9_code, 11, none, 3, 72, 3)
abbrev mX3_rebuild : MT := (⟨"RationDesk$Corners", "rebuild", "(LRationDesk$Atoms;)V"⟩, prog_5_method_8_code, 5, none, 4, 102, 3)
abbrev mX4_init : MT := (⟨"RationDesk$Peak", "<init>", "()V"⟩, prog_6_method_1_code, 1, none, 1, 16, 4)
abbrev mX4_start : MT := (⟨"RationDesk$Peak", "start", "(III)V"⟩, prog_6_method_2_code, 4, none, 0, 0, 4)
abbrev mX4_isFound : MT := (⟨"RationDesk$Peak", "isFound", "()Z"⟩, prog_6_method_3_code, 1, (some .boolean), 0, 0, 4)
abbrev mX4_isReached : MT := (⟨"RationDesk$Peak", "isReached", "()Z"⟩, prog_6_method_4_code, 1, (some .boolean), 0, 0, 4)
abbrev mX4_isAtMost : MT := (⟨"RationDesk$Peak", "isAtMost", "(I)Z"⟩, prog_6_method_5_code, 2, (some .boolean), 0, 0, 4)
abbrev mX4_compare : MT := (⟨"RationDesk$Peak", "compare", "(JJJJ)J"⟩, prog_6_method_9_code, 8, (some .long), 0, 0, 4)
abbrev mX4_climbCorner : MT := (⟨"RationDesk$Peak", "climbCorner", "(JJI)V"⟩, prog_6_method_8_code, 8, none, 1, 27, 4)
abbrev mX4_climbCell : MT := (⟨"RationDesk$Peak", "climbCell", "(LRationDesk$Corners;I)V"⟩, prog_6_method_7_code, 5, none, 2, 54, 4)
abbrev mX4_include : MT := (⟨"RationDesk$Peak", "include", "(LRationDesk$Corners;II)V"⟩, prog_6_method_6_code, 7, none, 3, 78, 4)
abbrev mX4_commonDivisor : MT := (⟨"RationDesk$Peak", "commonDivisor", "(JJ)J"⟩, prog_6_method_12_code, 11, (some .long), 1, 17, 4)
abbrev mX4_reducedOver : MT := (⟨"RationDesk$Peak", "reducedOver", "()J"⟩, prog_6_method_10_code, 3, (some .long), 2, 47, 4)
abbrev mX4_reducedUnder : MT := (⟨"RationDesk$Peak", "reducedUnder", "()J"⟩, prog_6_method_11_code, 3, (some .long), 2, 47, 4)
abbrev mX5_init : MT := (⟨"RationDesk", "<init>", "()V"⟩, prog_1_method_1_code, 1, none, 2, 44, 5)
abbrev mX5_areFactors : MT := (⟨"RationDesk", "areFactors", "(III)Z"⟩, prog_1_method_14_code, 3, (some .boolean), 1, 21, 5)
abbrev mX5_isLimit : MT := (⟨"RationDesk", "isLimit", "(I)Z"⟩, prog_1_method_15_code, 1, (some .boolean), 1, 21, 5)
abbrev mX5_linear : MT := (⟨"RationDesk", "linear", "(IIIIIZ)Z"⟩, prog_1_method_2_code, 7, (some .boolean), 3, 71, 5)
abbrev mX5_isNumber : MT := (⟨"RationDesk", "isNumber", "(I)Z"⟩, prog_1_method_17_code, 1, (some .boolean), 0, 0, 5)
abbrev mX5_fact : MT := (⟨"RationDesk", "fact", "(III)Z"⟩, prog_1_method_3_code, 4, (some .boolean), 3, 68, 5)
abbrev mX5_isDefined : MT := (⟨"RationDesk", "isDefined", "(I)Z"⟩, prog_1_method_18_code, 2, (some .boolean), 1, 20, 5)
abbrev mX5_isDefinedOrAbsent : MT := (⟨"RationDesk", "isDefinedOrAbsent", "(I)Z"⟩, prog_1_method_19_code, 2, (some .boolean), 2, 41, 5)
abbrev mX5_clause : MT := (⟨"RationDesk", "clause", "(III)I"⟩, prog_1_method_4_code, 5, (some .int), 3, 62, 5)
abbrev mX5_push : MT := (⟨"RationDesk", "push", "()I"⟩, prog_1_method_5_code, 1, (some .int), 1, 20, 5)
abbrev mX5_pop : MT := (⟨"RationDesk", "pop", "()I"⟩, prog_1_method_6_code, 1, (some .int), 1, 20, 5)
abbrev mX5_isWorld : MT := (⟨"RationDesk", "isWorld", "(I)Z"⟩, prog_1_method_25_code, 2, (some .boolean), 3, 67, 5)
abbrev mX5_refresh : MT := (⟨"RationDesk", "refresh", "()V"⟩, prog_1_method_24_code, 1, none, 5, 126, 5)
abbrev mX5_worlds : MT := (⟨"RationDesk", "worlds", "()I"⟩, prog_1_method_7_code, 3, (some .int), 6, 146, 5)
abbrev mX5_world : MT := (⟨"RationDesk", "world", "(I)Z"⟩, prog_1_method_8_code, 2, (some .boolean), 6, 146, 5)
abbrev mX5_holds : MT := (⟨"RationDesk", "holds", "(I)I"⟩, prog_1_method_9_code, 6, (some .int), 6, 146, 5)
abbrev mX5_climbWorld : MT := (⟨"RationDesk", "climbWorld", "(I)V"⟩, prog_1_method_27_code, 4, none, 4, 104, 5)
abbrev mX5_climb : MT := (⟨"RationDesk", "climb", "(III)V"⟩, prog_1_method_26_code, 5, none, 5, 127, 5)
abbrev mX5_most : MT := (⟨"RationDesk", "most", "(III)I"⟩, prog_1_method_10_code, 4, (some .int), 6, 151, 5)
abbrev mX5_top : MT := (⟨"RationDesk", "top", "(I)J"⟩, prog_1_method_11_code, 2, (some .long), 0, 0, 5)
abbrev mX5_bounded : MT := (⟨"RationDesk", "bounded", "(IIII)Z"⟩, prog_1_method_12_code, 5, (some .boolean), 6, 151, 5)
abbrev mX6_cell : MT := (⟨"RationDeskLaw", "cell", "([II)I"⟩, method_2_code, 2, (some .int), 0, 0, 6)
abbrev mX6_small : MT := (⟨"RationDeskLaw", "small", "(I)I"⟩, method_3_code, 1, (some .int), 0, 0, 6)
abbrev mX6_atoms : MT := (⟨"RationDeskLaw", "atoms", "(LRationDesk;[I)I"⟩, method_4_code, 6, (some .int), 4, 97, 6)
abbrev mX6_clauses : MT := (⟨"RationDeskLaw", "clauses", "(LRationDesk;[II)V"⟩, method_5_code, 10, none, 4, 86, 6)
abbrev mX6_set : MT := (⟨"RationDeskLaw", "set", "(LRationDesk;I)I"⟩, method_6_code, 4, (some .int), 7, 167, 6)
abbrev mX6_bits : MT := (⟨"RationDeskLaw", "bits", "(I)I"⟩, method_7_code, 3, (some .int), 0, 0, 6)
abbrev mX6_with : MT := (⟨"RationDeskLaw", "with", "(I)I"⟩, method_8_code, 3, (some .int), 0, 0, 6)
abbrev mX6_satisfied : MT := (⟨"RationDeskLaw", "satisfied", "(I[II)Z"⟩, method_9_code, 8, (some .boolean), 1, 22, 6)
abbrev mX6_halves : MT := (⟨"RationDeskLaw", "halves", "(LRationDesk;II)Z"⟩, method_10_code, 9, (some .boolean), 8, 190, 6)
abbrev mX6_compare : MT := (⟨"RationDeskLaw", "compare", "(JJJJ)I"⟩, method_11_code, 12, (some .int), 0, 0, 6)
abbrev mX6_tops : MT := (⟨"RationDeskLaw", "tops", "(LRationDesk;IIIII)Z"⟩, method_12_code, 17, (some .boolean), 7, 175, 6)
abbrev mX6_fixed : MT := (⟨"RationDeskLaw", "fixed", "(III)Z"⟩, method_13_code, 11, (some .boolean), 7, 175, 6)
abbrev mX6_law : MT := (⟨"RationDeskLaw", "law", "([I)Z"⟩, code, 6, (some .boolean), 9, 218, 6)
/-- fields by the class and the entry of its pool: class, place, where the word stands, a nest mate's -/
def FL : List (Nat × Nat × Nat × Nat × Nat × Bool) := [(0, 9, 0, 0, 38, false), (0, 15, 0, 1, 39, false), (0, 18, 0, 2, 41, false), (0, 21, 0, 3, 43, false), (0, 24, 0, 4, 45, false), (0, 27, 0, 5, 47, false), (0, 30, 0, 6, 48, false), (0, 33, 0, 7, 49, false), (1, 9, 1, 0, 138, false), (1, 15, 1, 1, 139, false), (1, 19, 1, 2, 140, false), (2, 9, 2, 0, 74, false), (2, 15, 2, 1, 75, false), (2, 18, 2, 2, 76, false), (2, 22, 2, 3, 77, false), (3, 11, 3, 0, 101, false), (3, 15, 3, 1, 102, false), (3, 18, 3, 2, 103, false), (3, 21, 3, 3, 104, false), (3, 24, 3, 4, 105, false), (3, 27, 3, 5, 106, false), (3, 30, 3, 6, 107, false), (3, 33, 3, 7, 108, false), (3, 36, 3, 8, 109, false), (3, 39, 3, 9, 110, false), (3, 53, 0, 1, 40, true), (3, 56, 0, 2, 42, true), (3, 57, 0, 3, 44, true), (3, 58, 0, 4, 46, true), (4, 7, 4, 0, 155, false), (4, 13, 4, 1, 156, false), (4, 16, 4, 2, 157, false), (4, 19, 4, 3, 158, false), (4, 23, 4, 4, 159, false), (4, 26, 4, 5, 160, false), (4, 30, 4, 6, 161, false), (4, 33, 4, 7, 162, false), (4, 36, 4, 8, 163, false), (5, 12, 5, 0, 183, false), (5, 19, 5, 1, 184, false), (5, 26, 5, 2, 185, false), (5, 33, 5, 3, 186, false), (5, 40, 5, 4, 187, false), (5, 44, 5, 5, 188, false), (5, 48, 5, 6, 189, false), (5, 52, 5, 7, 190, false)]
def SLT : List (Nat × Nat × Nat × Nat × Bool) := [(1, 61, 100, 270, true), (1, 64, 101, 271, true), (3, 43, 100, 93, true), (3, 50, 101, 99, true), (5, 135, 102, 275, false)]
def NLT : List (Nat × Nat × Nat × Nat × Nat × Nat) := [(5, 9, 0, 32, 33, 18), (5, 16, 2, 68, 69, 19), (5, 23, 3, 87, 88, 20), (5, 30, 1, 132, 133, 21), (5, 37, 4, 149, 150, 22), (6, 14, 5, 24, 25, 17)]
/-- calls: class, entry, kind (0 virtual, 1 nest virtual, 2 static, 3 nest static, 4 special, 5 nest special), the method, how many arguments, where the words stand -/
def CL : List (Nat × Nat × Nat × MT × Nat × Nat × Nat × Nat × Nat × Nat) := [(0, 37, 3, mX5_isAtom, 1, 294, 295, 0, 17, 296), (0, 41, 0, mX0_setPlane, 5, 347, 349, 9, 18, 350), (0, 45, 3, mX5_side, 2, 265, 245, 0, 17, 246), (0, 49, 3, mX5_onPlane, 1, 266, 242, 0, 17, 243), (0, 53, 0, mX0_contradict, 4, 290, 292, 6, 18, 293), (0, 57, 3, mX5_areEqual, 3, 297, 273, 0, 17, 274), (1, 22, 0, mX1_rebuildCell, 4, 251, 253, 5, 21, 254), (1, 26, 2, mX1_cellOf, 2, 255, 256, 0, 21, 257), (1, 30, 2, mX1_isCell, 1, 258, 259, 0, 21, 260), (1, 34, 0, mX0_sidesNeeded, 1, 261, 262, 263, 18, 264), (1, 40, 2, mX1_pairsNeeded, 1, 267, 268, 0, 21, 269), (1, 43, 0, mX0_sidesSought, 1, 278, 279, 280, 18, 281), (1, 46, 2, mX1_pairsSought, 1, 282, 283, 0, 21, 284), (1, 49, 0, mX0_hasFunction, 2, 286, 287, 288, 18, 289), (1, 53, 0, mX3_havePoint, 2, 298, 299, 300, 20, 301), (1, 58, 0, mX1_isOpen, 1, 314, 315, 316, 21, 317), (1, 67, 3, mX5_areEqual, 3, 272, 273, 0, 17, 274), (1, 71, 3, mX5_onPlane, 1, 277, 242, 0, 17, 243), (1, 74, 3, mX5_side, 2, 285, 245, 0, 17, 246), (2, 25, 0, mX2_isSatisfiedBy, 2, 322, 324, 8, 19, 325), (2, 29, 3, mX5_holdsIn, 2, 326, 327, 0, 17, 328), (3, 46, 0, mX3_addTo, 3, 95, 97, 0, 20, 98), (3, 59, 0, mX3_meet, 3, 220, 222, 2, 20, 223), (3, 62, 2, mX3_determinant, 6, 224, 225, 0, 20, 226), (3, 66, 3, mX5_isWithin, 2, 230, 231, 0, 17, 232), (3, 70, 0, mX3_keep, 4, 233, 235, 3, 20, 236), (3, 74, 2, mX3_isPlane, 1, 227, 228, 0, 20, 229), (3, 78, 0, mX3_findSides, 4, 237, 239, 4, 20, 240), (3, 82, 3, mX5_onPlane, 1, 241, 242, 0, 17, 243), (3, 86, 3, mX5_side, 2, 244, 245, 0, 17, 246), (4, 39, 0, mX4_climbCell, 2, 469, 471, 14, 22, 472), (4, 43, 2, mX4_compare, 4, 493, 494, 0, 22, 495), (4, 47, 0, mX3_count, 0, 473, 474, 475, 20, 476), (4, 53, 0, mX3_sidesOf, 1, 477, 478, 479, 20, 480), (4, 57, 0, mX3_sumAt, 4, 481, 482, 483, 20, 484), (4, 61, 0, mX3_divisorOf, 1, 485, 486, 487, 20, 488), (4, 64, 0, mX4_climbCorner, 3, 489, 491, 15, 22, 492), (4, 68, 2, mX4_commonDivisor, 2, 500, 501, 0, 22, 502), (5, 11, 5, mX0_init, 0, 34, 35, 0, 18, 36), (5, 18, 5, mX2_init, 0, 70, 71, 0, 19, 72), (5, 25, 4, mX3_init, 0, 89, 90, 0, 20, 91), (5, 32, 5, mX1_init, 0, 134, 135, 0, 21, 136), (5, 39, 5, mX4_init, 0, 151, 152, 0, 22, 153), (5, 55, 2, mX5_isAtom, 1, 339, 295, 0, 17, 296), (5, 59, 2, mX5_areFactors, 3, 358, 359, 0, 17, 360), (5, 63, 2, mX5_isLimit, 1, 362, 363, 0, 17, 364), (5, 66, 0, mX0_defineLinear, 6, 365, 366, 367, 18, 368), (5, 70, 2, mX5_isNumber, 1, 340, 341, 0, 17, 342), (5, 73, 0, mX0_defineFact, 3, 343, 344, 345, 18, 346), (5, 77, 0, mX5_isDefined, 1, 376, 378, 10, 17, 379), (5, 80, 0, mX5_isDefinedOrAbsent, 1, 380, 382, 11, 17, 383), (5, 83, 0, mX2_add, 3, 384, 385, 386, 19, 387), (5, 86, 0, mX2_size, 0, 388, 389, 390, 19, 391), (5, 90, 0, mX2_raise, 0, 415, 416, 417, 19, 418), (5, 94, 0, mX2_level, 0, 419, 420, 421, 19, 422), (5, 97, 0, mX2_lower, 0, 432, 433, 434, 19, 435), (5, 100, 0, mX5_refresh, 0, 212, 214, 1, 17, 215), (5, 103, 0, mX5_isWorld, 1, 302, 304, 7, 17, 305), (5, 106, 0, mX0_defined, 0, 306, 307, 308, 18, 309), (5, 109, 2, mX5_holdsIn, 2, 427, 327, 0, 17, 328), (5, 113, 0, mX5_climb, 3, 443, 445, 12, 17, 446), (5, 116, 0, mX4_reducedOver, 0, 496, 497, 498, 22, 499), (5, 120, 0, mX4_reducedUnder, 0, 506, 507, 508, 22, 509), (5, 123, 0, mX4_isFound, 0, 510, 511, 512, 22, 513), (5, 126, 0, mX4_isReached, 0, 514, 515, 516, 22, 517), (5, 129, 0, mX4_isAtMost, 1, 526, 527, 528, 22, 529), (5, 132, 2, mX5_isWithin, 2, 361, 231, 0, 17, 232), (5, 139, 0, mX3_rebuild, 1, 216, 217, 218, 20, 219), (5, 143, 0, mX1_rebuild, 2, 247, 248, 249, 21, 250), (5, 146, 0, mX1_isOpenSomewhere, 1, 310, 311, 312, 21, 313), (5, 149, 0, mX2_areSatisfiedBy, 1, 318, 319, 320, 19, 321), (5, 152, 0, mX4_start, 3, 447, 448, 449, 22, 450), (5, 155, 0, mX5_climbWorld, 1, 451, 453, 13, 17, 454), (5, 159, 2, mX1_cellOf, 2, 455, 256, 0, 21, 257), (5, 163, 0, mX1_isOpen, 1, 456, 315, 316, 21, 317), (5, 166, 0, mX1_neededIn, 1, 457, 458, 459, 21, 460), (5, 170, 0, mX1_soughtIn, 1, 461, 462, 463, 21, 464), (5, 173, 0, mX4_include, 3, 465, 466, 467, 22, 468), (6, 7, 2, mX6_cell, 2, 329, 330, 0, 16, 331), (6, 13, 0, mX5_fact, 3, 335, 336, 337, 17, 338), (6, 19, 2, mX6_small, 1, 351, 352, 0, 16, 353), (6, 23, 0, mX5_linear, 6, 354, 355, 356, 17, 357), (6, 27, 0, mX5_clause, 3, 372, 373, 374, 17, 375), (6, 31, 0, mX5_world, 1, 395, 396, 397, 17, 398), (6, 35, 2, mX6_with, 1, 405, 406, 0, 16, 407), (6, 38, 0, mX5_push, 0, 411, 412, 413, 17, 414), (6, 42, 2, mX6_set, 2, 392, 393, 0, 16, 394), (6, 46, 0, mX5_holds, 1, 423, 424, 425, 17, 426), (6, 49, 0, mX5_pop, 0, 428, 429, 430, 17, 431), (6, 52, 0, mX5_most, 3, 439, 440, 441, 17, 442), (6, 55, 0, mX5_top, 1, 518, 519, 520, 17, 521), (6, 59, 0, mX5_bounded, 4, 522, 523, 524, 17, 525), (6, 63, 2, mX6_compare, 4, 530, 531, 0, 16, 532), (6, 67, 0, mX5_worlds, 0, 208, 209, 210, 17, 211), (6, 78, 4, mX5_init, 0, 26, 27, 0, 17, 28), (6, 79, 2, mX6_atoms, 2, 332, 333, 0, 16, 334), (6, 83, 2, mX6_clauses, 3, 369, 370, 0, 16, 371), (6, 87, 2, mX6_bits, 1, 399, 400, 0, 16, 401), (6, 90, 2, mX6_satisfied, 3, 402, 403, 0, 16, 404), (6, 94, 2, mX6_halves, 3, 408, 409, 0, 16, 410), (6, 98, 2, mX6_tops, 6, 436, 437, 0, 16, 438), (6, 102, 2, mX6_fixed, 3, 537, 538, 0, 16, 539)]
/-- constants of type long: class, entry, which (-99, 99, -98, 100), where the word stands -/
def LCT : List (Nat × Nat × Nat × Nat) := [(6, 70, 0, 533), (6, 72, 1, 534), (6, 74, 2, 535), (6, 76, 3, 536)]
def OLT : List (Nat × Nat × Nat) := [(0, 3, 37), (1, 3, 137), (2, 3, 73), (3, 3, 92), (4, 1, 154), (5, 3, 29)]
-- instanceMethod 30 code 31
-- abs: class 4 entry 72 at 503 static 504 init 23 code 505
-- arrayClass: arrayClass Jvm.ClassFile.FieldType.int 67, arrayClass Jvm.ClassFile.FieldType.boolean 148
-- laysStatic: laysStatic "RationDesk" "PAIR_LEFT" "[I" 94, laysStatic "RationDesk" "PAIR_RIGHT" "[I" 100, laysStatic "RationDesk" "GROUPS" "[I" 276
end
section
-- what the tables of part 01 say stands among the words
def GW : List Cond := lw_tbl.filter goodWord
theorem gw_at {i : Nat} {w : Cond} (h : lw_tbl[i]? = some w) (hg : goodWord w = true) : w ∈ GW := List.mem_filter.mpr ⟨List.mem_of_getElem? h, hg⟩
theorem gw_good : ∀ w ∈ GW, w ∈ GW ∧ ((w.onTables && w.keeps) = true ∨ ∃ ty, w = .arrayClass ty) := fun w h => ⟨h, good_of_word (List.mem_filter.mp h).2⟩
/-- a nest mate's words, which aren't among the good ones -/
def NW : List Cond := lw_tbl.filter (fun w => match w with
  | .fieldLinkNest .. => true
  | .methodLinkNest .. => true
  | _ => false)
theorem nw_f {i : Nat} {a b n d h : String} {k : Nat} (e : lw_tbl[i]? = some (.fieldLinkNest a k b n d h)) : Cond.fieldLinkNest a k b n d h ∈ NW := List.mem_filter.mpr ⟨List.mem_of_getElem? e, rfl⟩
theorem nw_m {i : Nat} {a h : String} {y : MethodName} {k : Nat} (e : lw_tbl[i]? = some (.methodLinkNest a k y h)) : Cond.methodLinkNest a k y h ∈ NW := List.mem_filter.mpr ⟨List.mem_of_getElem? e, rfl⟩
def flW (e : Nat × Nat × Nat × Nat × Nat × Bool) : Cond :=
  if e.2.2.2.2.2 = true then .fieldLinkNest (RN e.1) e.2.1 (TT e.2.2.1 e.2.2.2.1).1 (TT e.2.2.1 e.2.2.2.1).2.1 (TT e.2.2.1 e.2.2.2.1).2.2.1 "RationDesk"
  else .fieldLink (RN e.1) e.2.1 (TT e.2.2.1 e.2.2.2.1).1 (TT e.2.2.1 e.2.2.2.1).2.1 (TT e.2.2.1 e.2.2.2.1).2.2.1
theorem FL_ok : FL.all (fun e => decide (lw_tbl[e.2.2.2.2.1]? = some (flW e)) && decide (e.2.2.1 < 6) && decide (e.2.2.2.1 < nf e.2.2.1)) = true := by decide +kernel
def slName (t : Nat) : String := match t with
  | 100 => "PAIR_LEFT"
  | 101 => "PAIR_RIGHT"
  | _ => "GROUPS"
def slW (e : Nat × Nat × Nat × Nat × Bool) : Cond :=
  if e.2.2.2.2 = true then .fieldLinkNest (RN e.1) e.2.1 "RationDesk" (slName e.2.2.1) "[I" "RationDesk"
  else .fieldLink (RN e.1) e.2.1 "RationDesk" (slName e.2.2.1) "[I"
theorem SLT_ok : SLT.all (fun e => decide (lw_tbl[e.2.2.2.1]? = some (slW e)) && decide (e.2.2.1 = 100 ∨ e.2.2.1 = 101 ∨ e.2.2.1 = 102)) = true := by decide +kernel
theorem NLT_ok : NLT.all (fun e => decide (lw_tbl[e.2.2.2.1]? = some (.classLink (RN e.1) e.2.1 (RN e.2.2.1))) && decide (lw_tbl[e.2.2.2.2.1]? = some (.instantiable (RN e.2.2.1) (nf e.2.2.1))) && decide (lw_tbl[e.2.2.2.2.2]? = some (.initialized (RN e.2.2.1))) && decide (e.2.2.1 < 6)) = true := by decide +kernel
def clOk (e : Nat × Nat × Nat × MT × Nat × Nat × Nat × Nat × Nat × Nat) : Bool := match e with
  | (c, idx, kind, Y, n, p1, p2, p3, p4, p5) =>
    decide (lw_tbl[p1]? = some (if kind % 2 = 1 then .methodLinkNest (RN c) idx Y.1 "RationDesk" else .methodLink (RN c) idx Y.1)) &&
    decide (lw_tbl[p2]? = some (if kind / 2 = 1 then .static Y.1 else .instanceMethod Y.1)) &&
    (kind / 2 != 0 || decide (lw_tbl[p3]? = some (.selects Y.1.cls Y.1 Y.1))) &&
    decide (lw_tbl[p4]? = some (.initialized Y.1.cls)) &&
    decide (Y.1.cls = RN Y.2.2.2.2.2.2) && (kind / 2 == 1 || decide (Y.2.2.2.2.2.2 < 6)) &&
    decide (Y.1.cls ≠ "java/lang/invoke/MethodHandle" ∧ Y.1.cls ≠ "java/lang/invoke/VarHandle" ∧ (parseMethodDescriptor Y.1.desc).map (fun d => d.parameters.length) = some n) &&
    (kind / 2 != 2 || (decide (Y.1.name = "<init>") && decide (Y.2.2.2.1 = none)))
theorem CL_ok : CL.all clOk = true := by decide +kernel
def objWord (e : Nat × Nat × Nat) : Cond := .methodLink (RN e.1) e.2.1 objectInit
theorem OLT_ok : OLT.all (fun e => decide (lw_tbl[e.2.2]? = some (objWord e))) = true := by decide +kernel
theorem obj_ok : lw_tbl[30]? = some (.instanceMethod objectInit) ∧ lw_tbl[31]? = some (.code objectInit ⟨#[0xb1]⟩ 1 none) := by decide +kernel
theorem lay_ok : ∀ c, c < 6 → ∀ w ∈ u_ws (RN c) (TT c) (nf c), w ∈ GW := by
  have h : (List.range 6).all (fun c => (u_ws (RN c) (TT c) (nf c)).all (fun w => decide (w ∈ GW))) = true := by decide +kernel
  intro c hc w hw
  have h1 := List.all_eq_true.mp h c (List.mem_range.mpr hc)
  have h2 := List.all_eq_true.mp h1 w hw
  simpa using h2
theorem cl_at : ∀ c, c < 6 → vwCl[c]? = some (RN c, TT c, nf c) := by
  intro c hc
  rcases (show c = 0 ∨ c = 1 ∨ c = 2 ∨ c = 3 ∨ c = 4 ∨ c = 5 by omega) with rfl | rfl | rfl | rfl | rfl | rfl <;> rfl
theorem nm_ok : ∀ c, c < 6 → ∀ a, a < nf c → ∀ b, b < nf c → a ≠ b → (TT c a).2.1 ≠ (TT c b).2.1 := by decide +kernel
def tyT (c k : Nat) : FieldType := ((parseFieldDescriptor (TT c k).2.2.1)).getD .int
theorem tyT_ok : ∀ c, c < 6 → ∀ k, k < nf c → parseFieldDescriptor (TT c k).2.2.1 = some (tyT c k) := by decide +kernel
theorem arr_ok : lw_tbl[67]? = some (.arrayClass .int) ∧ lw_tbl[148]? = some (.arrayClass .boolean) := by decide +kernel
def lcv (k : Nat) : Int64 := match k with
  | 0 => -99
  | 1 => 99
  | 2 => -98
  | _ => 100
theorem LCT_ok : LCT.all (fun e => decide (lw_tbl[e.2.2.2]? = some (.constantLong (RN e.1) e.2.1 (lcv e.2.2.1)))) = true := by decide +kernel
set_option maxRecDepth 20000 in
theorem cwX0_init : Cond.code mX0_init.1 mX0_init.2.1 mX0_init.2.2.1 mX0_init.2.2.2.1 ∈ GW := gw_at (i := 36) rfl rfl
set_option maxRecDepth 20000 in
theorem cwX0_defined : Cond.code mX0_defined.1 mX0_defined.2.1 mX0_defined.2.2.1 mX0_defined.2.2.2.1 ∈ GW := gw_at (i := 309) rfl rfl
set_option maxRecDepth 20000 in
theorem cwX5_isAtom : Cond.code mX5_isAtom.1 mX5_isAtom.2.1 mX5_isAtom.2.2.1 mX5_isAtom.2.2.2.1 ∈ GW := gw_at (i := 296) rfl rfl
set_option maxRecDepth 20000 in
theorem cwX0_setPlane : Cond.code mX0_setPlane.1 mX0_setPlane.2.1 mX0_setPlane.2.2.1 mX0_setPlane.2.2.2.1 ∈ GW := gw_at (i := 350) rfl rfl
set_option maxRecDepth 20000 in
theorem cwX0_defineLinear : Cond.code mX0_defineLinear.1 mX0_defineLinear.2.1 mX0_defineLinear.2.2.1 mX0_defineLinear.2.2.2.1 ∈ GW := gw_at (i := 368) rfl rfl
set_option maxRecDepth 20000 in
theorem cwX0_defineFact : Cond.code mX0_defineFact.1 mX0_defineFact.2.1 mX0_defineFact.2.2.1 mX0_defineFact.2.2.2.1 ∈ GW := gw_at (i := 346) rfl rfl
set_option maxRecDepth 20000 in
theorem cwX5_onPlane : Cond.code mX5_onPlane.1 mX5_onPlane.2.1 mX5_onPlane.2.2.1 mX5_onPlane.2.2.2.1 ∈ GW := gw_at (i := 243) rfl rfl
set_option maxRecDepth 20000 in
theorem cwX5_side : Cond.code mX5_side.1 mX5_side.2.1 mX5_side.2.2.1 mX5_side.2.2.2.1 ∈ GW := gw_at (i := 246) rfl rfl
set_option maxRecDepth 20000 in
theorem cwX0_sidesNeeded : Cond.code mX0_sidesNeeded.1 mX0_sidesNeeded.2.1 mX0_sidesNeeded.2.2.1 mX0_sidesNeeded.2.2.2.1 ∈ GW := gw_at (i := 264) rfl rfl
set_option maxRecDepth 20000 in
theorem cwX0_sidesSought : Cond.code mX0_sidesSought.1 mX0_sidesSought.2.1 mX0_sidesSought.2.2.1 mX0_sidesSought.2.2.2.1 ∈ GW := gw_at (i := 281) rfl rfl
set_option maxRecDepth 20000 in
theorem cwX5_areEqual : Cond.code mX5_areEqual.1 mX5_areEqual.2.1 mX5_areEqual.2.2.1 mX5_areEqual.2.2.2.1 ∈ GW := gw_at (i := 274) rfl rfl
set_option maxRecDepth 20000 in
theorem cwX0_contradict : Cond.code mX0_contradict.1 mX0_contradict.2.1 mX0_contradict.2.2.1 mX0_contradict.2.2.2.1 ∈ GW := gw_at (i := 293) rfl rfl
set_option maxRecDepth 20000 in
theorem cwX0_hasFunction : Cond.code mX0_hasFunction.1 mX0_hasFunction.2.1 mX0_hasFunction.2.2.1 mX0_hasFunction.2.2.2.1 ∈ GW := gw_at (i := 289) rfl rfl
set_option maxRecDepth 20000 in
theorem cwX1_init : Cond.code mX1_init.1 mX1_init.2.1 mX1_init.2.2.1 mX1_init.2.2.2.1 ∈ GW := gw_at (i := 136) rfl rfl
set_option maxRecDepth 20000 in
theorem cwX1_cellOf : Cond.code mX1_cellOf.1 mX1_cellOf.2.1 mX1_cellOf.2.2.1 mX1_cellOf.2.2.2.1 ∈ GW := gw_at (i := 257) rfl rfl
set_option maxRecDepth 20000 in
theorem cwX1_isCell : Cond.code mX1_isCell.1 mX1_isCell.2.1 mX1_isCell.2.2.1 mX1_isCell.2.2.2.1 ∈ GW := gw_at (i := 260) rfl rfl
set_option maxRecDepth 20000 in
theorem cwX1_pairsNeeded : Cond.code mX1_pairsNeeded.1 mX1_pairsNeeded.2.1 mX1_pairsNeeded.2.2.1 mX1_pairsNeeded.2.2.2.1 ∈ GW := gw_at (i := 269) rfl rfl
set_option maxRecDepth 20000 in
theorem cwX1_pairsSought : Cond.code mX1_pairsSought.1 mX1_pairsSought.2.1 mX1_pairsSought.2.2.1 mX1_pairsSought.2.2.2.1 ∈ GW := gw_at (i := 284) rfl rfl
set_option maxRecDepth 20000 in
theorem cwX3_havePoint : Cond.code mX3_havePoint.1 mX3_havePoint.2.1 mX3_havePoint.2.2.1 mX3_havePoint.2.2.2.1 ∈ GW := gw_at (i := 301) rfl rfl
set_option maxRecDepth 20000 in
theorem cwX1_rebuildCell : Cond.code mX1_rebuildCell.1 mX1_rebuildCell.2.1 mX1_rebuildCell.2.2.1 mX1_rebuildCell.2.2.2.1 ∈ GW := gw_at (i := 254) rfl rfl
set_option maxRecDepth 20000 in
theorem cwX1_rebuild : Cond.code mX1_rebuild.1 mX1_rebuild.2.1 mX1_rebuild.2.2.1 mX1_rebuild.2.2.2.1 ∈ GW := gw_at (i := 250) rfl rfl
set_option maxRecDepth 20000 in
theorem cwX1_isOpen : Cond.code mX1_isOpen.1 mX1_isOpen.2.1 mX1_isOpen.2.2.1 mX1_isOpen.2.2.2.1 ∈ GW := gw_at (i := 317) rfl rfl
set_option maxRecDepth 20000 in
theorem cwX1_neededIn : Cond.code mX1_neededIn.1 mX1_neededIn.2.1 mX1_neededIn.2.2.1 mX1_neededIn.2.2.2.1 ∈ GW := gw_at (i := 460) rfl rfl
set_option maxRecDepth 20000 in
theorem cwX1_soughtIn : Cond.code mX1_soughtIn.1 mX1_soughtIn.2.1 mX1_soughtIn.2.2.1 mX1_soughtIn.2.2.2.1 ∈ GW := gw_at (i := 464) rfl rfl
set_option maxRecDepth 20000 in
theorem cwX1_isOpenSomewhere : Cond.code mX1_isOpenSomewhere.1 mX1_isOpenSomewhere.2.1 mX1_isOpenSomewhere.2.2.1 mX1_isOpenSomewhere.2.2.2.1 ∈ GW := gw_at (i := 313) rfl rfl
set_option maxRecDepth 20000 in
theorem cwX2_init : Cond.code mX2_init.1 mX2_init.2.1 mX2_init.2.2.1 mX2_init.2.2.2.1 ∈ GW := gw_at (i := 72) rfl rfl
set_option maxRecDepth 20000 in
theorem cwX2_size : Cond.code mX2_size.1 mX2_size.2.1 mX2_size.2.2.1 mX2_size.2.2.2.1 ∈ GW := gw_at (i := 391) rfl rfl
set_option maxRecDepth 20000 in
theorem cwX2_level : Cond.code mX2_level.1 mX2_level.2.1 mX2_level.2.2.1 mX2_level.2.2.2.1 ∈ GW := gw_at (i := 422) rfl rfl
set_option maxRecDepth 20000 in
theorem cwX2_add : Cond.code mX2_add.1 mX2_add.2.1 mX2_add.2.2.1 mX2_add.2.2.2.1 ∈ GW := gw_at (i := 387) rfl rfl
set_option maxRecDepth 20000 in
theorem cwX2_raise : Cond.code mX2_raise.1 mX2_raise.2.1 mX2_raise.2.2.1 mX2_raise.2.2.2.1 ∈ GW := gw_at (i := 418) rfl rfl
set_option maxRecDepth 20000 in
theorem cwX2_lower : Cond.code mX2_lower.1 mX2_lower.2.1 mX2_lower.2.2.1 mX2_lower.2.2.2.1 ∈ GW := gw_at (i := 435) rfl rfl
set_option maxRecDepth 20000 in
theorem cwX5_holdsIn : Cond.code mX5_holdsIn.1 mX5_holdsIn.2.1 mX5_holdsIn.2.2.1 mX5_holdsIn.2.2.2.1 ∈ GW := gw_at (i := 328) rfl rfl
set_option maxRecDepth 20000 in
theorem cwX2_isSatisfiedBy : Cond.code mX2_isSatisfiedBy.1 mX2_isSatisfiedBy.2.1 mX2_isSatisfiedBy.2.2.1 mX2_isSatisfiedBy.2.2.2.1 ∈ GW := gw_at (i := 325) rfl rfl
set_option maxRecDepth 20000 in
theorem cwX2_areSatisfiedBy : Cond.code mX2_areSatisfiedBy.1 mX2_areSatisfiedBy.2.1 mX2_areSatisfiedBy.2.2.1 mX2_areSatisfiedBy.2.2.2.1 ∈ GW := gw_at (i := 321) rfl rfl
set_option maxRecDepth 20000 in
theorem cwX3_addTo : Cond.code mX3_addTo.1 mX3_addTo.2.1 mX3_addTo.2.2.1 mX3_addTo.2.2.2.1 ∈ GW := gw_at (i := 98) rfl rfl
set_option maxRecDepth 20000 in
theorem cwX3_init : Cond.code mX3_init.1 mX3_init.2.1 mX3_init.2.2.1 mX3_init.2.2.2.1 ∈ GW := gw_at (i := 91) rfl rfl
set_option maxRecDepth 20000 in
theorem cwX3_count : Cond.code mX3_count.1 mX3_count.2.1 mX3_count.2.2.1 mX3_count.2.2.2.1 ∈ GW := gw_at (i := 476) rfl rfl
set_option maxRecDepth 20000 in
theorem cwX3_sidesOf : Cond.code mX3_sidesOf.1 mX3_sidesOf.2.1 mX3_sidesOf.2.2.1 mX3_sidesOf.2.2.2.1 ∈ GW := gw_at (i := 480) rfl rfl
set_option maxRecDepth 20000 in
theorem cwX3_divisorOf : Cond.code mX3_divisorOf.1 mX3_divisorOf.2.1 mX3_divisorOf.2.2.1 mX3_divisorOf.2.2.2.1 ∈ GW := gw_at (i := 488) rfl rfl
set_option maxRecDepth 20000 in
theorem cwX3_sumAt : Cond.code mX3_sumAt.1 mX3_sumAt.2.1 mX3_sumAt.2.2.1 mX3_sumAt.2.2.2.1 ∈ GW := gw_at (i := 484) rfl rfl
set_option maxRecDepth 20000 in
theorem cwX3_isPlane : Cond.code mX3_isPlane.1 mX3_isPlane.2.1 mX3_isPlane.2.2.1 mX3_isPlane.2.2.2.1 ∈ GW := gw_at (i := 229) rfl rfl
set_option maxRecDepth 20000 in
theorem cwX3_determinant : Cond.code mX3_determinant.1 mX3_determinant.2.1 mX3_determinant.2.2.1 mX3_determinant.2.2.2.1 ∈ GW := gw_at (i := 226) rfl rfl
set_option maxRecDepth 20000 in
theorem cwX3_findSides : Cond.code mX3_findSides.1 mX3_findSides.2.1 mX3_findSides.2.2.1 mX3_findSides.2.2.2.1 ∈ GW := gw_at (i := 240) rfl rfl
set_option maxRecDepth 20000 in
theorem cwX3_keep : Cond.code mX3_keep.1 mX3_keep.2.1 mX3_keep.2.2.1 mX3_keep.2.2.2.1 ∈ GW := gw_at (i := 236) rfl rfl
set_option maxRecDepth 20000 in
theorem cwX5_isWithin : Cond.code mX5_isWithin.1 mX5_isWithin.2.1 mX5_isWithin.2.2.1 mX5_isWithin.2.2.2.1 ∈ GW := gw_at (i := 232) rfl rfl
set_option maxRecDepth 20000 in
theorem cwX3_meet : Cond.code mX3_meet.1 mX3_meet.2.1 mX3_meet.2.2.1 mX3_meet.2.2.2.1 ∈ GW := gw_at (i := 223) rfl rfl
set_option maxRecDepth 20000 in
theorem cwX3_rebuild : Cond.code mX3_rebuild.1 mX3_rebuild.2.1 mX3_rebuild.2.2.1 mX3_rebuild.2.2.2.1 ∈ GW := gw_at (i := 219) rfl rfl
set_option maxRecDepth 20000 in
theorem cwX4_init : Cond.code mX4_init.1 mX4_init.2.1 mX4_init.2.2.1 mX4_init.2.2.2.1 ∈ GW := gw_at (i := 153) rfl rfl
set_option maxRecDepth 20000 in
theorem cwX4_start : Cond.code mX4_start.1 mX4_start.2.1 mX4_start.2.2.1 mX4_start.2.2.2.1 ∈ GW := gw_at (i := 450) rfl rfl
set_option maxRecDepth 20000 in
theorem cwX4_isFound : Cond.code mX4_isFound.1 mX4_isFound.2.1 mX4_isFound.2.2.1 mX4_isFound.2.2.2.1 ∈ GW := gw_at (i := 513) rfl rfl
set_option maxRecDepth 20000 in
theorem cwX4_isReached : Cond.code mX4_isReached.1 mX4_isReached.2.1 mX4_isReached.2.2.1 mX4_isReached.2.2.2.1 ∈ GW := gw_at (i := 517) rfl rfl
set_option maxRecDepth 20000 in
theorem cwX4_isAtMost : Cond.code mX4_isAtMost.1 mX4_isAtMost.2.1 mX4_isAtMost.2.2.1 mX4_isAtMost.2.2.2.1 ∈ GW := gw_at (i := 529) rfl rfl
set_option maxRecDepth 20000 in
theorem cwX4_compare : Cond.code mX4_compare.1 mX4_compare.2.1 mX4_compare.2.2.1 mX4_compare.2.2.2.1 ∈ GW := gw_at (i := 495) rfl rfl
set_option maxRecDepth 20000 in
theorem cwX4_climbCorner : Cond.code mX4_climbCorner.1 mX4_climbCorner.2.1 mX4_climbCorner.2.2.1 mX4_climbCorner.2.2.2.1 ∈ GW := gw_at (i := 492) rfl rfl
set_option maxRecDepth 20000 in
theorem cwX4_climbCell : Cond.code mX4_climbCell.1 mX4_climbCell.2.1 mX4_climbCell.2.2.1 mX4_climbCell.2.2.2.1 ∈ GW := gw_at (i := 472) rfl rfl
set_option maxRecDepth 20000 in
theorem cwX4_include : Cond.code mX4_include.1 mX4_include.2.1 mX4_include.2.2.1 mX4_include.2.2.2.1 ∈ GW := gw_at (i := 468) rfl rfl
set_option maxRecDepth 20000 in
theorem cwX4_commonDivisor : Cond.code mX4_commonDivisor.1 mX4_commonDivisor.2.1 mX4_commonDivisor.2.2.1 mX4_commonDivisor.2.2.2.1 ∈ GW := gw_at (i := 502) rfl rfl
set_option maxRecDepth 20000 in
theorem cwX4_reducedOver : Cond.code mX4_reducedOver.1 mX4_reducedOver.2.1 mX4_reducedOver.2.2.1 mX4_reducedOver.2.2.2.1 ∈ GW := gw_at (i := 499) rfl rfl
set_option maxRecDepth 20000 in
theorem cwX4_reducedUnder : Cond.code mX4_reducedUnder.1 mX4_reducedUnder.2.1 mX4_reducedUnder.2.2.1 mX4_reducedUnder.2.2.2.1 ∈ GW := gw_at (i := 509) rfl rfl
set_option maxRecDepth 20000 in
theorem cwX5_init : Cond.code mX5_init.1 mX5_init.2.1 mX5_init.2.2.1 mX5_init.2.2.2.1 ∈ GW := gw_at (i := 28) rfl rfl
set_option maxRecDepth 20000 in
theorem cwX5_areFactors : Cond.code mX5_areFactors.1 mX5_areFactors.2.1 mX5_areFactors.2.2.1 mX5_areFactors.2.2.2.1 ∈ GW := gw_at (i := 360) rfl rfl
set_option maxRecDepth 20000 in
theorem cwX5_isLimit : Cond.code mX5_isLimit.1 mX5_isLimit.2.1 mX5_isLimit.2.2.1 mX5_isLimit.2.2.2.1 ∈ GW := gw_at (i := 364) rfl rfl
set_option maxRecDepth 20000 in
theorem cwX5_linear : Cond.code mX5_linear.1 mX5_linear.2.1 mX5_linear.2.2.1 mX5_linear.2.2.2.1 ∈ GW := gw_at (i := 357) rfl rfl
set_option maxRecDepth 20000 in
theorem cwX5_isNumber : Cond.code mX5_isNumber.1 mX5_isNumber.2.1 mX5_isNumber.2.2.1 mX5_isNumber.2.2.2.1 ∈ GW := gw_at (i := 342) rfl rfl
set_option maxRecDepth 20000 in
theorem cwX5_fact : Cond.code mX5_fact.1 mX5_fact.2.1 mX5_fact.2.2.1 mX5_fact.2.2.2.1 ∈ GW := gw_at (i := 338) rfl rfl
set_option maxRecDepth 20000 in
theorem cwX5_isDefined : Cond.code mX5_isDefined.1 mX5_isDefined.2.1 mX5_isDefined.2.2.1 mX5_isDefined.2.2.2.1 ∈ GW := gw_at (i := 379) rfl rfl
set_option maxRecDepth 20000 in
theorem cwX5_isDefinedOrAbsent : Cond.code mX5_isDefinedOrAbsent.1 mX5_isDefinedOrAbsent.2.1 mX5_isDefinedOrAbsent.2.2.1 mX5_isDefinedOrAbsent.2.2.2.1 ∈ GW := gw_at (i := 383) rfl rfl
set_option maxRecDepth 20000 in
theorem cwX5_clause : Cond.code mX5_clause.1 mX5_clause.2.1 mX5_clause.2.2.1 mX5_clause.2.2.2.1 ∈ GW := gw_at (i := 375) rfl rfl
set_option maxRecDepth 20000 in
theorem cwX5_push : Cond.code mX5_push.1 mX5_push.2.1 mX5_push.2.2.1 mX5_push.2.2.2.1 ∈ GW := gw_at (i := 414) rfl rfl
set_option maxRecDepth 20000 in
theorem cwX5_pop : Cond.code mX5_pop.1 mX5_pop.2.1 mX5_pop.2.2.1 mX5_pop.2.2.2.1 ∈ GW := gw_at (i := 431) rfl rfl
set_option maxRecDepth 20000 in
theorem cwX5_isWorld : Cond.code mX5_isWorld.1 mX5_isWorld.2.1 mX5_isWorld.2.2.1 mX5_isWorld.2.2.2.1 ∈ GW := gw_at (i := 305) rfl rfl
set_option maxRecDepth 20000 in
theorem cwX5_refresh : Cond.code mX5_refresh.1 mX5_refresh.2.1 mX5_refresh.2.2.1 mX5_refresh.2.2.2.1 ∈ GW := gw_at (i := 215) rfl rfl
set_option maxRecDepth 20000 in
theorem cwX5_worlds : Cond.code mX5_worlds.1 mX5_worlds.2.1 mX5_worlds.2.2.1 mX5_worlds.2.2.2.1 ∈ GW := gw_at (i := 211) rfl rfl
set_option maxRecDepth 20000 in
theorem cwX5_world : Cond.code mX5_world.1 mX5_world.2.1 mX5_world.2.2.1 mX5_world.2.2.2.1 ∈ GW := gw_at (i := 398) rfl rfl
set_option maxRecDepth 20000 in
theorem cwX5_holds : Cond.code mX5_holds.1 mX5_holds.2.1 mX5_holds.2.2.1 mX5_holds.2.2.2.1 ∈ GW := gw_at (i := 426) rfl rfl
set_option maxRecDepth 20000 in
theorem cwX5_climbWorld : Cond.code mX5_climbWorld.1 mX5_climbWorld.2.1 mX5_climbWorld.2.2.1 mX5_climbWorld.2.2.2.1 ∈ GW := gw_at (i := 454) rfl rfl
set_option maxRecDepth 20000 in
theorem cwX5_climb : Cond.code mX5_climb.1 mX5_climb.2.1 mX5_climb.2.2.1 mX5_climb.2.2.2.1 ∈ GW := gw_at (i := 446) rfl rfl
set_option maxRecDepth 20000 in
theorem cwX5_most : Cond.code mX5_most.1 mX5_most.2.1 mX5_most.2.2.1 mX5_most.2.2.2.1 ∈ GW := gw_at (i := 442) rfl rfl
set_option maxRecDepth 20000 in
theorem cwX5_top : Cond.code mX5_top.1 mX5_top.2.1 mX5_top.2.2.1 mX5_top.2.2.2.1 ∈ GW := gw_at (i := 521) rfl rfl
set_option maxRecDepth 20000 in
theorem cwX5_bounded : Cond.code mX5_bounded.1 mX5_bounded.2.1 mX5_bounded.2.2.1 mX5_bounded.2.2.2.1 ∈ GW := gw_at (i := 525) rfl rfl
set_option maxRecDepth 20000 in
theorem cwX6_cell : Cond.code mX6_cell.1 mX6_cell.2.1 mX6_cell.2.2.1 mX6_cell.2.2.2.1 ∈ GW := gw_at (i := 331) rfl rfl
set_option maxRecDepth 20000 in
theorem cwX6_small : Cond.code mX6_small.1 mX6_small.2.1 mX6_small.2.2.1 mX6_small.2.2.2.1 ∈ GW := gw_at (i := 353) rfl rfl
set_option maxRecDepth 20000 in
theorem cwX6_atoms : Cond.code mX6_atoms.1 mX6_atoms.2.1 mX6_atoms.2.2.1 mX6_atoms.2.2.2.1 ∈ GW := gw_at (i := 334) rfl rfl
set_option maxRecDepth 20000 in
theorem cwX6_clauses : Cond.code mX6_clauses.1 mX6_clauses.2.1 mX6_clauses.2.2.1 mX6_clauses.2.2.2.1 ∈ GW := gw_at (i := 371) rfl rfl
set_option maxRecDepth 20000 in
theorem cwX6_set : Cond.code mX6_set.1 mX6_set.2.1 mX6_set.2.2.1 mX6_set.2.2.2.1 ∈ GW := gw_at (i := 394) rfl rfl
set_option maxRecDepth 20000 in
theorem cwX6_bits : Cond.code mX6_bits.1 mX6_bits.2.1 mX6_bits.2.2.1 mX6_bits.2.2.2.1 ∈ GW := gw_at (i := 401) rfl rfl
set_option maxRecDepth 20000 in
theorem cwX6_with : Cond.code mX6_with.1 mX6_with.2.1 mX6_with.2.2.1 mX6_with.2.2.2.1 ∈ GW := gw_at (i := 407) rfl rfl
set_option maxRecDepth 20000 in
theorem cwX6_satisfied : Cond.code mX6_satisfied.1 mX6_satisfied.2.1 mX6_satisfied.2.2.1 mX6_satisfied.2.2.2.1 ∈ GW := gw_at (i := 404) rfl rfl
set_option maxRecDepth 20000 in
theorem cwX6_halves : Cond.code mX6_halves.1 mX6_halves.2.1 mX6_halves.2.2.1 mX6_halves.2.2.2.1 ∈ GW := gw_at (i := 410) rfl rfl
set_option maxRecDepth 20000 in
theorem cwX6_compare : Cond.code mX6_compare.1 mX6_compare.2.1 mX6_compare.2.2.1 mX6_compare.2.2.2.1 ∈ GW := gw_at (i := 532) rfl rfl
set_option maxRecDepth 20000 in
theorem cwX6_tops : Cond.code mX6_tops.1 mX6_tops.2.1 mX6_tops.2.2.1 mX6_tops.2.2.2.1 ∈ GW := gw_at (i := 438) rfl rfl
set_option maxRecDepth 20000 in
theorem cwX6_fixed : Cond.code mX6_fixed.1 mX6_fixed.2.1 mX6_fixed.2.2.1 mX6_fixed.2.2.2.1 ∈ GW := gw_at (i := 539) rfl rfl
end
section
/-! ===== a machine of our own: objects by number in the order in which they are made; what it says, the JVM does (part 04, 05) ===== -/
abbrev Mem : Type := (Nat → Nat → Int32) × (Nat → Nat → Int64) × (Nat → Nat → Value)
def u2 {α : Type} (f : Nat → Nat → α) (o k : Nat) (v : α) : Nat → Nat → α := fun o' k' => if o' = o ∧ k' = k then v else f o' k'
theorem u2_s {α : Type} {f : Nat → Nat → α} {o k : Nat} {v : α} : u2 f o k v o k = v := if_pos ⟨rfl, rfl⟩
theorem u2_o {α : Type} {f : Nat → Nat → α} {o k o' k' : Nat} {v : α} (h : o' ≠ o) : u2 f o k v o' k' = f o' k' := if_neg fun q => h q.1
theorem u2_k {α : Type} {f : Nat → Nat → α} {o k o' k' : Nat} {v : α} (h : k' ≠ k) : u2 f o k v o' k' = f o' k' := if_neg fun q => h q.2
def shg : List (Nat ⊕ (Bool × Nat)) → Nat → Option (Nat ⊕ (Bool × Nat))
  | [], _ => none
  | a :: _, 0 => some a
  | _ :: r, k + 1 => shg r k
def lget : List Value → Nat → Value
  | [], _ => .null
  | v :: _, 0 => v
  | _ :: r, k + 1 => lget r k
def lset : List Value → Nat → Value → List Value
  | [], _, _ => []
  | _ :: r, 0, v => v :: r
  | a :: r, k + 1, v => a :: lset r k v
/-- constants as they are written -/
def c32n (n : Nat) : Int32 := match n with
  | 0 => 0
  | 1 => 1
  | 2 => 2
  | 3 => 3
  | 4 => 4
  | 5 => 5
  | 6 => 6
  | 7 => 7
  | 8 => 8
  | 9 => 9
  | 10 => 10
  | 14 => 14
  | 15 => 15
  | 16 => 16
  | 20 => 20
  | 24 => 24
  | 31 => 31
  | 32 => 32
  | 99 => 99
  | 160 => 160
  | 11 => 11
  | 12 => 12
  | 18 => 18
  | 19 => 19
  | 23 => 23
  | 63 => 63
  | 255 => 255
  | 364 => 364
  | 1000 => 1000
  | n => Int32.ofInt (n : Int)
def c32 (n : Int) : Int32 := match n with
  | .ofNat k => c32n k
  | .negSucc 0 => -1
  | .negSucc 1 => -2
  | .negSucc 19 => -20
  | .negSucc 8 => -9
  | .negSucc 98 => -99
  | n => Int32.ofInt n
theorem c32_eq (n : Int) : Int32.ofInt n = c32 n := by
  unfold c32
  split
  · rename_i k
    unfold c32n
    split <;> first | rfl | decide
  all_goals first | rfl | decide
abbrev ST : Type := List Nat × List Value × List Value × Mem
def rdf (M : Mem) (ci o k : Nat) : Value := match fty ci k with
  | 1 => .long (M.2.1 o k)
  | 2 => M.2.2 o k
  | _ => .int (M.1 o k)
def x_push (v : Value) (s : ST) : Option (ST × Option Prop) := some ((s.1, s.2.1, v :: s.2.2.1, s.2.2.2), none)
def x_ii (f : Int32 → Int32 → Int32) (s : ST) : Option (ST × Option Prop) := match s.2.2.1 with
  | .int y :: .int x :: r => some ((s.1, s.2.1, .int (f x y) :: r, s.2.2.2), none)
  | _ => none
def x_iid (f : Int32 → Int32 → Int32) (s : ST) : Option (ST × Option Prop) := match s.2.2.1 with
  | .int y :: .int x :: r => some ((s.1, s.2.1, .int (f x y) :: r, s.2.2.2), some (¬ y = 0))
  | _ => none
def x_ll (f : Int64 → Int64 → Int64) (s : ST) : Option (ST × Option Prop) := match s.2.2.1 with
  | .long y :: .long x :: r => some ((s.1, s.2.1, .long (f x y) :: r, s.2.2.2), none)
  | _ => none
def x_lld (f : Int64 → Int64 → Int64) (s : ST) : Option (ST × Option Prop) := match s.2.2.1 with
  | .long y :: .long x :: r => some ((s.1, s.2.1, .long (f x y) :: r, s.2.2.2), some (¬ y = 0))
  | _ => none
def x_lcmp (s : ST) : Option (ST × Option Prop) := match s.2.2.1 with
  | .long y :: .long x :: r => some ((s.1, s.2.1, .int (lg_cmp x y) :: r, s.2.2.2), none)
  | _ => none
def x_i (f : Int32 → Value) (s : ST) : Option (ST × Option Prop) := match s.2.2.1 with
  | .int x :: r => some ((s.1, s.2.1, f x :: r, s.2.2.2), none)
  | _ => none
def x_l (f : Int64 → Value) (s : ST) : Option (ST × Option Prop) := match s.2.2.1 with
  | .long x :: r => some ((s.1, s.2.1, f x :: r, s.2.2.2), none)
  | _ => none
def x_iload (k : Nat) (s : ST) : Option (ST × Option Prop) := match lget s.2.1 k with
  | .int x => x_push (.int x) s
  | _ => none
def x_aload (k : Nat) (s : ST) : Option (ST × Option Prop) := match lget s.2.1 k with
  | .ref x => x_push (.ref x) s
  | _ => none
def x_lload (k : Nat) (s : ST) : Option (ST × Option Prop) := match lget s.2.1 k, lget s.2.1 (k + 1) with
  | .long x, .null => x_push (.long x) s
  | _, _ => none
def x_istore (mL k : Nat) (s : ST) : Option (ST × Option Prop) := match s.2.2.1 with
  | .int x :: r => if k < mL then some ((s.1, lset s.2.1 k (.int x), r, s.2.2.2), none) else none
  | _ => none
def x_astore (mL k : Nat) (s : ST) : Option (ST × Option Prop) := match s.2.2.1 with
  | .ref x :: r => if k < mL then some ((s.1, lset s.2.1 k (.ref x), r, s.2.2.2), none) else none
  | _ => none
def x_lstore (mL k : Nat) (s : ST) : Option (ST × Option Prop) := match s.2.2.1 with
  | .long x :: r => if k + 1 < mL then some ((s.1, lset (lset s.2.1 k (.long x)) (k + 1) .null, r, s.2.2.2), none) else none
  | _ => none
def x_iinc (mL k : Nat) (n : Int) (s : ST) : Option (ST × Option Prop) := match lget s.2.1 k with
  | .int x => if k < mL then some ((s.1, lset s.2.1 k (.int (x + c32 n)), s.2.2.1, s.2.2.2), none) else none
  | _ => none
def cat1 (v : Value) : Bool := match v with
  | .int _ => true
  | .ref _ => true
  | _ => false
def x_dup (s : ST) : Option (ST × Option Prop) := match s.2.2.1 with
  | v :: r => if cat1 v = true then some ((s.1, s.2.1, v :: v :: r, s.2.2.2), none) else none
  | _ => none
def x_dupx1 (s : ST) : Option (ST × Option Prop) := match s.2.2.1 with
  | v :: w :: r => if (cat1 v && cat1 w) = true then some ((s.1, s.2.1, v :: w :: v :: r, s.2.2.2), none) else none
  | _ => none
def x_dup2 (s : ST) : Option (ST × Option Prop) := match s.2.2.1 with
  | v :: w :: r => if (cat1 v && cat1 w) = true then some ((s.1, s.2.1, v :: w :: v :: w :: r, s.2.2.2), none) else none
  | _ => none
def x_get (ci k : Nat) (n : Nat) (s : ST) : Option (ST × Option Prop) := match s.2.2.1 with
  | .ref o :: r => match shg SHL o with
    | some (.inl c) => if c = ci ∧ o < n then some ((s.1, s.2.1, rdf s.2.2.2 ci o k :: r, s.2.2.2), none) else none
    | _ => none
  | _ => none
def x_put (ci k : Nat) (n : Nat) (s : ST) : Option (ST × Option Prop) := match s.2.2.1 with
  | v :: .ref o :: r => match shg SHL o with
    | some (.inl c) => if c = ci ∧ o < n then (match fty ci k, v with
      | 0, .int x => some ((s.1, s.2.1, r, (u2 s.2.2.2.1 o k x, s.2.2.2.2)), none)
      | 3, .int x => some ((s.1, s.2.1, r, (u2 s.2.2.2.1 o k x, s.2.2.2.2)), some (x = 0 ∨ x = 1))
      | 1, .long x => some ((s.1, s.2.1, r, (s.2.2.2.1, u2 s.2.2.2.2.1 o k x, s.2.2.2.2.2)), none)
      | 2, .ref x => some ((s.1, s.2.1, r, (s.2.2.2.1, s.2.2.2.2.1, u2 s.2.2.2.2.2 o k (.ref x))), none)
      | _, _ => none) else none
    | _ => none
  | _ => none
abbrev RO : Type := Nat → Option (Nat × (Nat → Int32))
def x_ald (bo : Bool) (ro : RO) (n : Nat) (s : ST) : Option (ST × Option Prop) := match s.2.2.1, s.1 with
  | .int i :: .ref o :: r, h :: hs => match ro o with
    | some (N, f) => if bo = false then some ((hs, s.2.1, .int (f h) :: r, s.2.2.2), some (i = nI h ∧ h < N)) else none
    | none => match shg SHL o with
      | some (.inr (b, N)) => if b = bo ∧ o < n then some ((hs, s.2.1, .int (s.2.2.2.1 o h) :: r, s.2.2.2), some (i = nI h ∧ h < N)) else none
      | _ => none
  | _, _ => none
def x_ast (bo : Bool) (n : Nat) (s : ST) : Option (ST × Option Prop) := match s.2.2.1, s.1 with
  | .int x :: .int i :: .ref o :: r, h :: hs => match shg SHL o with
    | some (.inr (b, N)) => if b = bo ∧ o < n then some ((hs, s.2.1, r, (u2 s.2.2.2.1 o h x, s.2.2.2.2)), some (match bo with
      | true => i = nI h ∧ h < N ∧ (x = 0 ∨ x = 1)
      | false => i = nI h ∧ h < N)) else none
    | _ => none
  | _, _ => none
def x_alen (ro : RO) (n : Nat) (s : ST) : Option (ST × Option Prop) := match s.2.2.1 with
  | .ref o :: r => match ro o with
    | some (N, _) => some ((s.1, s.2.1, .int (nI N) :: r, s.2.2.2), none)
    | none => match shg SHL o with
      | some (.inr (_, N)) => if o < n then some ((s.1, s.2.1, .int (nI N) :: r, s.2.2.2), none) else none
      | _ => none
  | _ => none
/-- one instruction; a, b: what the pool's entry says (a field's class and place; the number of a static row); the hints: where a row is read or written -/
def ex1 (ro : RO) (mL n : Nat) (i : Instr) (a b : Nat) (s : ST) : Option (ST × Option Prop) := match i with
  | .iconst z => x_push (.int (c32 z)) s
  | .bipush z => x_push (.int (c32 z)) s
  | .sipush z => x_push (.int (c32 z)) s
  | .lconst z => x_push (.long (if z = 0 then 0 else 1)) s
  | .iload k => x_iload k s
  | .iload_n k => x_iload k.val s
  | .aload k => x_aload k s
  | .aload_n k => x_aload k.val s
  | .lload k => x_lload k s
  | .lload_n k => x_lload k.val s
  | .istore k => x_istore mL k s
  | .istore_n k => x_istore mL k.val s
  | .astore k => x_astore mL k s
  | .astore_n k => x_astore mL k.val s
  | .lstore k => x_lstore mL k s
  | .lstore_n k => x_lstore mL k.val s
  | .iinc k z => x_iinc mL k z s
  | .iadd => x_ii (fun x y => x + y) s
  | .isub => x_ii (fun x y => x - y) s
  | .imul => x_ii (fun x y => x * y) s
  | .iand => x_ii (fun x y => x &&& y) s
  | .ior => x_ii (fun x y => x ||| y) s
  | .ixor => x_ii (fun x y => x ^^^ y) s
  | .ishl => x_ii (fun x y => x <<< (y &&& 31)) s
  | .ishr => x_ii (fun x y => x >>> (y &&& 31)) s
  | .iushr => x_ii (fun x y => (x.toUInt32 >>> (y.toUInt32 &&& Int32.toUInt32 31)).toInt32) s
  | .l2i => x_l (fun x => .int x.toInt32) s
  | .ldc2_w _ => x_push (.long (lcv a)) s
  | .idiv => x_iid (fun x y => x / y) s
  | .irem => x_iid (fun x y => x - x / y * y) s
  | .ineg => x_i (fun x => .int (-x)) s
  | .i2l => x_i (fun x => .long x.toInt64) s
  | .ladd => x_ll (fun x y => x + y) s
  | .lsub => x_ll (fun x y => x - y) s
  | .lmul => x_ll (fun x y => x * y) s
  | .ldiv => x_lld (fun x y => x / y) s
  | .lrem => x_lld (fun x y => x - x / y * y) s
  | .lneg => x_l (fun x => .long (-x)) s
  | .lcmp => x_lcmp s
  | .dup => x_dup s
  | .dup_x1 => x_dupx1 s
  | .dup2 => x_dup2 s
  | .getfield _ => x_get a b n s
  | .putfield _ => x_put a b n s
  | .getstatic _ => x_push (.ref a) s
  | .iaload => x_ald false ro n s
  | .baload => x_ald true ro n s
  | .iastore => x_ast false n s
  | .bastore => x_ast true n s
  | .arraylength => x_alen ro n s
  | _ => none
def andc : Option Prop → Prop → Prop
  | none, C => C
  | some c, C => c ∧ C
abbrev Blk : Type := List (Instr × Nat × Nat)
def exL (ro : RO) (mL n : Nat) : Blk → ST → Option (ST × Prop)
  | [], s => some (s, True)
  | i :: r, s => match ex1 ro mL n i.1 i.2.1 i.2.2 s with
    | none => none
    | some (s1, c1) => match exL ro mL n r s1 with
      | none => none
      | some (s2, c2) => some (s2, andc c1 c2)
/-- the pool's entries are as the block says -/
def annOk (cn : Nat) (ini : Bool) (i : Instr) (a b : Nat) : Bool := match i with
  | .getfield x => FL.any (fun e => e.1 == cn && e.2.1 == x && e.2.2.1 == a && e.2.2.2.1 == b)
  | .putfield x => FL.any (fun e => e.1 == cn && e.2.1 == x && e.2.2.1 == a && e.2.2.2.1 == b && e.2.2.2.2.2 == false) && ((TT a b).2.2.2 == false || (ini && a == cn))
  | .ldc2_w x => LCT.any (fun e => e.1 == cn && e.2.1 == x && e.2.2.1 == a)
  | .getstatic x => SLT.any (fun e => e.1 == cn && e.2.1 == x && e.2.2.1 == a)
  | .bipush z => decide ((Int8.ofInt z).toInt32 = c32 z)
  | .sipush z => decide ((Int16.ofInt z).toInt32 = c32 z)
  | _ => true
def okd (cc : ByteArray) (pc : Nat) (i : Instr) (k : Nat) : Bool := match decode cc pc with
  | .ok (j, l) => decide (j = i) && decide (l = k)
  | .error _ => false
theorem okd_eq {cc : ByteArray} {pc : Nat} {i : Instr} {k : Nat} (h : okd cc pc i k = true) : decode cc pc = .ok (i, k) := by
  unfold okd at h
  cases hd : decode cc pc with
  | error x => rw [hd] at h; cases h
  | ok v =>
    obtain ⟨j, l⟩ := v
    rw [hd] at h
    simp only [Bool.and_eq_true, decide_eq_true_eq] at h
    rw [h.1, h.2]
def ilen (i : Instr) : Nat := match i with
  | .iload _ => 2
  | .aload _ => 2
  | .lload _ => 2
  | .istore _ => 2
  | .astore _ => 2
  | .lstore _ => 2
  | .bipush _ => 2
  | .sipush _ => 3
  | .iinc _ _ => 3
  | .getfield _ => 3
  | .putfield _ => 3
  | .getstatic _ => 3
  | .ldc2_w _ => 3
  | _ => 1
def codeAt (cc : ByteArray) (cn : Nat) (ini : Bool) : Nat → Blk → Option Nat
  | pc, [] => some pc
  | pc, i :: r => if (okd cc pc i.1 (ilen i.1) && annOk cn ini i.1 i.2.1 i.2.2) = true then codeAt cc cn ini (pc + ilen i.1) r else none
/-- the locals: what a list says of them ('.null': nothing, or a long's second half) -/
def clm (L : List Value) (i : Nat) (v : Value) : Prop := lget L i = v ∧ ((∃ x, v = .int x) ∨ (∃ x, v = .ref x) ∨ (∃ x, v = .long x) ∧ lget L (i + 1) = .null)
def rv (ad : Nat → Nat) (v : Value) : Value := match v with
  | .ref o => .ref (ad o)
  | v => v
def lr (ad : Nat → Nat) (ls : Array Slot) (nL : Nat) (L : List Value) : Prop := ls.size = nL ∧ lv_wf ls ∧ L.length = nL ∧ ∀ (i : Nat) (v : Value), clm L i v → ls[i]? = some (.val (rv ad v))
theorem lget_set {L : List Value} {k : Nat} {v : Value} (h : k < L.length) (i : Nat) : lget (lset L k v) i = if i = k then v else lget L i := by
  induction L generalizing k i with
  | nil => simp at h
  | cons a r ih =>
    cases k with
    | zero =>
      cases i with
      | zero => rfl
      | succ i => rfl
    | succ k =>
      cases i with
      | zero => simp [lset, lget]
      | succ i =>
        have := ih (k := k) (by simpa using h) i
        simp only [lset, lget, this, Nat.add_right_cancel_iff]
theorem lset_len {L : List Value} {k : Nat} {v : Value} : (lset L k v).length = L.length := by
  induction L generalizing k with
  | nil => rfl
  | cons a r ih =>
    cases k with
    | zero => rfl
    | succ k => simp [lset, ih]
theorem lr.at {ad : Nat → Nat} {ls : Array Slot} {nL : Nat} {L : List Value} (h : lr ad ls nL L) {i : Nat} {v : Value} (hv : clm L i v) : ls[i]? = some (.val (rv ad v)) := h.2.2.2 i v hv
theorem rv_cat (ad : Nat → Nat) (v : Value) : (rv ad v).category = v.category := by cases v <;> rfl
/-- a store of one slot -/
theorem lr_store1 {ad : Nat → Nat} {ls : Array Slot} {nL : Nat} {L : List Value} {k : Nat} {v : Value} (h : lr ad ls nL L) (hk : k < nL) (hv : (∃ x, v = .int x) ∨ ∃ x, v = .ref x) :
    ∃ ls', storeLocals ls k (rv ad v) = some ls' ∧ lr ad ls' nL (lset L k v) := by
  have hc : (rv ad v).category = 1 := by rcases hv with ⟨x, rfl⟩ | ⟨x, rfl⟩ <;> rfl
  have hall : ∀ l : List (Nat × Value), (∀ q ∈ l, ls[q.1]? = some (.val q.2)) → ∃ ls', storeLocals ls k (rv ad v) = some ls' ∧ lv_has ls' nL ((k, rv ad v) :: l.filter (fun q => !(q.1 == k) && !(q.1 + 1 == k && q.2.category == 2))) :=
    fun l hl => lv_store1 (l := l) ⟨h.1, h.2.1, hl⟩ hk hc
  obtain ⟨ls', e, h'⟩ := hall [] (fun q hq => by cases hq)
  refine ⟨ls', e, h'.1, h'.2.1, by rw [lset_len]; exact h.2.2.1, fun i w hw => ?_⟩
  have hkl : k < L.length := by rw [h.2.2.1]; exact hk
  obtain ⟨hw1, hw2⟩ := hw
  rw [lget_set hkl] at hw1
  by_cases hik : i = k
  · rw [if_pos hik] at hw1
    subst hw1; subst hik
    exact h'.2.2 (i, rv ad v) List.mem_cons_self
  · rw [if_neg hik] at hw1
    have hcl : clm L i w := by
      refine ⟨hw1, ?_⟩
      rcases hw2 with h1 | h1 | ⟨h1, h2⟩
      · exact Or.inl h1
      · exact Or.inr (Or.inl h1)
      · refine Or.inr (Or.inr ⟨h1, ?_⟩)
        rw [lget_set hkl] at h2
        by_cases hi1 : i + 1 = k
        · rw [if_pos hi1] at h2
          subst h2
          rcases hv with ⟨x, hx⟩ | ⟨x, hx⟩ <;> cases hx
        · rw [if_neg hi1] at h2
          exact h2
    have hnot : ¬ (i + 1 = k ∧ (rv ad w).category = 2) := by
      rintro ⟨q1, q2⟩
      rcases hw2 with ⟨x, rfl⟩ | ⟨x, rfl⟩ | ⟨⟨x, rfl⟩, h2⟩
      · cases q2
      · cases q2
      · rw [lget_set hkl, if_pos q1] at h2
        subst h2
        rcases hv with ⟨x, hx⟩ | ⟨x, hx⟩ <;> cases hx
    obtain ⟨ls2, e2, h2⟩ := hall [(i, rv ad w)] (fun q hq => by
      rw [List.mem_singleton] at hq
      subst hq
      exact h.at hcl)
    have : ls2 = ls' := Option.some.inj (e2.symm.trans e)
    subst this
    refine h2.2.2 (i, rv ad w) (List.mem_cons_of_mem _ (List.mem_filter.mpr ⟨List.mem_singleton.mpr rfl, ?_⟩))
    simp only [Bool.and_eq_true, Bool.not_eq_true', beq_eq_false_iff_ne, ne_eq, Bool.and_eq_false_iff]
    refine ⟨hik, ?_⟩
    by_cases q1 : i + 1 = k
    · exact Or.inr fun q2 => hnot ⟨q1, q2⟩
    · exact Or.inl q1
/-- a store of a long -/
theorem lr_store2 {ad : Nat → Nat} {ls : Array Slot} {nL : Nat} {L : List Value} {k : Nat} {x : Int64} (h : lr ad ls nL L) (hk : k + 1 < nL) :
    ∃ ls', storeLocals ls k (.long x) = some ls' ∧ lr ad ls' nL (lset (lset L k (.long x)) (k + 1) .null) := by
  have hall : ∀ l : List (Nat × Value), (∀ q ∈ l, ls[q.1]? = some (.val q.2)) → ∃ ls', storeLocals ls k (.long x) = some ls' ∧ lv_has ls' nL ((k, .long x) :: l.filter (fun q => !(q.1 == k) && (!(q.1 == k + 1) && !(q.1 + 1 == k && q.2.category == 2)))) :=
    fun l hl => lv_store2 (l := l) ⟨h.1, h.2.1, hl⟩ hk rfl
  obtain ⟨ls', e, h'⟩ := hall [] (fun q hq => by cases hq)
  have hkl : k < L.length := by rw [h.2.2.1]; omega
  have hkl2 : k + 1 < (lset L k (.long x)).length := by rw [lset_len, h.2.2.1]; exact hk
  refine ⟨ls', e, h'.1, h'.2.1, by rw [lset_len, lset_len]; exact h.2.2.1, fun i w hw => ?_⟩
  obtain ⟨hw1, hw2⟩ := hw
  have g : ∀ i, lget (lset (lset L k (.long x)) (k + 1) .null) i = if i = k + 1 then .null else if i = k then .long x else lget L i := fun i => by
    rw [lget_set hkl2, lget_set hkl]
  rw [g] at hw1
  by_cases hi1 : i = k + 1
  · rw [if_pos hi1] at hw1
    subst hw1
    rcases hw2 with ⟨x, hx⟩ | ⟨x, hx⟩ | ⟨⟨x, hx⟩, -⟩ <;> cases hx
  · rw [if_neg hi1] at hw1
    by_cases hik : i = k
    · rw [if_pos hik] at hw1
      subst hw1; subst hik
      exact h'.2.2 (i, .long x) List.mem_cons_self
    · rw [if_neg hik] at hw1
      have hnl : ¬ (i + 1 = k ∧ (rv ad w).category = 2) := by
        rintro ⟨q1, q2⟩
        rcases hw2 with ⟨y, rfl⟩ | ⟨y, rfl⟩ | ⟨⟨y, rfl⟩, h2⟩
        · cases q2
        · cases q2
        · rw [g, if_neg (by omega), if_pos q1] at h2
          cases h2
      have hcl : clm L i w := by
        refine ⟨hw1, ?_⟩
        rcases hw2 with h1 | h1 | ⟨h1, h2⟩
        · exact Or.inl h1
        · exact Or.inr (Or.inl h1)
        · refine Or.inr (Or.inr ⟨h1, ?_⟩)
          have n1 : ¬ i + 1 = k := fun q => hnl ⟨q, by obtain ⟨y, rfl⟩ := h1; rfl⟩
          rw [g, if_neg (by omega), if_neg n1] at h2
          exact h2
      obtain ⟨ls2, e2, h2⟩ := hall [(i, rv ad w)] (fun q hq => by
        rw [List.mem_singleton] at hq
        subst hq
        exact h.at hcl)
      have : ls2 = ls' := Option.some.inj (e2.symm.trans e)
      subst this
      refine h2.2.2 (i, rv ad w) (List.mem_cons_of_mem _ (List.mem_filter.mpr ⟨List.mem_singleton.mpr rfl, ?_⟩))
      simp only [Bool.and_eq_true, Bool.not_eq_true', beq_eq_false_iff_ne, ne_eq, Bool.and_eq_false_iff]
      refine ⟨hik, hi1, ?_⟩
      by_cases q1 : i + 1 = k
      · exact Or.inr fun q2 => hnl ⟨q1, q2⟩
      · exact Or.inl q1
end
section
/-! ===== the heap behind the machine's memory ===== -/
def fval (ad : Nat → Nat) (M : Mem) (ci o k : Nat) : Value := rv ad (rdf M ci o k)
def went (ad : Nat → Nat) (cA : Nat → ClassId) (M : Mem) (i : Nat) : Nat × va_E := (ad i, match shg SHL i with
  | some (.inl ci) => .inr (ci, (List.range (nf ci)).map (fval ad M ci i))
  | some (.inr (_, N)) => .inl (cA i, N, .inl (M.1 i))
  | none => .inr (0, []))
def wl (n : Nat) (ad : Nat → Nat) (cA : Nat → ClassId) (M : Mem) : va_W := (List.range n).map (went ad cA M)
theorem wl_at {n : Nat} {ad : Nat → Nat} {cA : Nat → ClassId} {M : Mem} {i : Nat} (h : i < n) : (wl n ad cA M)[i]? = some (went ad cA M i) := by simp [wl, h]
theorem wl_set {n : Nat} {ad : Nat → Nat} {cA : Nat → ClassId} {M M' : Mem} {i : Nat} {e : va_E} (he : went ad cA M' i = (ad i, e)) (ho : ∀ j, j ≠ i → went ad cA M' j = went ad cA M j) : (wl n ad cA M).set i (ad i, e) = wl n ad cA M' := by
  apply List.ext_getElem?
  intro j
  simp only [wl, List.getElem?_set, List.length_map, List.length_range, List.getElem?_map]
  by_cases hj : i = j
  · subst hj
    by_cases hn : i < n
    · simp [hn, he]
    · simp [hn]
  · rw [if_neg hj]
    by_cases hn : j < n
    · simp [hn, ho j (Ne.symm hj)]
    · simp [hn]
def bty (b : Bool) : FieldType := if b = true then .boolean else .int
def RelH (n : Nat) (M : Mem) (ad : Nat → Nat) (cA : Nat → ClassId) (D : va_G) (A : Nat → Prop) (H : Heap) (s : State) : Prop :=
  va_P D vwCl (wl n ad cA M) H ∧ va_D A (wl n ad cA M) ∧ va_K D vwCl [] s ∧ ∀ i, i < n → ∀ b N, shg SHL i = some (.inr (b, N)) → ArrOfT s (cA i) (bty b) ∧ va_RA s (cA i) (bty b)
theorem RelH.moved {n : Nat} {M : Mem} {ad : Nat → Nat} {cA : Nat → ClassId} {D : va_G} {A : Nat → Prop} {H : Heap} {u U : State} (hvm : u.vm.Alike U.vm) (h : RelH n M ad cA D A H u) : RelH n M ad cA D A H U :=
  ⟨h.1, h.2.1, h.2.2.1.moved hvm, fun i hi b N hb => ⟨arrOfT_moved hvm (h.2.2.2 i hi b N hb).1, (h.2.2.2 i hi b N hb).2.moved hvm⟩⟩
theorem RelH.kty {n : Nat} {M : Mem} {ad : Nat → Nat} {cA : Nat → ClassId} {D : va_G} {A : Nat → Prop} {H : Heap} {s : State} (h : RelH n M ad cA D A H s) {i : Nat} (hi : i < n) {b : Bool} {N : Nat} (hb : shg SHL i = some (.inr (b, N))) : va_K D vwCl [(cA i, bty b)] s :=
  ⟨h.2.2.1.1, fun k q hq => by
    have hk : k = 0 := by
      have := (List.getElem?_eq_some_iff.mp hq).1
      simp at this
      omega
    subst hk
    cases hq
    exact h.2.2.2 i hi b N hb⟩
theorem RelH.lt {n : Nat} {M : Mem} {ad : Nat → Nat} {cA : Nat → ClassId} {D : va_G} {A : Nat → Prop} {H : Heap} {s : State} (h : RelH n M ad cA D A H s) {i : Nat} (hi : i < n) : ad i < H.size := (h.1 i _ (wl_at hi)).lt
theorem RelH.inA {n : Nat} {M : Mem} {ad : Nat → Nat} {cA : Nat → ClassId} {D : va_G} {A : Nat → Prop} {H : Heap} {s : State} (h : RelH n M ad cA D A H s) {i : Nat} (hi : i < n) : A (ad i) := h.2.1.2 i _ (wl_at hi)
def ROok (ro : RO) (ad : Nat → Nat) (A : Nat → Prop) (s : State) : Prop := ∀ o N f, ro o = some (N, f) → N < 2 ^ 31 ∧ 39 ≤ o ∧ va_T .int (ad o) N (fun j => .int (f j)) A s s.heap
def Zok (ad : Nat → Nat) (A : Nat → Prop) (s : State) : Prop := ∀ t, (t = 100 ∨ t = 101 ∨ t = 102) → va_Z "RationDesk" (slName t) "[I" (.ref (ad t)) A s s.heap
def ro0 : RO := fun o => match o with
  | 100 => some (3, fun j => match j with
    | 0 => 0
    | 1 => 0
    | _ => 1)
  | 101 => some (3, fun j => match j with
    | 0 => 1
    | _ => 2)
  | 102 => some (15, fun j => match j with
    | 0 => 0
    | 1 => 1
    | 2 => 2
    | 3 => 0
    | 4 => 0
    | 5 => 1
    | 6 => 0
    | 7 => 1
    | 8 => 0
    | 9 => 0
    | 10 => 1
    | 11 => 1
    | _ => 0)
  | _ => none
/-- what a frame of the method Y may lean on -/
def FC (ro : RO) (Y : MT) (p : Program) (R : Room) (s : State) (m : MethodId) (args : Array Value) (meth : Method) (c : Code) (A : Nat → Prop) (ad : Nat → Nat) : Prop :=
  p.tables.exec = Jvm.exec ∧ c.code = Y.2.1 ∧ c.maxLocals = Y.2.2.1 ∧ s.vm.findClass (RN Y.2.2.2.2.2.2) = some m.cls ∧ (∀ w ∈ GW, w.before args s = true) ∧ (∀ w ∈ NW, va_Nw w s) ∧ (∀ q, s.heap.size ≤ q → A q) ∧ ROok ro ad A s ∧ Zok ad A s ∧
  (Y.2.2.2.2.1 ≤ R.frames ∧ Y.2.2.2.2.2.1 ≤ R.locals) ∧ ((Y.1.name == "<init>") = true → meth.name = "<init>")
theorem vpin_of {i : Int32} {h N : Nat} (e : i = nI h) (hN : h < N) (hb : N < 2 ^ 31) : vp_in i N ∧ i.toNatClampNeg = h := by
  subst e
  exact ⟨vp_in_nI hN hb, nI_clamp (by omega)⟩
theorem sh_small : ∀ i b N, shg SHL i = some (.inr (b, N)) → N < 2 ^ 31 := by
  have h : (List.range 39).all (fun i => match shg SHL i with
    | some (.inr (_, N)) => decide (N < 2 ^ 31)
    | _ => true) = true := by decide +kernel
  intro i b N hi
  have hlt : i < 39 := by
    by_cases q : i < 39
    · exact q
    · have e : ∀ (l : List (Nat ⊕ (Bool × Nat))) (k : Nat), l.length ≤ k → shg l k = none := by
        intro l
        induction l with
        | nil => intro k _; rfl
        | cons a r ih =>
          intro k hk
          cases k with
          | zero => simp at hk
          | succ k => exact ih k (by simpa using hk)
      rw [e SHL i (by show 39 ≤ i; omega)] at hi
      cases hi
  have := List.all_eq_true.mp h i (List.mem_range.mpr hlt)
  rw [hi] at this
  simpa using this
theorem sh_cls : ∀ i c, shg SHL i = some (.inl c) → c < 6 := by
  have h : (List.range 39).all (fun i => match shg SHL i with
    | some (.inl c) => decide (c < 6)
    | _ => true) = true := by decide +kernel
  intro i c hi
  have hlt : i < 39 := by
    by_cases q : i < 39
    · exact q
    · have e : ∀ (l : List (Nat ⊕ (Bool × Nat))) (k : Nat), l.length ≤ k → shg l k = none := by
        intro l
        induction l with
        | nil => intro k _; rfl
        | cons a r ih =>
          intro k hk
          cases k with
          | zero => simp at hk
          | succ k => exact ih k (by simpa using hk)
      rw [e SHL i (by show 39 ≤ i; omega)] at hi
      cases hi
  have := List.all_eq_true.mp h i (List.mem_range.mpr hlt)
  rw [hi] at this
  simpa using this
theorem fl_spec {cn x a b : Nat} (h : FL.any (fun e => e.1 == cn && e.2.1 == x && e.2.2.1 == a && e.2.2.2.1 == b) = true) :
    ((Cond.fieldLink (RN cn) x (TT a b).1 (TT a b).2.1 (TT a b).2.2.1 ∈ GW) ∨ (Cond.fieldLinkNest (RN cn) x (TT a b).1 (TT a b).2.1 (TT a b).2.2.1 "RationDesk" ∈ NW)) ∧ a < 6 ∧ b < nf a := by
  obtain ⟨e, he, h⟩ := List.any_eq_true.mp h
  have h2 := List.all_eq_true.mp FL_ok e he
  simp only [Bool.and_eq_true, beq_iff_eq, decide_eq_true_eq] at h h2
  obtain ⟨⟨⟨h3, h4⟩, h5⟩, h6⟩ := h
  obtain ⟨⟨g1, g2⟩, g3⟩ := h2
  subst h3; subst h4; subst h5; subst h6
  refine ⟨?_, g2, g3⟩
  unfold flW at g1
  split at g1
  · exact Or.inr (nw_f g1)
  · exact Or.inl (gw_at g1 rfl)
theorem fl_spec2 {cn x a b : Nat} (h : FL.any (fun e => e.1 == cn && e.2.1 == x && e.2.2.1 == a && e.2.2.2.1 == b && e.2.2.2.2.2 == false) = true) :
    (Cond.fieldLink (RN cn) x (TT a b).1 (TT a b).2.1 (TT a b).2.2.1 ∈ GW) ∧ a < 6 ∧ b < nf a := by
  obtain ⟨e, he, h⟩ := List.any_eq_true.mp h
  have h2 := List.all_eq_true.mp FL_ok e he
  simp only [Bool.and_eq_true, beq_iff_eq, decide_eq_true_eq] at h h2
  obtain ⟨⟨⟨⟨h3, h4⟩, h5⟩, h6⟩, h7⟩ := h
  obtain ⟨⟨g1, g2⟩, g3⟩ := h2
  subst h3; subst h4; subst h5; subst h6
  refine ⟨?_, g2, g3⟩
  unfold flW at g1
  rw [h7] at g1
  exact gw_at g1 rfl
theorem sl_spec {cn x a : Nat} (h : SLT.any (fun e => e.1 == cn && e.2.1 == x && e.2.2.1 == a) = true) :
    ((Cond.fieldLink (RN cn) x "RationDesk" (slName a) "[I" ∈ GW) ∨ (Cond.fieldLinkNest (RN cn) x "RationDesk" (slName a) "[I" "RationDesk" ∈ NW)) ∧ (a = 100 ∨ a = 101 ∨ a = 102) := by
  obtain ⟨e, he, h⟩ := List.any_eq_true.mp h
  have h2 := List.all_eq_true.mp SLT_ok e he
  simp only [Bool.and_eq_true, beq_iff_eq, decide_eq_true_eq] at h h2
  obtain ⟨⟨h3, h4⟩, h5⟩ := h
  obtain ⟨g1, g2⟩ := h2
  subst h3; subst h4; subst h5
  refine ⟨?_, g2⟩
  unfold slW at g1
  split at g1
  · exact Or.inr (nw_f g1)
  · exact Or.inl (gw_at g1 rfl)
theorem lc_spec {cn x a : Nat} (h : LCT.any (fun e => e.1 == cn && e.2.1 == x && e.2.2.1 == a) = true) : Cond.constantLong (RN cn) x (lcv a) ∈ GW := by
  obtain ⟨e, he, h⟩ := List.any_eq_true.mp h
  have h2 := List.all_eq_true.mp LCT_ok e he
  simp only [Bool.and_eq_true, beq_iff_eq, decide_eq_true_eq] at h h2
  obtain ⟨⟨h3, h4⟩, h5⟩ := h
  subst h3; subst h4; subst h5
  exact gw_at h2 rfl
theorem fty_ty : ∀ c, c < 6 → ∀ k, k < nf c → (fty c k = 0 → parseFieldDescriptor (TT c k).2.2.1 = some .int) ∧ (fty c k = 1 → parseFieldDescriptor (TT c k).2.2.1 = some .long) ∧ (fty c k = 3 → parseFieldDescriptor (TT c k).2.2.1 = some .boolean) ∧ (fty c k = 2 → ∃ t, parseFieldDescriptor (TT c k).2.2.1 = some t ∧ (∀ a, fits t (.ref a) = true) ∧ ∀ a, narrow t (.ref a) = .ref a) := by
  intro c hc k hk
  have h : ∀ c, c < 6 → ∀ k, k < nf c → (fty c k = 0 → parseFieldDescriptor (TT c k).2.2.1 = some .int) ∧ (fty c k = 1 → parseFieldDescriptor (TT c k).2.2.1 = some .long) ∧ (fty c k = 3 → parseFieldDescriptor (TT c k).2.2.1 = some .boolean) ∧ (fty c k = 2 → (tyT c k).isReference = true) := by decide +kernel
  obtain ⟨h1, h2, h3, h4⟩ := h c hc k hk
  refine ⟨h1, h2, h3, fun q => ⟨tyT c k, tyT_ok c hc k hk, fun a => ?_, fun a => ?_⟩⟩
  · have := h4 q
    cases hq : tyT c k <;> rw [hq] at this <;> first | rfl | cases this
  · have := h4 q
    cases hq : tyT c k <;> rw [hq] at this <;> first | rfl | cases this
theorem fval_set {ad : Nat → Nat} {M M' : Mem} {ci o k : Nat} {v : Value} (hv : rdf M' ci o k = v) (ho : ∀ j, j ≠ k → rdf M' ci o j = rdf M ci o j) : ((List.range (nf ci)).map (fval ad M ci o)).set k (rv ad v) = (List.range (nf ci)).map (fval ad M' ci o) := by
  apply List.ext_getElem?
  intro j
  simp only [List.getElem?_set, List.length_map, List.length_range, List.getElem?_map]
  by_cases hj : k = j
  · subst hj
    by_cases hn : k < nf ci
    · simp [hn, fval, hv]
    · simp [hn]
  · rw [if_neg hj]
    by_cases hn : j < nf ci
    · simp [hn, fval, ho j (Ne.symm hj)]
    · simp [hn]
theorem went_o {ad : Nat → Nat} {cA : Nat → ClassId} {M M' : Mem} {j : Nat} (h1 : M'.1 j = M.1 j) (h2 : M'.2.1 j = M.2.1 j) (h3 : M'.2.2 j = M.2.2 j) : went ad cA M' j = went ad cA M j := by
  have : ∀ ci, fval ad M' ci j = fval ad M ci j := fun ci => by
    funext k
    unfold fval rdf
    rw [h1, h2, h3]
  unfold went
  rw [h1]
  split <;> simp [this]
theorem u2_row {α : Type} {f : Nat → Nat → α} {o k : Nat} {v : α} {j : Nat} (h : j ≠ o) : u2 f o k v j = f j := by
  funext q
  exact u2_o h
end
section
/-! ===== one instruction of a block ===== -/
section BLK
variable {ro : RO} {Y : MT} {p : Program} {l : Launch} {e : Env} {R : Room} {s : State} {m : MethodId} {args : Array Value} {below : List Frame} {meth : Method} {c : Code} {A : Nat → Prop} {ad : Nat → Nat} {cA : Nat → ClassId} {D : va_G} {H : Heap} {locs : List Loc} {cells slots : Nat} {Q : State → Prop} {ls : Array Slot} {n : Nat} {pc : Nat}
/-- the place where a frame stands, as the machine tells it -/
def Pl (ro : RO) (Y : MT) (p : Program) (l : Launch) (e : Env) (R : Room) (s : State) (m : MethodId) (args : Array Value) (below : List Frame) (meth : Method) (c : Code) (A : Nat → Prop) (ad : Nat → Nat) (cA : Nat → ClassId) (D : va_G) (cells slots : Nat) (Q : State → Prop) (n : Nat) (pc : Nat) (L st : List Value) (M : Mem) : Prop :=
  ∀ (H : Heap) (locs : List Loc) (ls : Array Slot), RelH n M ad cA D A H s → va_S A s.heap H locs → lr ad ls Y.2.2.1 L → W p l e R s m args below meth c H locs cells slots Q (F0 m pc ls (st.map (rv ad)))
theorem ok_ii {f : Int32 → Int32 → Int32} {s1 : ST} {s2 : ST} {c1 : Option Prop} (h : x_ii f s1 = some (s2, c1)) : ∃ x y r, s1.2.2.1 = .int y :: .int x :: r ∧ s2 = (s1.1, s1.2.1, .int (f x y) :: r, s1.2.2.2) ∧ c1 = none := by
  unfold x_ii at h
  split at h
  · rename_i y x r hst
    cases h
    exact ⟨x, y, r, hst, rfl, rfl⟩
  · cases h
theorem ok_iid {f : Int32 → Int32 → Int32} {s1 : ST} {s2 : ST} {c1 : Option Prop} (h : x_iid f s1 = some (s2, c1)) : ∃ x y r, s1.2.2.1 = .int y :: .int x :: r ∧ s2 = (s1.1, s1.2.1, .int (f x y) :: r, s1.2.2.2) ∧ c1 = some (¬ y = 0) := by
  unfold x_iid at h
  split at h
  · rename_i y x r hst
    cases h
    exact ⟨x, y, r, hst, rfl, rfl⟩
  · cases h
theorem ok_ll {f : Int64 → Int64 → Int64} {s1 : ST} {s2 : ST} {c1 : Option Prop} (h : x_ll f s1 = some (s2, c1)) : ∃ x y r, s1.2.2.1 = .long y :: .long x :: r ∧ s2 = (s1.1, s1.2.1, .long (f x y) :: r, s1.2.2.2) ∧ c1 = none := by
  unfold x_ll at h
  split at h
  · rename_i y x r hst
    cases h
    exact ⟨x, y, r, hst, rfl, rfl⟩
  · cases h
theorem ok_lld {f : Int64 → Int64 → Int64} {s1 : ST} {s2 : ST} {c1 : Option Prop} (h : x_lld f s1 = some (s2, c1)) : ∃ x y r, s1.2.2.1 = .long y :: .long x :: r ∧ s2 = (s1.1, s1.2.1, .long (f x y) :: r, s1.2.2.2) ∧ c1 = some (¬ y = 0) := by
  unfold x_lld at h
  split at h
  · rename_i y x r hst
    cases h
    exact ⟨x, y, r, hst, rfl, rfl⟩
  · cases h
theorem ok_i {f : Int32 → Value} {s1 : ST} {s2 : ST} {c1 : Option Prop} (h : x_i f s1 = some (s2, c1)) : ∃ x r, s1.2.2.1 = .int x :: r ∧ s2 = (s1.1, s1.2.1, f x :: r, s1.2.2.2) ∧ c1 = none := by
  unfold x_i at h
  split at h
  · rename_i x r hst
    cases h
    exact ⟨x, r, hst, rfl, rfl⟩
  · cases h
theorem ok_l {f : Int64 → Value} {s1 : ST} {s2 : ST} {c1 : Option Prop} (h : x_l f s1 = some (s2, c1)) : ∃ x r, s1.2.2.1 = .long x :: r ∧ s2 = (s1.1, s1.2.1, f x :: r, s1.2.2.2) ∧ c1 = none := by
  unfold x_l at h
  split at h
  · rename_i x r hst
    cases h
    exact ⟨x, r, hst, rfl, rfl⟩
  · cases h
theorem ok_iload {k : Nat} {s1 : ST} {s2 : ST} {c1 : Option Prop} (h : x_iload k s1 = some (s2, c1)) : ∃ x, clm s1.2.1 k (.int x) ∧ s2 = (s1.1, s1.2.1, .int x :: s1.2.2.1, s1.2.2.2) ∧ c1 = none := by
  unfold x_iload at h
  split at h
  · rename_i x hst
    cases h
    exact ⟨x, ⟨hst, Or.inl ⟨x, rfl⟩⟩, rfl, rfl⟩
  · cases h
theorem ok_aload {k : Nat} {s1 : ST} {s2 : ST} {c1 : Option Prop} (h : x_aload k s1 = some (s2, c1)) : ∃ x, clm s1.2.1 k (.ref x) ∧ s2 = (s1.1, s1.2.1, .ref x :: s1.2.2.1, s1.2.2.2) ∧ c1 = none := by
  unfold x_aload at h
  split at h
  · rename_i x hst
    cases h
    exact ⟨x, ⟨hst, Or.inr (Or.inl ⟨x, rfl⟩)⟩, rfl, rfl⟩
  · cases h
theorem ok_lload {k : Nat} {s1 : ST} {s2 : ST} {c1 : Option Prop} (h : x_lload k s1 = some (s2, c1)) : ∃ x, clm s1.2.1 k (.long x) ∧ s2 = (s1.1, s1.2.1, .long x :: s1.2.2.1, s1.2.2.2) ∧ c1 = none := by
  unfold x_lload at h
  split at h
  · rename_i x hst hst2
    cases h
    exact ⟨x, ⟨hst, Or.inr (Or.inr ⟨⟨x, rfl⟩, hst2⟩)⟩, rfl, rfl⟩
  · cases h
theorem ok_istore {mL k : Nat} {s1 : ST} {s2 : ST} {c1 : Option Prop} (h : x_istore mL k s1 = some (s2, c1)) : ∃ x r, s1.2.2.1 = .int x :: r ∧ k < mL ∧ s2 = (s1.1, lset s1.2.1 k (.int x), r, s1.2.2.2) ∧ c1 = none := by
  unfold x_istore at h
  split at h
  · rename_i x r hst
    split at h
    · rename_i hk
      cases h
      exact ⟨x, r, hst, hk, rfl, rfl⟩
    · cases h
  · cases h
theorem ok_astore {mL k : Nat} {s1 : ST} {s2 : ST} {c1 : Option Prop} (h : x_astore mL k s1 = some (s2, c1)) : ∃ x r, s1.2.2.1 = .ref x :: r ∧ k < mL ∧ s2 = (s1.1, lset s1.2.1 k (.ref x), r, s1.2.2.2) ∧ c1 = none := by
  unfold x_astore at h
  split at h
  · rename_i x r hst
    split at h
    · rename_i hk
      cases h
      exact ⟨x, r, hst, hk, rfl, rfl⟩
    · cases h
  · cases h
theorem ok_lstore {mL k : Nat} {s1 : ST} {s2 : ST} {c1 : Option Prop} (h : x_lstore mL k s1 = some (s2, c1)) : ∃ x r, s1.2.2.1 = .long x :: r ∧ k + 1 < mL ∧ s2 = (s1.1, lset (lset s1.2.1 k (.long x)) (k + 1) .null, r, s1.2.2.2) ∧ c1 = none := by
  unfold x_lstore at h
  split at h
  · rename_i x r hst
    split at h
    · rename_i hk
      cases h
      exact ⟨x, r, hst, hk, rfl, rfl⟩
    · cases h
  · cases h
theorem ok_iinc {mL k : Nat} {z : Int} {s1 : ST} {s2 : ST} {c1 : Option Prop} (h : x_iinc mL k z s1 = some (s2, c1)) : ∃ x, clm s1.2.1 k (.int x) ∧ k < mL ∧ s2 = (s1.1, lset s1.2.1 k (.int (x + c32 z)), s1.2.2.1, s1.2.2.2) ∧ c1 = none := by
  unfold x_iinc at h
  split at h
  · rename_i x hst
    split at h
    · rename_i hk
      cases h
      exact ⟨x, ⟨hst, Or.inl ⟨x, rfl⟩⟩, hk, rfl, rfl⟩
    · cases h
  · cases h
theorem cat1_rv {v : Value} (h : cat1 v = true) : (rv ad v).category = 1 := by
  cases v <;> first | rfl | cases h
theorem own_ok : ∀ c, c < 6 → ∀ k, k < nf c → (TT c k).1 = RN c := by decide +kernel
theorem nar_bool {x : Int32} (h : x = 0 ∨ x = 1) : vp_nar .boolean x = x ∧ narrow .boolean (.int x) = .int x ∧ fits .boolean (.int x) = true := by
  rcases h with rfl | rfl <;> exact ⟨by decide, by decide, by decide⟩
variable {a b : Nat} {i : Instr} {s1 s2 : ST} {c1 : Option Prop}
theorem pl_st (hd : decode Y.2.1 pc = .ok (i, ilen i)) {k : Nat} {v : Value} {L : List Value} {r : List Value} {M : Mem} (hx : p.tables.exec = Jvm.exec) (hb : c.code = Y.2.1) (hR : RelH n M ad cA D A H s) (hS : va_S A s.heap H locs) (hl : lr ad ls Y.2.2.1 L) (hk : k < Y.2.2.1)
    (hi : (i = .istore k ∨ (∃ q : Fin 4, i = .istore_n q ∧ q.val = k)) ∧ (∃ x, v = .int x) ∨ (i = .astore k ∨ (∃ q : Fin 4, i = .astore_n q ∧ q.val = k)) ∧ ∃ x, v = .ref x)
    (kk : Pl ro Y p l e R s m args below meth c A ad cA D cells slots Q n (pc + ilen i) (lset L k v) r M) : W p l e R s m args below meth c H locs cells slots Q (F0 m pc ls ((v :: r).map (rv ad))) := by
  obtain ⟨ls', e', h'⟩ := lr_store1 (v := v) hl hk (by rcases hi with h | h; exact Or.inl h.2; exact Or.inr h.2)
  intro T hT X
  obtain ⟨t, a1, b1⟩ := kk H locs ls' hR hS h' T hT X
  refine ⟨t, ?_, b1⟩
  rcases hi with ⟨rfl | ⟨q, rfl, rfl⟩, x, rfl⟩ | ⟨rfl | ⟨q, rfl, rfl⟩, x, rfl⟩
  all_goals
    simp only [rv] at e'
    simp only [ilen] at hd a1
    simp only [List.map_cons, rv]
    jvm_step X.here [X.here.top, ↓top_set X.here.top, hx, hb, hd, e']
    first | exact a1 | exact ⟨rfl, a1⟩
set_option maxHeartbeats 8000000 in
theorem ex1_ok (F : FC ro Y p R s m args meth c A ad) (hd : decode Y.2.1 pc = .ok (i, ilen i)) (ha : annOk Y.2.2.2.2.2.2 (Y.1.name == "<init>") i a b = true)
    (hex : ex1 ro Y.2.2.1 n i a b s1 = some (s2, c1)) (hc : ∀ q, c1 = some q → q) (hR : RelH n s1.2.2.2 ad cA D A H s) (hS : va_S A s.heap H locs) (hl : lr ad ls Y.2.2.1 s1.2.1)
    (kk : Pl ro Y p l e R s m args below meth c A ad cA D cells slots Q n (pc + ilen i) s2.2.1 s2.2.2.1 s2.2.2.2) :
    W p l e R s m args below meth c H locs cells slots Q (F0 m pc ls (s1.2.2.1.map (rv ad))) := by
  obtain ⟨hx, hb, hml, hown, hgw, hnw, hA, hro, hz, hroom, hini⟩ := F
  have kq := kk H locs ls
  cases i
  case iconst z =>
    cases hex
    exact lv_iconst hx hb hd (c32_eq z) (kk H locs ls hR hS hl)
  case bipush z =>
    cases hex
    exact lv_bipush hx hb hd (of_decide_eq_true ha) (kk H locs ls hR hS hl)
  case sipush z =>
    cases hex
    exact lv_sipush hx hb hd (of_decide_eq_true ha) (kk H locs ls hR hS hl)
  case lconst z =>
    cases hex
    refine lv_lconst (v := if z = 0 then 0 else 1) hx hb hd ?_ (kk H locs ls hR hS hl)
    rcases (show z = 0 ∨ z = 1 by omega) with rfl | rfl <;> rfl
  case iload k =>
    obtain ⟨x, h1, rfl, rfl⟩ := ok_iload hex
    exact lv_iload hx hb hd (hl.at h1) (kk H locs ls hR hS hl)
  case iload_n k =>
    obtain ⟨x, h1, rfl, rfl⟩ := ok_iload hex
    exact lv_iload_n hx hb hd rfl (hl.at h1) (kk H locs ls hR hS hl)
  case aload k =>
    obtain ⟨x, h1, rfl, rfl⟩ := ok_aload hex
    exact lv_aload hx hb hd (hl.at h1) (kk H locs ls hR hS hl)
  case aload_n k =>
    obtain ⟨x, h1, rfl, rfl⟩ := ok_aload hex
    exact lv_aload_n hx hb hd rfl (hl.at h1) (kk H locs ls hR hS hl)
  case lload k =>
    obtain ⟨x, h1, rfl, rfl⟩ := ok_lload hex
    exact lv_lload hx hb hd (hl.at h1) (kk H locs ls hR hS hl)
  case lload_n k =>
    obtain ⟨x, h1, rfl, rfl⟩ := ok_lload hex
    exact lv_lload_n hx hb hd rfl (hl.at h1) (kk H locs ls hR hS hl)
  case istore k =>
    obtain ⟨x, r, h1, h2, rfl, rfl⟩ := ok_istore hex
    rw [h1]
    exact pl_st hd hx hb hR hS hl h2 (Or.inl ⟨Or.inl rfl, x, rfl⟩) kk
  case istore_n k =>
    obtain ⟨x, r, h1, h2, rfl, rfl⟩ := ok_istore hex
    rw [h1]
    exact pl_st hd hx hb hR hS hl h2 (Or.inl ⟨Or.inr ⟨k, rfl, rfl⟩, x, rfl⟩) kk
  case astore k =>
    obtain ⟨x, r, h1, h2, rfl, rfl⟩ := ok_astore hex
    rw [h1]
    exact pl_st hd hx hb hR hS hl h2 (Or.inr ⟨Or.inl rfl, x, rfl⟩) kk
  case astore_n k =>
    obtain ⟨x, r, h1, h2, rfl, rfl⟩ := ok_astore hex
    rw [h1]
    exact pl_st hd hx hb hR hS hl h2 (Or.inr ⟨Or.inr ⟨k, rfl, rfl⟩, x, rfl⟩) kk
  case lstore k =>
    obtain ⟨x, r, h1, h2, rfl, rfl⟩ := ok_lstore hex
    rw [h1]
    obtain ⟨ls', e', h'⟩ := lr_store2 (x := x) hl h2
    intro T hT X
    obtain ⟨t, a1, b1⟩ := kk H locs ls' hR hS h' T hT X
    refine ⟨t, ?_, b1⟩
    simp only [ilen] at hd a1
    simp only [List.map_cons, rv]
    jvm_step X.here [X.here.top, ↓top_set X.here.top, hx, hb, hd, e']
    exact a1
  case lstore_n k =>
    obtain ⟨x, r, h1, h2, rfl, rfl⟩ := ok_lstore hex
    rw [h1]
    obtain ⟨ls', e', h'⟩ := lr_store2 (x := x) hl h2
    intro T hT X
    obtain ⟨t, a1, b1⟩ := kk H locs ls' hR hS h' T hT X
    refine ⟨t, ?_, b1⟩
    simp only [ilen] at hd a1
    simp only [List.map_cons, rv]
    jvm_step X.here [X.here.top, ↓top_set X.here.top, hx, hb, hd, e']
    exact a1
  case iinc k z =>
    obtain ⟨x, h1, h2, rfl, rfl⟩ := ok_iinc hex
    have hg := hl.at h1
    obtain ⟨ls', e', h'⟩ := lr_store1 (v := .int (x + c32 z)) hl h2 (Or.inl ⟨_, rfl⟩)
    simp only [rv] at e' hg
    rw [← c32_eq] at e'
    intro T hT X
    obtain ⟨t, a1, b1⟩ := kk H locs ls' hR hS h' T hT X
    refine ⟨t, ?_, b1⟩
    simp only [ilen] at hd a1
    jvm_step X.here [X.here.top, ↓top_set X.here.top, hx, hb, hd, hg, e']
    exact a1
  case iadd =>
    obtain ⟨x, y, r, h1, rfl, rfl⟩ := ok_ii hex
    rw [h1]
    exact lv_iadd hx hb hd (kk H locs ls hR hS hl)
  case isub =>
    obtain ⟨x, y, r, h1, rfl, rfl⟩ := ok_ii hex
    rw [h1]
    exact lv_isub hx hb hd (kk H locs ls hR hS hl)
  case imul =>
    obtain ⟨x, y, r, h1, rfl, rfl⟩ := ok_ii hex
    rw [h1]
    exact lv_imul hx hb hd (kk H locs ls hR hS hl)
  case iand =>
    obtain ⟨x, y, r, h1, rfl, rfl⟩ := ok_ii hex
    rw [h1]
    exact lv_iand hx hb hd (kk H locs ls hR hS hl)
  case ior =>
    obtain ⟨x, y, r, h1, rfl, rfl⟩ := ok_ii hex
    rw [h1]
    exact lv_ior hx hb hd (kk H locs ls hR hS hl)
  case ixor =>
    obtain ⟨x, y, r, h1, rfl, rfl⟩ := ok_ii hex
    rw [h1]
    exact lv_ixor hx hb hd (kk H locs ls hR hS hl)
  case ishl =>
    obtain ⟨x, y, r, h1, rfl, rfl⟩ := ok_ii hex
    rw [h1]
    exact lv_ishl hx hb hd (kk H locs ls hR hS hl)
  case ishr =>
    obtain ⟨x, y, r, h1, rfl, rfl⟩ := ok_ii hex
    rw [h1]
    exact lv_ishr hx hb hd (kk H locs ls hR hS hl)
  case iushr =>
    obtain ⟨x, y, r, h1, rfl, rfl⟩ := ok_ii hex
    rw [h1]
    exact lv_iushr hx hb hd rfl (kk H locs ls hR hS hl)
  case l2i =>
    obtain ⟨x, r, h1, rfl, rfl⟩ := ok_l hex
    rw [h1]
    exact lv_l2i hx hb hd rfl (kk H locs ls hR hS hl)
  case ldc2_w x =>
    cases hex
    exact lv_ldc2 hx hb hown (hgw _ (lc_spec ha)) hd (kk H locs ls hR hS hl)
  case idiv =>
    obtain ⟨x, y, r, h1, rfl, rfl⟩ := ok_iid hex
    rw [h1]
    exact lv_idiv hx hb hd (hc _ rfl) (kk H locs ls hR hS hl)
  case irem =>
    obtain ⟨x, y, r, h1, rfl, rfl⟩ := ok_iid hex
    rw [h1]
    exact lv_irem hx hb hd (hc _ rfl) (kk H locs ls hR hS hl)
  case ineg =>
    obtain ⟨x, r, h1, rfl, rfl⟩ := ok_i hex
    rw [h1]
    exact lv_ineg hx hb hd (kk H locs ls hR hS hl)
  case i2l =>
    obtain ⟨x, r, h1, rfl, rfl⟩ := ok_i hex
    rw [h1]
    exact lv_i2l hx hb hd rfl (kk H locs ls hR hS hl)
  case ladd =>
    obtain ⟨x, y, r, h1, rfl, rfl⟩ := ok_ll hex
    rw [h1]
    exact lv_ladd hx hb hd (kk H locs ls hR hS hl)
  case lsub =>
    obtain ⟨x, y, r, h1, rfl, rfl⟩ := ok_ll hex
    rw [h1]
    exact lv_lsub hx hb hd (kk H locs ls hR hS hl)
  case lmul =>
    obtain ⟨x, y, r, h1, rfl, rfl⟩ := ok_ll hex
    rw [h1]
    exact lv_lmul hx hb hd (kk H locs ls hR hS hl)
  case ldiv =>
    obtain ⟨x, y, r, h1, rfl, rfl⟩ := ok_lld hex
    rw [h1]
    exact lv_ldiv hx hb hd (hc _ rfl) (kk H locs ls hR hS hl)
  case lrem =>
    obtain ⟨x, y, r, h1, rfl, rfl⟩ := ok_lld hex
    rw [h1]
    exact lv_lrem hx hb hd (hc _ rfl) (kk H locs ls hR hS hl)
  case lneg =>
    obtain ⟨x, r, h1, rfl, rfl⟩ := ok_l hex
    rw [h1]
    exact lv_lneg hx hb hd (kk H locs ls hR hS hl)
  case lcmp =>
    simp only [ex1, x_lcmp] at hex
    split at hex
    · rename_i y x r h1
      cases hex
      rw [h1]
      exact W.lcmp hx hb hd (kk H locs ls hR hS hl)
    · cases hex
  case dup =>
    simp only [ex1, x_dup] at hex
    split at hex
    · rename_i v r h1
      split at hex
      · rename_i hv
        cases hex
        rw [h1]
        exact lv_dup hx hb hd (cat1_rv hv) (kk H locs ls hR hS hl)
      · cases hex
    · cases hex
  case dup_x1 =>
    simp only [ex1, x_dupx1] at hex
    split at hex
    · rename_i v w r h1
      split at hex
      · rename_i hv
        rw [Bool.and_eq_true] at hv
        cases hex
        rw [h1]
        exact lv_dup_x1 hx hb hd (cat1_rv hv.1) (cat1_rv hv.2) (kk H locs ls hR hS hl)
      · cases hex
    · cases hex
  case dup2 =>
    simp only [ex1, x_dup2] at hex
    split at hex
    · rename_i v w r h1
      split at hex
      · rename_i hv
        rw [Bool.and_eq_true] at hv
        cases hex
        rw [h1]
        exact lv_dup2_11 hx hb hd (cat1_rv hv.1) (cat1_rv hv.2) (kk H locs ls hR hS hl)
      · cases hex
    · cases hex
  case getstatic x =>
    cases hex
    obtain ⟨hw, h3⟩ := sl_spec ha
    rcases hw with hw | hw
    · exact va_gets hx hb (hz a h3) hS hown (hgw _ hw) (fun _ h => h) hd (kk H locs ls hR hS hl)
    · exact va_getsN hx hb (hz a h3) hS hown (va_Nw.use rfl (hnw _ hw)) (fun _ h => h) hd (kk H locs ls hR hS hl)
  case getfield x =>
    simp only [ex1, x_get] at hex
    split at hex
    · rename_i o r h1
      split at hex
      · rename_i ci hsh
        split at hex
        · rename_i hci
          obtain ⟨rfl, hon⟩ := hci
          cases hex
          rw [h1]
          obtain ⟨hw, h7, hbn⟩ := fl_spec ha
          have hent : (wl n ad cA s1.2.2.2)[o]? = some (ad o, .inr (ci, (List.range (nf ci)).map (fval ad s1.2.2.2 ci o))) := by
            rw [wl_at hon, went, hsh]
          have hv : ((List.range (nf ci)).map (fval ad s1.2.2.2 ci o))[b]? = some (rv ad (rdf s1.2.2.2 ci o b)) := by
            simp [hbn, fval]
          rcases hw with hw | hw
          · exact va_get hx hb hgw (lay_ok ci h7) hown hR.2.2.1 hR.1 o hent (cl_at ci h7) b hbn (hgw _ hw) (fun x h => h) hv hd (kk H locs ls hR hS hl)
          · exact va_getN hx hb hgw (lay_ok ci h7) hown hR.2.2.1 hR.1 o hent (cl_at ci h7) b hbn (va_Nw.use rfl (hnw _ hw)) (fun x h => h) hv hd (kk H locs ls hR hS hl)
        · cases hex
      · cases hex
    · cases hex
  case putfield x =>
    simp only [ex1, x_put] at hex
    split at hex
    · rename_i v o r h1
      split at hex
      · rename_i ci hsh
        split at hex
        · rename_i hci
          obtain ⟨rfl, hon⟩ := hci
          simp only [annOk, Bool.and_eq_true] at ha
          obtain ⟨hfl, hfin⟩ := ha
          obtain ⟨hw, h7, hbn⟩ := fl_spec2 hfl
          have hent : (wl n ad cA s1.2.2.2)[o]? = some (ad o, .inr (ci, (List.range (nf ci)).map (fval ad s1.2.2.2 ci o))) := by
            rw [wl_at hon, went, hsh]
          have hlen : b < ((List.range (nf ci)).map (fval ad s1.2.2.2 ci o)).length := by simpa using hbn
          obtain ⟨t0, t1, t3, t2⟩ := fty_ty ci h7 b hbn
          have key : ∀ (M' : Mem) (ty : FieldType), parseFieldDescriptor (TT ci b).2.2.1 = some ty → narrow ty (rv ad v) = rv ad v → fits ty (rv ad v) = true → rdf M' ci o b = v → (∀ j, j ≠ b → rdf M' ci o j = rdf s1.2.2.2 ci o j) →
              (∀ j, j ≠ o → M'.1 j = s1.2.2.2.1 j ∧ M'.2.1 j = s1.2.2.2.2.1 j ∧ M'.2.2 j = s1.2.2.2.2.2 j) → s2 = (s1.1, s1.2.1, r, M') →
              W p l e R s m args below meth c H locs cells slots Q (F0 m pc ls (s1.2.2.1.map (rv ad))) := by
            intro M' ty e1 e2 e3 e4 e5 e6 e7
            subst e7
            rw [h1]
            have hset : (wl n ad cA s1.2.2.2).set o (ad o, .inr (ci, ((List.range (nf ci)).map (fval ad s1.2.2.2 ci o)).set b (rv ad v))) = wl n ad cA M' := by
              rw [fval_set e4 e5]
              refine wl_set ?_ (fun j hj => went_o (e6 j hj).1 (e6 j hj).2.1 (e6 j hj).2.2)
              rw [went, hsh]
            by_cases hf : (TT ci b).2.2.2 = true
            · have hf2 : ((Y.1.name == "<init>") && ci == Y.2.2.2.2.2.2) = true := by
                rw [hf] at hfin
                simpa using hfin
              rw [Bool.and_eq_true] at hf2
              have hcn : ci = Y.2.2.2.2.2.2 := by simpa using hf2.2
              refine va_putF hx hb hgw (lay_ok ci h7) (tyT ci) (tyT_ok ci h7) (nm_ok ci h7) hown hR.2.2.1 hR.1 hR.2.1 hS o hent (cl_at ci h7) b hbn (hgw _ hw) (fun x h => h) hf (hini hf2.1) (by rw [own_ok ci h7 b hbn, hcn]) e1 e2 e3 hlen hd (fun H1 locs1 g1 g2 g3 => ?_)
              rw [hset] at g1 g2
              exact kk H1 locs1 ls ⟨g1, g2, hR.2.2⟩ g3 hl
            · have hf' : (TT ci b).2.2.2 = false := by simpa using hf
              refine va_put hx hb hgw (lay_ok ci h7) (tyT ci) (tyT_ok ci h7) (nm_ok ci h7) hown hR.2.2.1 hR.1 hR.2.1 hS o hent (cl_at ci h7) b hbn (hgw _ hw) (fun x h => h) hf' e1 e2 e3 hlen hd (fun H1 locs1 g1 g2 g3 => ?_)
              rw [hset] at g1 g2
              exact kk H1 locs1 ls ⟨g1, g2, hR.2.2⟩ g3 hl
          split at hex
          · rename_i x hft
            cases hex
            refine key _ .int (t0 hft) rfl rfl ?_ ?_ ?_ rfl
            · simp only [rdf, hft]; exact congrArg Value.int u2_s
            · intro j hj
              have : u2 s1.2.2.2.1 o b x o j = s1.2.2.2.1 o j := u2_k hj
              simp only [rdf, this]
            · intro j hj
              exact ⟨u2_row hj, rfl, rfl⟩
          · rename_i x hft
            cases hex
            have hx01 := hc _ rfl
            refine key _ .boolean (t3 hft) (nar_bool hx01).2.1 (nar_bool hx01).2.2 ?_ ?_ ?_ rfl
            · simp only [rdf, hft]; exact congrArg Value.int u2_s
            · intro j hj
              have : u2 s1.2.2.2.1 o b x o j = s1.2.2.2.1 o j := u2_k hj
              simp only [rdf, this]
            · intro j hj
              exact ⟨u2_row hj, rfl, rfl⟩
          · rename_i x hft
            cases hex
            refine key _ .long (t1 hft) rfl rfl ?_ ?_ ?_ rfl
            · simp only [rdf, hft]; exact congrArg Value.long u2_s
            · intro j hj
              have : u2 s1.2.2.2.2.1 o b x o j = s1.2.2.2.2.1 o j := u2_k hj
              simp only [rdf, this]
            · intro j hj
              exact ⟨rfl, u2_row hj, rfl⟩
          · rename_i x hft
            cases hex
            obtain ⟨ty, g1, g2, g3⟩ := t2 hft
            refine key _ ty g1 (g3 _) (g2 _) ?_ ?_ ?_ rfl
            · simp only [rdf, hft]; exact u2_s
            · intro j hj
              have : u2 s1.2.2.2.2.2 o b (.ref x) o j = s1.2.2.2.2.2 o j := u2_k hj
              simp only [rdf, this]
            · intro j hj
              exact ⟨rfl, rfl, u2_row hj⟩
          · cases hex
        · cases hex
      · cases hex
    · cases hex
  case iaload =>
    simp only [ex1, x_ald] at hex
    split at hex
    · rename_i i o r h hs h1 h0
      split at hex
      · rename_i N f hrf
        cases hex
        obtain ⟨e1, e2⟩ := hc _ rfl
        obtain ⟨hN, -, hT⟩ := hro _ _ _ hrf
        obtain ⟨e3, e4⟩ := vpin_of e1 e2 hN
        rw [h1]
        exact va_ti hx hb hT hS e3 (v := .int (f h)) (by rw [e4]) hd (kk H locs ls hR hS hl)
      · split at hex
        · rename_i b N hsh
          split at hex
          · rename_i hbo
            obtain ⟨rfl, hon⟩ := hbo
            cases hex
            obtain ⟨e1, e2⟩ := hc _ rfl
            obtain ⟨e3, e4⟩ := vpin_of e1 e2 (sh_small _ _ _ hsh)
            have hent : (wl n ad cA s1.2.2.2)[o]? = some (ad o, .inl (cA o, N, .inl (s1.2.2.2.1 o))) := by
              rw [wl_at hon, went, hsh]
            rw [h1]
            refine va_iald hx hb (hR.kty hon hsh) hR.1 o 0 hent rfl e3 hd ?_
            rw [e4]
            exact kk H locs ls hR hS hl
          · cases hex
        · cases hex
    · cases hex
  case baload =>
    simp only [ex1, x_ald] at hex
    split at hex
    · rename_i i o r h hs h1 h0
      split at hex
      · rename_i N f hrf
        cases hex
      · split at hex
        · rename_i b N hsh
          split at hex
          · rename_i hbo
            obtain ⟨rfl, hon⟩ := hbo
            cases hex
            obtain ⟨e1, e2⟩ := hc _ rfl
            obtain ⟨e3, e4⟩ := vpin_of e1 e2 (sh_small _ _ _ hsh)
            have hent : (wl n ad cA s1.2.2.2)[o]? = some (ad o, .inl (cA o, N, .inl (s1.2.2.2.1 o))) := by
              rw [wl_at hon, went, hsh]
            rw [h1]
            refine va_zald hx hb (hR.kty hon hsh) hR.1 o 0 hent rfl e3 hd ?_
            rw [e4]
            exact kk H locs ls hR hS hl
          · cases hex
        · cases hex
    · cases hex
  case iastore =>
    simp only [ex1, x_ast] at hex
    split at hex
    · rename_i x i o r h hs h1 h0
      split at hex
      · rename_i b N hsh
        split at hex
        · rename_i hbo
          obtain ⟨rfl, hon⟩ := hbo
          cases hex
          obtain ⟨e1, e2⟩ := hc _ rfl
          obtain ⟨e3, e4⟩ := vpin_of e1 e2 (sh_small _ _ _ hsh)
          have hent : (wl n ad cA s1.2.2.2)[o]? = some (ad o, .inl (cA o, N, .inl (s1.2.2.2.1 o))) := by
            rw [wl_at hon, went, hsh]
          rw [h1]
          refine va_iast hx hb (hR.kty hon hsh) hR.1 hR.2.1 hS o 0 hent rfl e3 hd (fun H1 locs1 g1 g2 g3 => ?_)
          have hset : (wl n ad cA s1.2.2.2).set o (ad o, .inl (cA o, N, .inl (upd (s1.2.2.2.1 o) h x))) = wl n ad cA (u2 s1.2.2.2.1 o h x, s1.2.2.2.2) := by
            refine wl_set ?_ (fun j hj => went_o (u2_row hj) rfl rfl)
            rw [went, hsh]
            have : u2 s1.2.2.2.1 o h x o = upd (s1.2.2.2.1 o) h x := by
              funext j
              by_cases hj : j = h
              · subst hj
                rw [u2_s, pk_us]
              · rw [u2_k hj, pk_un hj]
            simp only [this]
          rw [e4, hset] at g1 g2
          exact kk H1 locs1 ls ⟨g1, g2, hR.2.2⟩ g3 hl
        · cases hex
      · cases hex
    · cases hex
  case bastore =>
    simp only [ex1, x_ast] at hex
    split at hex
    · rename_i x i o r h hs h1 h0
      split at hex
      · rename_i b N hsh
        split at hex
        · rename_i hbo
          obtain ⟨rfl, hon⟩ := hbo
          cases hex
          obtain ⟨e1, e2, e5⟩ := hc _ rfl
          obtain ⟨e3, e4⟩ := vpin_of e1 e2 (sh_small _ _ _ hsh)
          have hent : (wl n ad cA s1.2.2.2)[o]? = some (ad o, .inl (cA o, N, .inl (s1.2.2.2.1 o))) := by
            rw [wl_at hon, went, hsh]
          rw [h1]
          refine va_zast hx hb (hR.kty hon hsh) hR.1 hR.2.1 hS o 0 hent rfl e3 hd (fun H1 locs1 g1 g2 g3 => ?_)
          have hset : (wl n ad cA s1.2.2.2).set o (ad o, .inl (cA o, N, .inl (upd (s1.2.2.2.1 o) h x))) = wl n ad cA (u2 s1.2.2.2.1 o h x, s1.2.2.2.2) := by
            refine wl_set ?_ (fun j hj => went_o (u2_row hj) rfl rfl)
            rw [went, hsh]
            have : u2 s1.2.2.2.1 o h x o = upd (s1.2.2.2.1 o) h x := by
              funext j
              by_cases hj : j = h
              · subst hj
                rw [u2_s, pk_us]
              · rw [u2_k hj, pk_un hj]
            simp only [this]
          rw [e4, (nar_bool e5).1, hset] at g1 g2
          exact kk H1 locs1 ls ⟨g1, g2, hR.2.2⟩ g3 hl
        · cases hex
      · cases hex
    · cases hex
  case arraylength =>
    simp only [ex1, x_alen] at hex
    split at hex
    · rename_i o r h1
      split at hex
      · rename_i N f hrf
        cases hex
        obtain ⟨hN, -, hT⟩ := hro _ _ _ hrf
        rw [h1]
        exact va_tlen hx hb hT hS (v := nI N) rfl hd (kk H locs ls hR hS hl)
      · split at hex
        · rename_i b N hsh
          split at hex
          · rename_i hon
            cases hex
            have hent : (wl n ad cA s1.2.2.2)[o]? = some (ad o, .inl (cA o, N, .inl (s1.2.2.2.1 o))) := by
              rw [wl_at hon, went, hsh]
            rw [h1]
            exact va_alen hx hb (hR.kty hon hsh) hR.1 o 0 hent rfl (v := nI N) rfl hd (kk H locs ls hR hS hl)
          · cases hex
        · cases hex
    · cases hex
  all_goals cases hex
end BLK
end
section
/-! ===== a whole method over the machine ===== -/
def ssz1 (i : Nat) : Nat := match shg SHL i with
  | some (.inl c) => nf c
  | some (.inr (_, N)) => N
  | none => match shg SHL (i - 27) with
    | some (.inl c) => nf c
    | some (.inr (_, N)) => N
    | none => 0
def ssz : Nat → Nat
  | 0 => 0
  | n + 1 => ssz n + ssz1 n
def vst (v : Option Value) : List Value := match v with
  | none => []
  | some v => [v]
def okret (Y : MT) (v : Option Value) : Prop := (v = none ∧ Y.2.2.2.1 = none) ∨ (∃ x, v = some (.int x) ∧ (Y.2.2.2.1 = some .int ∨ (Y.2.2.2.1 = some .boolean ∧ (x = 0 ∨ x = 1)))) ∨ ∃ x, v = some (.long x) ∧ Y.2.2.2.1 = some .long
def retI (v : Option Value) : Instr := match v with
  | none => .return_
  | some (.long _) => .lreturn
  | _ => .ireturn
def agr (n n' : Nat) (ad ad' : Nat → Nat) : Prop := (n' = n → ad' = ad) ∧ ∀ i, (i < n ∨ 39 ≤ i) → ad' i = ad i
/-- from this place the method comes to its end, with an answer and a memory of that kind, n' objects made by then -/
def Go (l : Launch) (ro : RO) (Y : MT) (n : Nat) (M : Mem) (pc : Nat) (L st : List Value) (n' : Nat) (Post : Option Value → Mem → Prop) : Prop :=
  ∀ (p : Program) (e : Env) (R : Room) (s : State) (m : MethodId) (args : Array Value) (below : List Frame) (meth : Method) (c : Code) (A : Nat → Prop) (ad : Nat → Nat) (cA : Nat → ClassId) (D : va_G) (cells slots : Nat) (Q : State → Prop),
    FC ro Y p R s m args meth c A ad → n ≤ 39 → cells + n' ≤ R.cells + n → slots + ssz n' ≤ R.slots + ssz n →
    (∀ (v : Option Value) (M' : Mem) (ad' : Nat → Nat) (cA' : Nat → ClassId) (H' : Heap) (locs' : List Loc) (ls' : Array Slot) (pc' : Nat) (cells' slots' : Nat), Post v M' → okret Y v → decode Y.2.1 pc' = .ok (retI v, 1) → agr n n' ad ad' → (n' ≤ 39 → RelH n' M' ad' cA' D A H' s) → va_S A s.heap H' locs' → cells' + n = cells + n' → slots' + ssz n = slots + ssz n' →
      W p l e R s m args below meth c H' locs' cells' slots' Q (F0 m pc' ls' (vst v))) →
    Pl ro Y p l e R s m args below meth c A ad cA D cells slots Q n pc L st M
section GO
variable {l : Launch} {ro : RO} {Y : MT} {n n' : Nat} {M : Mem} {pc : Nat} {L st : List Value} {Post : Option Value → Mem → Prop}
theorem Go.mono {Post2 : Option Value → Mem → Prop} (h : Go l ro Y n M pc L st n' Post) (hp : ∀ v M', Post v M' → Post2 v M') : Go l ro Y n M pc L st n' Post2 :=
  fun p e R s m args below meth c A ad cA D cells slots Q F hn hc hs K => h p e R s m args below meth c A ad cA D cells slots Q F hn hc hs fun v M' ad' cA' H' locs' ls' pc' cells' slots' h1 => K v M' ad' cA' H' locs' ls' pc' cells' slots' (hp v M' h1)
theorem pl_blk {p : Program} {e : Env} {R : Room} {s : State} {m : MethodId} {args : Array Value} {below : List Frame} {meth : Method} {c : Code} {A : Nat → Prop} {ad : Nat → Nat} {cA : Nat → ClassId} {D : va_G} {cells slots : Nat} {Q : State → Prop} (F : FC ro Y p R s m args meth c A ad) :
    ∀ (b : Blk) (s1 s2 : ST) (C : Prop) (pc pc2 : Nat), codeAt Y.2.1 Y.2.2.2.2.2.2 (Y.1.name == "<init>") pc b = some pc2 → exL ro Y.2.2.1 n b s1 = some (s2, C) → C → Pl ro Y p l e R s m args below meth c A ad cA D cells slots Q n pc2 s2.2.1 s2.2.2.1 s2.2.2.2 → Pl ro Y p l e R s m args below meth c A ad cA D cells slots Q n pc s1.2.1 s1.2.2.1 s1.2.2.2 := by
  intro b
  induction b with
  | nil =>
    intro s1 s2 C pc pc2 h1 h2 hC hk
    cases h1
    cases h2
    exact hk
  | cons i r ih =>
    intro s1 s2 C pc pc2 h1 h2 hC hk
    simp only [codeAt] at h1
    split at h1
    · rename_i hok
      rw [Bool.and_eq_true] at hok
      simp only [exL] at h2
      split at h2
      · cases h2
      · rename_i s3 c1 hex
        split at h2
        · cases h2
        · rename_i s4 c2 hex2
          cases h2
          have hc12 : (∀ q, c1 = some q → q) ∧ c2 := by
            cases c1 with
            | none => exact ⟨fun q h => (by cases h), hC⟩
            | some q => exact ⟨fun q2 h => (by cases h; exact hC.1), hC.2⟩
          have := ih s3 s2 c2 _ pc2 h1 hex2 hc12.2 hk
          intro H locs ls hR hS hl
          exact ex1_ok F (okd_eq hok.1) hok.2 hex hc12.1 hR hS hl this
    · cases h1
theorem go_blk (b : Blk) (hs : List Nat) {pc2 : Nat} {L2 st2 : List Value} {M2 : Mem} {hs2 : List Nat} {C : Prop} (h1 : codeAt Y.2.1 Y.2.2.2.2.2.2 (Y.1.name == "<init>") pc b = some pc2) (h2 : exL ro Y.2.2.1 n b (hs, L, st, M) = some ((hs2, L2, st2, M2), C)) (hC : C) (h : Go l ro Y n M2 pc2 L2 st2 n' Post) : Go l ro Y n M pc L st n' Post :=
  fun p e R s m args below meth c A ad cA D cells slots Q F hn hc hsl K => pl_blk F b (hs, L, st, M) (hs2, L2, st2, M2) C pc pc2 h1 h2 hC (h p e R s m args below meth c A ad cA D cells slots Q F hn hc hsl K)
def tk (c : ClassFile.Cond) (x y : Int32) : Prop := match c with
  | .eq => x = y
  | .ne => ¬ x = y
  | .lt => x < y
  | .ge => y ≤ x
  | .gt => y < x
  | .le => x ≤ y
def ntk (c : ClassFile.Cond) (x y : Int32) : Prop := match c with
  | .eq => ¬ x = y
  | .ne => x = y
  | .lt => ¬ x < y
  | .ge => ¬ y ≤ x
  | .gt => ¬ y < x
  | .le => ¬ x ≤ y
theorem go_cmp {cnd : ClassFile.Cond} {off : Int} {x y : Int32} (tgt : Nat) (hd : okd Y.2.1 pc (.if_icmp cnd off) 3 = true) (ht : (pc : Int) + off = (tgt : Int)) (kt : tk cnd x y → Go l ro Y n M tgt L st n' Post) (kf : ntk cnd x y → Go l ro Y n M (pc + 3) L st n' Post) : Go l ro Y n M pc L (.int y :: .int x :: st) n' Post := by
  intro p e R s m args below meth c A ad cA D cells slots Q F hn hc hs K H locs ls hR hS hl
  have hd := okd_eq hd
  have k1 := fun q => kt q p e R s m args below meth c A ad cA D cells slots Q F hn hc hs K H locs ls hR hS hl
  have k2 := fun q => kf q p e R s m args below meth c A ad cA D cells slots Q F hn hc hs K H locs ls hR hS hl
  cases cnd
  · exact lv_icmp_eq F.1 F.2.1 hd ht k1 k2
  · exact lv_icmp_ne F.1 F.2.1 hd ht k1 k2
  · exact lv_icmp_lt F.1 F.2.1 hd ht k1 k2
  · exact lv_icmp_ge F.1 F.2.1 hd ht k1 k2
  · exact lv_icmp_gt F.1 F.2.1 hd ht k1 k2
  · exact lv_icmp_le F.1 F.2.1 hd ht k1 k2
theorem go_ifz {cnd : ClassFile.Cond} {off : Int} {x : Int32} (tgt : Nat) (hd : okd Y.2.1 pc (.ifCond cnd off) 3 = true) (ht : (pc : Int) + off = (tgt : Int)) (kt : tk cnd x 0 → Go l ro Y n M tgt L st n' Post) (kf : ntk cnd x 0 → Go l ro Y n M (pc + 3) L st n' Post) : Go l ro Y n M pc L (.int x :: st) n' Post := by
  intro p e R s m args below meth c A ad cA D cells slots Q F hn hc hs K H locs ls hR hS hl
  have hd := okd_eq hd
  have k1 := fun q => kt q p e R s m args below meth c A ad cA D cells slots Q F hn hc hs K H locs ls hR hS hl
  have k2 := fun q => kf q p e R s m args below meth c A ad cA D cells slots Q F hn hc hs K H locs ls hR hS hl
  cases cnd
  · exact lv_if_eq F.1 F.2.1 hd ht k1 k2
  · exact lv_if_ne F.1 F.2.1 hd ht k1 k2
  · exact lv_if_lt F.1 F.2.1 hd ht k1 k2
  · exact lv_if_ge F.1 F.2.1 hd ht k1 k2
  · exact lv_if_gt F.1 F.2.1 hd ht k1 k2
  · exact lv_if_le F.1 F.2.1 hd ht k1 k2
theorem go_goto {off : Int} (tgt : Nat) (hd : okd Y.2.1 pc (.goto off) 3 = true) (ht : (pc : Int) + off = (tgt : Int)) (k : Go l ro Y n M tgt L st n' Post) : Go l ro Y n M pc L st n' Post := by
  intro p e R s m args below meth c A ad cA D cells slots Q F hn hc hs K H locs ls hR hS hl
  exact lv_goto F.1 F.2.1 (okd_eq hd) ht (k p e R s m args below meth c A ad cA D cells slots Q F hn hc hs K H locs ls hR hS hl)
theorem go_ret (v : Option Value) (hd : okd Y.2.1 pc (retI v) 1 = true) (hok : okret Y v) (hp : Post v M) : Go l ro Y n M pc L (vst v) n Post := by
  intro p e R s m args below meth c A ad cA D cells slots Q F hn hc hs K H locs ls hR hS hl
  have e : (vst v).map (rv ad) = vst v := by
    rcases hok with ⟨rfl, -⟩ | ⟨x, rfl, -⟩ | ⟨x, rfl, -⟩ <;> rfl
  rw [e]
  exact K v M ad cA H locs ls pc cells slots hp hok (okd_eq hd) ⟨fun _ => rfl, fun _ _ => rfl⟩ (fun _ => hR) hS rfl rfl
theorem go_retv (hd : okd Y.2.1 pc .return_ 1 = true) (hr : Y.2.2.2.1 = none) (hp : Post none M) : Go l ro Y n M pc L [] n Post := go_ret none hd (Or.inl ⟨rfl, hr⟩) hp
theorem go_reti {x : Int32} (hd : okd Y.2.1 pc .ireturn 1 = true) (hr : Y.2.2.2.1 = some .int) (hp : Post (some (.int x)) M) : Go l ro Y n M pc L [.int x] n Post := go_ret (some (.int x)) hd (Or.inr (Or.inl ⟨x, rfl, Or.inl hr⟩)) hp
theorem go_retz {x : Int32} (hd : okd Y.2.1 pc .ireturn 1 = true) (hr : Y.2.2.2.1 = some .boolean) (hx : x = 0 ∨ x = 1) (hp : Post (some (.int x)) M) : Go l ro Y n M pc L [.int x] n Post := go_ret (some (.int x)) hd (Or.inr (Or.inl ⟨x, rfl, Or.inr ⟨hr, hx⟩⟩)) hp
theorem go_retl {x : Int64} (hd : okd Y.2.1 pc .lreturn 1 = true) (hr : Y.2.2.2.1 = some .long) (hp : Post (some (.long x)) M) : Go l ro Y n M pc L [.long x] n Post := go_ret (some (.long x)) hd (Or.inr (Or.inr ⟨x, rfl, hr⟩)) hp
end GO
/-! ===== a method's contract ===== -/
def AF (n : Nat) (ad : Nat → Nat) (sz : Nat) : Nat → Prop := fun q => (∃ i, i < n ∧ q = ad i) ∨ sz ≤ q
def Yw (Y : MT) : List Cond := Cond.code Y.1 Y.2.1 Y.2.2.1 Y.2.2.2.1 :: GW
def PreU (ro : RO) (n : Nat) (M : Mem) (ad : Nat → Nat) (cA : Nat → ClassId) (D : va_G) (sz : Nat) (U : State) : Prop :=
  U.heap.size = sz ∧ RelH n M ad cA D (AF n ad sz) U.heap U ∧ (∀ w ∈ NW, va_Nw w U) ∧ ROok ro ad (AF n ad sz) U ∧ Zok ad (AF n ad sz) U
def QSem (n : Nat) (ad : Nat → Nat) (D : va_G) (sz n' : Nat) (Post : Option Value → Mem → Prop) : Array Value → State → Outcome → State → Prop := fun _ st oc t =>
  (∃ (v : Option Value) (M' : Mem) (ad' : Nat → Nat) (cA' : Nat → ClassId), oc = .returned v ∧ Post v M' ∧ (v = none ∨ (∃ x, v = some (.int x)) ∨ ∃ x, v = some (.long x)) ∧ agr n n' ad ad' ∧ RelH n' M' ad' cA' D (AF n ad sz) t.heap t) ∧ va_F (AF n ad sz) st t
def SemR (l : Launch) (ro : RO) (Y : MT) (as : List Value) (n : Nat) (M : Mem) (n' : Nat) (Post : Option Value → Mem → Prop) : Prop :=
  ∀ (ad : Nat → Nat) (cA : Nat → ClassId) (D : va_G) (sz : Nat), Met l Y.1 (Yw Y) ({ frames := Y.2.2.2.2.1, cells := n' - n, slots := ssz n' - ssz n, locals := Y.2.2.2.2.2.1 }) (va_Pc (as.map (rv ad)) (PreU ro n M ad cA D sz)) (QSem n ad D sz n' Post) (n' - n) (ssz n' - ssz n) (AF n ad sz)
abbrev Sem (l : Launch) (Y : MT) (as : List Value) (n : Nat) (M : Mem) (n' : Nat) (Post : Option Value → Mem → Prop) : Prop := SemR l ro0 Y as n M n' Post
theorem SemR.mono {l : Launch} {ro : RO} {Y : MT} {as : List Value} {n n' : Nat} {M : Mem} {Post Post2 : Option Value → Mem → Prop} (h : SemR l ro Y as n M n' Post) (hp : ∀ v M', Post v M' → Post2 v M') : SemR l ro Y as n M n' Post2 := by
  intro ad cA D sz p e ha hc hk s m args below hf happ hP hK
  obtain ⟨t, o, h1, h2, h3, ⟨h4, h4b⟩, h5⟩ := h ad cA D sz p e ha hc hk s m args below hf happ hP hK
  obtain ⟨v, M', ad', cA', g1, g2, g3⟩ := h4
  exact ⟨t, o, h1, h2, h3, ⟨⟨v, M', ad', cA', g1, hp v M' g2, g3⟩, h4b⟩, h5⟩
end
section
/-! ===== a contract out of a walk ===== -/
def ent (as : List Value) : List Value := as.flatMap fun v => match v with
  | .long x => [.long x, .null]
  | v => [v]
def okA (v : Value) : Bool := match v with
  | .int _ => true
  | .long _ => true
  | .ref _ => true
  | _ => false
theorem ssz_mono {n n' : Nat} (h : n ≤ n') : ssz n ≤ ssz n' := by
  induction n' with
  | zero => rw [show n = 0 by omega]; exact Nat.le_refl _
  | succ k ih =>
    by_cases hk : n = k + 1
    · rw [hk]; exact Nat.le_refl _
    · exact Nat.le_trans (ih (by omega)) (Nat.le_add_right _ _)
theorem lget_rep (k i : Nat) : lget (List.replicate k .null) i = .null := by
  induction k generalizing i with
  | zero => rfl
  | succ k ih =>
    cases i with
    | zero => rfl
    | succ i => exact ih i
theorem ent_args (ad : Nat → Nat) (N : Nat) : ∀ (as : List Value) (k j : Nat) (v : Value), as.all okA = true → lget (ent as ++ List.replicate N .null) j = v → v ≠ .null → (k + j, rv ad v) ∈ lv_args k (as.map (rv ad)) := by
  intro as
  induction as with
  | nil =>
    intro k j v _ h hv
    rw [show ent [] ++ List.replicate N Value.null = List.replicate N .null from rfl, lget_rep] at h
    exact absurd h.symm hv
  | cons a r ih =>
    intro k j v ha h hv
    rw [List.all_cons, Bool.and_eq_true] at ha
    cases a with
    | int x =>
      cases j with
      | zero => subst h; exact List.mem_cons_self
      | succ j =>
        have := ih (k + 1) j v ha.2 h hv
        rw [show k + (j + 1) = k + 1 + j by omega]
        exact List.mem_cons_of_mem _ this
    | ref x =>
      cases j with
      | zero => subst h; exact List.mem_cons_self
      | succ j =>
        have := ih (k + 1) j v ha.2 h hv
        rw [show k + (j + 1) = k + 1 + j by omega]
        exact List.mem_cons_of_mem _ this
    | long x =>
      cases j with
      | zero => subst h; exact List.mem_cons_self
      | succ j =>
        cases j with
        | zero => exact absurd h.symm hv
        | succ j =>
          have := ih (k + 2) j v ha.2 h hv
          rw [show k + (j + 1 + 1) = k + 2 + j by omega]
          exact List.mem_cons_of_mem _ this
    | _ => cases ha.1
theorem ent_len (ad : Nat → Nat) : ∀ as : List Value, as.all okA = true → (lg_sl (as.map (rv ad))).length = (ent as).length := by
  intro as
  induction as with
  | nil => intro _; rfl
  | cons a r ih =>
    intro ha
    rw [List.all_cons, Bool.and_eq_true] at ha
    have := ih ha.2
    cases a <;> first | (cases ha.1; done) | (simp only [lg_sl, ent, List.map_cons, List.flatMap_cons, rv, Value.category, List.length_append] at this ⊢; simp [this])
theorem sem_of_go {l : Launch} {ro : RO} {Y : MT} {as : List Value} {n n' : Nat} {M : Mem} {Post : Option Value → Mem → Prop} (hpl : plainName Y.1.cls = true) (hcl : Y.1.cls = RN Y.2.2.2.2.2.2) (hle : n ≤ n') (hn' : n' ≤ 39) (hok : as.all okA = true) (hlen : (ent as).length ≤ Y.2.2.1)
    (h : Go l ro Y n M 0 (ent as ++ List.replicate (Y.2.2.1 - (ent as).length) .null) [] n' Post) : SemR l ro Y as n M n' Post := by
  have hn : n ≤ 39 := Nat.le_trans hle hn'
  intro ad cA D sz
  refine Met.ofW (cc := Y.2.1) (maxL := Y.2.2.1) (ret := Y.2.2.2.1) hpl rfl ?_
  intro p e s m args below meth c s₁ B hml hv
  obtain ⟨rfl, hsz, hR, hNW, hro, hz⟩ := hv
  have hx := B.exec
  have hb := B.bytes
  have hr := B.returns
  have hts := atoms_spec (ws := Yw Y) B.pre
  have hown := findClass_of_methodNamed B.named
  have hlocks := B.notSynchronized
  subst hsz
  have hm := ssz_mono hle
  rw [lg_entry_eq]
  have hel := ent_len ad as hok
  have hl := lv_entry (as.map (rv ad)) (n := Y.2.2.1) (by rw [hel]; exact hlen)
  refine h p e _ s m (as.map (rv ad)).toArray below meth c (AF n ad s.heap.size) ad cA D 0 0 _ ⟨hx, hb, hml, by rw [← hcl]; exact hown, fun w hw => hts w (List.mem_cons_of_mem _ hw), hNW, fun q hq => Or.inr hq, hro, hz, ⟨Nat.le_refl _, Nat.le_refl _⟩, fun hi => by rw [(name_of_methodNamed B.named B.method).1]; simpa using hi⟩ hn ?_ ?_ ?_ s.heap [] _ hR va_S.rf ⟨hl.1, hl.2.1, by simp; omega, fun i v hv => ?_⟩
  · show 0 + n' ≤ (n' - n) + n
    omega
  · show 0 + ssz n' ≤ (ssz n' - ssz n) + ssz n
    omega
  · intro v M' ad' cA' H' locs' ls' pc' cells' slots' hp hok' hd hag hR' hS' hc' hs'
    have e1 : cells' = n' - n := by omega
    have e2 : slots' = ssz n' - ssz n := by omega
    subst e1; subst e2
    have hq : ∀ (hv : v = none ∨ (∃ x, v = some (.int x)) ∨ ∃ x, v = some (.long x)) (t : State), t.heap = H' → s.WarmedH t.vm → QSem n ad D s.heap.size n' Post (as.map (rv ad)).toArray s (.returned v) t := by
      intro hv t ht hW
      exact ⟨⟨v, M', ad', cA', rfl, hp, hv, hag, by rw [ht]; exact (hR' hn').moved hW.alike⟩, hS'.F ht⟩
    rcases hok' with ⟨rfl, hret⟩ | ⟨x, rfl, hret⟩ | ⟨x, rfl, hret⟩
    · exact W.vret hx hb (by rw [hr]; exact hret) (hq (Or.inl rfl)) hS'.2.2 hd
    · rcases hret with hret | ⟨hret, h01⟩
      · exact W.iret hx hb (by rw [hr]; exact hret) (hq (Or.inr (Or.inl ⟨x, rfl⟩))) hS'.2.2 hd
      · exact W.zret hx hb (by rw [hr]; exact hret) (nar_bool h01).2.1 (hq (Or.inr (Or.inl ⟨x, rfl⟩))) hS'.2.2 hd
    · exact W.lret hx hb (by rw [hr]; exact hret) (hq (Or.inr (Or.inr ⟨x, rfl⟩))) hS'.2.2 hd
  · have hne : v ≠ .null := by
      rcases hv.2 with ⟨x, rfl⟩ | ⟨x, rfl⟩ | ⟨⟨x, rfl⟩, -⟩ <;> exact fun q => by cases q
    have := ent_args ad _ as 0 i v hok hv.1 hne
    rw [Nat.zero_add] at this
    exact hl.2.2 _ this
/-! ===== calls ===== -/
theorem nw_tab {w : Cond} (h : w ∈ NW) : w.onTables = true := by
  have := (List.mem_filter.mp h).2
  split at this <;> first | rfl | cases this
theorem nw_warm {w : Cond} (h : w ∈ NW) {s U : State} (hW : s.WarmedH U.vm) (hz : va_Nw w s) : va_Nw w U := by
  have := (List.mem_filter.mp h).2
  split at this
  · exact va_Nw.warmF hW hz
  · exact va_Nw.warmM hW hz
  · cases this
theorem preU_blind {ro : RO} {n : Nat} {M : Mem} {ad : Nat → Nat} {cA : Nat → ClassId} {D : va_G} {sz : Nat} {as : List Value} : FrameBlind (va_Pc as (PreU ro n M ad cA D sz)) := by
  intro a U g mk h
  obtain ⟨h0, h1, h2, h3, h4, h5⟩ := h
  exact ⟨h0, h1, h2.moved (U := U.calling g mk a) (Vm.Alike.refl U.vm), fun w hw => va_Nw.same (u := U) (U := U.calling g mk a) (nw_tab hw) rfl (h3 w hw), fun o N f hf => ⟨(h4 o N f hf).1, (h4 o N f hf).2.1, (h4 o N f hf).2.2.moved (U := U.calling g mk a) (Vm.Alike.refl U.vm)⟩, fun t ht => (h5 t ht).moved (U := U.calling g mk a) (Vm.Alike.refl U.vm)⟩
section CALL
variable {l : Launch} {ro : RO} {Y : MT} {n n' n2 : Nat} {M : Mem} {pc : Nat} {L st : List Value} {Post Post1 : Option Value → Mem → Prop}
variable {p : Program} {e : Env} {R : Room} {s : State} {m : MethodId} {args : Array Value} {below : List Frame} {meth : Method} {c : Code} {A : Nat → Prop} {ad : Nat → Nat} {cA : Nat → ClassId} {D : va_G} {H : Heap} {locs : List Loc} {cells slots : Nat} {Q : State → Prop} {ls : Array Slot}
theorem af_in (F : FC ro Y p R s m args meth c A ad) (hR : RelH n M ad cA D A H s) (hS : va_S A s.heap H locs) : ∀ q, AF n ad H.size q → A q := by
  intro q h
  rcases h with ⟨i, hi, rfl⟩ | h
  · exact hR.inA hi
  · exact F.2.2.2.2.2.2.1 q (Nat.le_trans hS.1 h)
theorem preU_of {roc : RO} (F : FC ro Y p R s m args meth c A ad) (hro : ∀ o N f, roc o = some (N, f) → ro o = some (N, f)) (hR : RelH n M ad cA D A H s) (hS : va_S A s.heap H locs) {U : State} (hU : U.heap = H) (hW : s.WarmedH U.vm) : PreU roc n M ad cA D H.size U := by
  have haf := af_in F hR hS
  obtain ⟨hx, hb, hml, hown, hgw, hnw, hA, hr, hz, hroom, hini⟩ := F
  refine ⟨by rw [hU], ?_, fun w hw => nw_warm hw hW (hnw w hw), fun o N f hf => ?_, fun t ht => ?_⟩
  · rw [hU]
    obtain ⟨h1, h2, h3, h4⟩ := hR.moved hW.alike
    refine ⟨h1, ⟨h2.1, fun k q hk => Or.inl ?_⟩, h3, h4⟩
    have hkn : k < n := by
      have := (List.getElem?_eq_some_iff.mp hk).1
      simpa [wl] using this
    rw [wl_at hkn] at hk
    cases hk
    exact ⟨k, hkn, rfl⟩
  · obtain ⟨g1, g2, g3⟩ := hr o N f (hro o N f hf)
    refine ⟨g1, g2, ?_⟩
    rw [hU]
    exact ((g3.kept (H1 := H) hS.2.1).narrow haf).moved hW.alike
  · rw [hU]
    exact (((hz t ht).kept (H1 := H) hS.2.1).narrow haf).moved hW.alike
theorem pl_call {st0 : List Value} {a : Array Value} {rest : List Value} (F : FC ro Y p R s m args meth c A ad) (hR : RelH n M ad cA D A H s) (hS : va_S A s.heap H locs)
    (hr : va_Run p l e R s m args below meth c H locs cells slots (n2 - n) (ssz n2 - ssz n) (F0 m pc ls st0) (rest.map (rv ad)) (QSem n ad D H.size n2 Post1 a) (AF n ad H.size))
    (kk : ∀ (v : Option Value) (M2 : Mem) (ad2 : Nat → Nat) (cA2 : Nat → ClassId) (H2 : Heap) (locs2 : List Loc), Post1 v M2 → agr n n2 ad ad2 → (∀ f, (vst v).map (rv f) = vst v) → RelH n2 M2 ad2 cA2 D A H2 s → va_S A s.heap H2 locs2 → W p l e R s m args below meth c H2 locs2 (cells + (n2 - n)) (slots + (ssz n2 - ssz n)) Q (F0 m (pc + 3) ls (vst v ++ rest.map (rv ad)))) :
    W p l e R s m args below meth c H locs cells slots Q (F0 m pc ls st0) := by
  have haf := af_in F hR hS
  intro T hT X
  obtain ⟨v, st₀, t, T', L, h0, X', hL, e1, e2, ⟨⟨v', M2, ad2, cA2, hv, hp, hk, hag, hR2⟩, hz, hq⟩, stp⟩ := hr T hT X
  cases hv
  rw [h0] at hz hq
  have hS2 : va_S A s.heap T'.heap (locs ++ L) := ⟨Nat.le_trans hS.1 (by rw [e1]; exact hz), fun q h1 h2 => by rw [e1, hq q (Nat.lt_of_lt_of_le h1 hS.1) (fun z => h2 (haf q z))]; exact hS.2.1 q h1 h2, fun q hq => by
      rcases List.mem_append.mp hq with h | h
      · exact hS.2.2 q h
      · exact haf _ (hL q h)⟩
  have hR3 : RelH n2 M2 ad2 cA2 D A T'.heap s := by
    rw [e1]
    obtain ⟨g1, g2, g3, g4⟩ := hR2.moved (U := s) (by rw [← e2]; exact X'.warmed.alike.symm)
    exact ⟨g1, ⟨g2.1, fun k q hk => haf _ (g2.2 k q hk)⟩, g3, g4⟩
  have hvv : ∀ f, (vst v).map (rv f) = vst v := by
    intro f
    rcases hk with rfl | ⟨x, rfl⟩ | ⟨x, rfl⟩ <;> rfl
  obtain ⟨t2, a1, b1⟩ := kk v M2 ad2 cA2 T'.heap (locs ++ L) hp hag hvv hR3 hS2 T' rfl X'
  refine ⟨t2, stp t2 ?_, b1⟩
  have : v.toList = vst v := by cases v <;> rfl
  rw [this]
  exact a1
end CALL
end
section
def rok (n : Nat) (v : Value) : Bool := match v with
  | .ref o => decide (o < n ∨ 39 ≤ o)
  | _ => true
theorem rv_agr {n n2 : Nat} {ad ad2 : Nat → Nat} (h : agr n n2 ad ad2) {v : Value} (hv : rok n v = true) : rv ad2 v = rv ad v := by
  cases v <;> first | rfl | (simp only [rok, decide_eq_true_eq] at hv; simp only [rv, h.2 _ hv])
theorem rv_agrs {n n2 : Nat} {ad ad2 : Nat → Nat} (h : agr n n2 ad ad2) {st : List Value} (hv : st.all (rok n) = true) : st.map (rv ad2) = st.map (rv ad) :=
  List.map_congr_left fun v hm => rv_agr h (List.all_eq_true.mp hv v hm)
theorem lget_mem : ∀ (L : List Value) (i : Nat), lget L i = .null ∨ lget L i ∈ L := by
  intro L
  induction L with
  | nil => intro i; exact Or.inl rfl
  | cons a r ih =>
    intro i
    cases i with
    | zero => exact Or.inr List.mem_cons_self
    | succ i => exact (ih i).imp id (List.mem_cons_of_mem _)
theorem lr_agr {n n2 : Nat} {ad ad2 : Nat → Nat} (h : agr n n2 ad ad2) {ls : Array Slot} {nL : Nat} {L : List Value} (hl : lr ad ls nL L) (hv : L.all (rok n) = true) : lr ad2 ls nL L := by
  refine ⟨hl.1, hl.2.1, hl.2.2.1, fun i v hc => ?_⟩
  rw [rv_agr h]
  · exact hl.2.2.2 i v hc
  · rcases lget_mem L i with q | q
    · rw [hc.1] at q
      subst q
      rfl
    · rw [hc.1] at q
      exact List.all_eq_true.mp hv v q
theorem yw_good {Y : MT} (hcw : Cond.code Y.1 Y.2.1 Y.2.2.1 Y.2.2.2.1 ∈ GW) : GoodIn GW (Yw Y) := by
  intro w hw
  rcases List.mem_cons.mp hw with rfl | hw
  · exact gw_good _ hcw
  · exact gw_good _ hw
section CALLS
variable {l : Launch} {ro : RO} {Y Y2 : MT} {n n' n2 : Nat} {M : Mem} {pc : Nat} {L st : List Value} {Post Post1 : Option Value → Mem → Prop}
variable {p : Program} {e : Env} {R : Room} {s : State} {m : MethodId} {args : Array Value} {below : List Frame} {meth : Method} {c : Code} {A : Nat → Prop} {ad : Nat → Nat} {cA : Nat → ClassId} {D : va_G} {H : Heap} {locs : List Loc} {cells slots : Nat} {Q : State → Prop} {ls : Array Slot}
theorem fc_agr (F : FC ro Y p R s m args meth c A ad) {ad2 : Nat → Nat} (h : agr n n2 ad ad2) : FC ro Y p R s m args meth c A ad2 := by
  obtain ⟨hx, hb, hml, hown, hgw, hnw, hA, hr, hz, hroom, hini⟩ := F
  refine ⟨hx, hb, hml, hown, hgw, hnw, hA, fun o N f hf => ?_, fun t ht => ?_, hroom, hini⟩
  · obtain ⟨g1, g2, g3⟩ := hr o N f hf
    rw [h.2 o (Or.inr g2)]
    exact ⟨g1, g2, g3⟩
  · rw [h.2 t (Or.inr (by omega))]
    exact hz t ht
/-- what the words of a call say, by its row -/
theorem ck_spec {cn idx kind na p1 p2 p3 p4 p5 : Nat} (h : clOk (cn, idx, kind, Y2, na, p1, p2, p3, p4, p5) = true) :
    (lw_tbl[p1]? = some (if kind % 2 = 1 then .methodLinkNest (RN cn) idx Y2.1 "RationDesk" else .methodLink (RN cn) idx Y2.1)) ∧ (lw_tbl[p2]? = some (if kind / 2 = 1 then .static Y2.1 else .instanceMethod Y2.1)) ∧ (kind / 2 = 0 → lw_tbl[p3]? = some (.selects Y2.1.cls Y2.1 Y2.1)) ∧ (lw_tbl[p4]? = some (.initialized Y2.1.cls)) ∧
    Y2.1.cls = RN Y2.2.2.2.2.2.2 ∧ (kind / 2 ≠ 1 → Y2.2.2.2.2.2.2 < 6) ∧ (Y2.1.cls ≠ "java/lang/invoke/MethodHandle" ∧ Y2.1.cls ≠ "java/lang/invoke/VarHandle" ∧ (parseMethodDescriptor Y2.1.desc).map (fun d => d.parameters.length) = some na) ∧ (kind / 2 = 2 → Y2.1.name = "<init>" ∧ Y2.2.2.2.1 = none) := by
  simp only [clOk, Bool.and_eq_true, Bool.or_eq_true, decide_eq_true_eq, bne_iff_ne, beq_iff_eq, ne_eq] at h
  obtain ⟨⟨⟨⟨⟨⟨⟨h1, h2⟩, h3⟩, h4⟩, h5⟩, h6⟩, h7⟩, h8⟩ := h
  exact ⟨h1, h2, fun q => h3.resolve_left (fun z => z q), h4, h5, fun q => h6.resolve_left q, h7, fun q => h8.resolve_left (fun z => z q)⟩
/-- the four ways of a call, one row: the way of the words is the kind's -/
theorem pl_run {roc : RO} {cn idx kind na p1 p2 p3 p4 p5 : Nat} (hck : clOk (cn, idx, kind, Y2, na, p1, p2, p3, p4, p5) = true) (hcn : Y.2.2.2.2.2.2 = cn) (hcw : Cond.code Y2.1 Y2.2.1 Y2.2.2.1 Y2.2.2.2.1 ∈ GW)
    {as : List Value} {rest : List Value} {recv : List Value} (hd : decode Y.2.1 pc = .ok ((if kind / 2 = 0 then .invokevirtual idx else if kind / 2 = 1 then .invokestatic idx else .invokespecial idx), 3)) (hk : kind < 6) (hna : as.length = na)
    (hrecv1 : kind / 2 = 1 → recv = []) (hrecv2 : kind / 2 ≠ 1 → ∃ o, recv = [.ref o] ∧ o < n ∧ shg SHL o = some (.inl Y2.2.2.2.2.2.2)) (hcat : (rest.map fun v => v.category).sum ≤ 8)
    (hroom : Y2.2.2.2.2.1 + 1 ≤ Y.2.2.2.2.1 ∧ 8 + (Y2.2.2.1 + 11) + Y2.2.2.2.2.2.1 ≤ Y.2.2.2.2.2.1) (hS2 : SemR l roc Y2 (recv ++ as) n M n2 Post1) (hc : cells + (n2 - n) ≤ R.cells) (hs : slots + (ssz n2 - ssz n) ≤ R.slots)
    (F : FC ro Y p R s m args meth c A ad) (hro : ∀ o N f, roc o = some (N, f) → ro o = some (N, f)) (hR : RelH n M ad cA D A H s) (hS : va_S A s.heap H locs) (hl : lr ad ls Y.2.2.1 L) :
    va_Run p l e R s m args below meth c H locs cells slots (n2 - n) (ssz n2 - ssz n) (F0 m pc ls ((as.reverse ++ (recv ++ rest)).map (rv ad))) (rest.map (rv ad)) (QSem n ad D H.size n2 Post1 ((recv ++ as).map (rv ad)).toArray) (AF n ad H.size) := by
  subst hcn
  obtain ⟨w1, w2, w3, w4, hcl, hc7, hdn, hini2⟩ := ck_spec hck
  have hpre : ∀ U : State, U.heap = H → s.WarmedH U.vm → PreU roc n M ad cA D H.size U := fun U hU hW => preU_of F hro hR hS hU hW
  have haf := af_in F hR hS
  have F' := F
  obtain ⟨hx, hb, hml, hown, hgw, hnw, hA, hr, hz, hrm, hini⟩ := F'
  have hM := hS2 ad cA D H.size
  have hrooms : Y2.2.2.2.2.1 + 1 ≤ R.frames ∧ 8 + (Y2.2.2.1 + 11) + Y2.2.2.2.2.2.1 ≤ R.locals := ⟨Nat.le_trans hroom.1 hrm.1, Nat.le_trans hroom.2 hrm.2⟩
  have hfix : CallFix p m c Y.2.1 Y.2.2.1 s args GW (RN Y.2.2.2.2.2.2) := ⟨hx, hb, hml, hown, hgw⟩
  have hyw := yw_good hcw
  have ini := gw_at w4 rfl
  have hcat2 : ((rest.map (rv ad)).map fun v => v.category).sum ≤ 8 := by
    rw [List.map_map]
    have : ((fun v => v.category) ∘ rv ad) = fun (v : Value) => v.category := by
      funext v
      exact rv_cat ad v
    rw [this]
    exact hcat
  have hrec : kind / 2 ≠ 1 → ∀ o, recv = [.ref o] → o < n → shg SHL o = some (.inl Y2.2.2.2.2.2.2) → ∃ cell : Cell, H[ad o]? = some cell ∧ cell.vm.isStatics = false ∧ s.vm.findClass Y2.1.cls = some cell.cls := by
    intro hk1 o _ ho hsh
    rw [hcl]
    have hent : (wl n ad cA M)[o]? = some (ad o, .inr (Y2.2.2.2.2.2.2, (List.range (nf Y2.2.2.2.2.2.2)).map (fval ad M Y2.2.2.2.2.2.2 o))) := by
      rw [wl_at ho, went, hsh]
    exact va_recv hR.2.2.1 hR.1 (cl_at _ (hc7 hk1)) hent
  have hmap : (as.reverse ++ (recv ++ rest)).map (rv ad) = (as.map (rv ad)).reverse ++ (recv.map (rv ad) ++ rest.map (rv ad)) := by simp
  rw [hmap]
  have hmap2 : ((recv ++ as).map (rv ad)).toArray = (recv.map (rv ad) ++ as.map (rv ad)).toArray := by simp
  rcases (show kind = 0 ∨ kind = 1 ∨ kind = 2 ∨ kind = 3 ∨ kind = 4 ∨ kind = 5 by omega) with rfl | rfl | rfl | rfl | rfl | rfl
  · obtain ⟨o, rfl, ho, hsh⟩ := hrecv2 (by decide)
    have hGV : GoodIn GW (wsV (RN Y.2.2.2.2.2.2) idx Y2.1.cls Y2.1 (Yw Y2)) := by
      intro w hw
      rcases List.mem_append.mp hw with hw | hw
      · simp only [List.mem_cons, List.not_mem_nil, or_false] at hw
        rcases hw with rfl | rfl | rfl | rfl
        · exact gw_good _ (gw_at w1 rfl)
        · exact gw_good _ (gw_at w2 rfl)
        · exact gw_good _ (gw_at (w3 rfl) rfl)
        · exact gw_good _ ini
      · exact hyw w hw
    exact va_runV (As := as.map (rv ad)) hfix hM (cwV na hgw hGV rfl rfl rfl ⟨rfl, hdn⟩ hrooms) ⟨preU_blind, hrec (by decide) o rfl ho hsh, fun U hU hW => ⟨rfl, hpre U hU hW⟩⟩ rfl (by simp [hna]) hl.1 rfl (lv_room hcat2) hd ⟨hc, hs⟩
  · obtain ⟨o, rfl, ho, hsh⟩ := hrecv2 (by decide)
    exact va_runVN (As := as.map (rv ad)) hfix hM ⟨va_cnB na hgw hyw rfl rfl rfl (hnw _ (nw_m w1)) (hgw _ ini) hdn hrooms, hgw _ (gw_at w2 rfl), hgw _ (gw_at (w3 rfl) rfl)⟩ ⟨preU_blind, hrec (by decide) o rfl ho hsh, fun U hU hW => ⟨rfl, hpre U hU hW⟩⟩ rfl (by simp [hna]) hl.1 rfl (lv_room hcat2) hd ⟨hc, hs⟩
  · obtain rfl := hrecv1 (by decide)
    have hGS : GoodIn GW (va_wsS (RN Y.2.2.2.2.2.2) idx Y2.1 (Yw Y2)) := by
      intro w hw
      rcases List.mem_append.mp hw with hw | hw
      · simp only [List.mem_cons, List.not_mem_nil, or_false] at hw
        rcases hw with rfl | rfl | rfl
        · exact gw_good _ (gw_at w1 rfl)
        · exact gw_good _ (gw_at w2 rfl)
        · exact gw_good _ ini
      · exact hyw w hw
    exact va_runS (As := as.map (rv ad)) hfix hM (va_cwS na hgw hGS rfl rfl rfl hdn hrooms) ⟨preU_blind, fun U hU hW => ⟨rfl, hpre U hU hW⟩⟩ rfl (by simp [hna]) hl.1 rfl (lv_room hcat2) hd ⟨hc, hs⟩
  · obtain rfl := hrecv1 (by decide)
    exact va_runSN (As := as.map (rv ad)) hfix hM ⟨va_cnB na hgw hyw rfl rfl rfl (hnw _ (nw_m w1)) (hgw _ ini) hdn hrooms, hgw _ (gw_at w2 rfl), trivial⟩ ⟨preU_blind, fun U hU hW => ⟨rfl, hpre U hU hW⟩⟩ rfl (by simp [hna]) hl.1 rfl (lv_room hcat2) hd ⟨hc, hs⟩
  · obtain ⟨o, rfl, ho, hsh⟩ := hrecv2 (by decide)
    obtain ⟨hnm, hret⟩ := hini2 (by decide)
    exact va_runI (As := as.map (rv ad)) (maxL := Y2.2.2.1) (bytes := Y2.2.1) hfix hM (cwI na hgw hyw (by unfold Yw; rw [hret]) rfl rfl (hgw _ ini) (hgw _ (gw_at w1 rfl)) (hgw _ (gw_at w2 rfl)) hnm hdn hrooms) ⟨preU_blind, fun U hU hW => ⟨rfl, hpre U hU hW⟩⟩ rfl (by simp [hna]) hl.1 rfl (lv_room hcat2) hd ⟨hc, hs⟩
  · obtain ⟨o, rfl, ho, hsh⟩ := hrecv2 (by decide)
    obtain ⟨hnm, hret⟩ := hini2 (by decide)
    exact va_runIN (As := as.map (rv ad)) (maxL := Y2.2.2.1) (bytes := Y2.2.1) hfix hM ⟨va_cnB na hgw hyw (by unfold Yw; rw [hret]) rfl rfl (hnw _ (nw_m w1)) (hgw _ ini) hdn hrooms, hnm, hgw _ (gw_at w2 rfl)⟩ ⟨preU_blind, fun U hU hW => ⟨rfl, hpre U hU hW⟩⟩ rfl (by simp [hna]) hl.1 rfl (lv_room hcat2) hd ⟨hc, hs⟩
def cInstr (kind idx : Nat) : Instr := if kind / 2 = 0 then .invokevirtual idx else if kind / 2 = 1 then .invokestatic idx else .invokespecial idx
/-- a call: the callee's contract, then what follows for each of its answers -/
theorem go_call {roc : RO} {cn idx kind na p1 p2 p3 p4 p5 : Nat} {stk : List Value} (recv as : List Value) (hck : clOk (cn, idx, kind, Y2, na, p1, p2, p3, p4, p5) = true) (hcw : Cond.code Y2.1 Y2.2.1 Y2.2.2.1 Y2.2.2.2.1 ∈ GW)
    (hst : stk = as.reverse ++ (recv ++ st)) (hd : okd Y.2.1 pc (cInstr kind idx) 3 = true) (hside : (decide (Y.2.2.2.2.2.2 = cn) && decide (kind < 6) && decide (as.length = na) && decide (n ≤ n2) && decide (n2 ≤ n') && decide (n2 ≤ 39) && decide (Y2.2.2.2.2.1 + 1 ≤ Y.2.2.2.2.1 ∧ 8 + (Y2.2.2.1 + 11) + Y2.2.2.2.2.2.1 ≤ Y.2.2.2.2.2.1)) = true)
    (hrecv1 : kind / 2 = 1 → recv = []) (hrecv2 : kind / 2 ≠ 1 → ∃ o, recv = [.ref o] ∧ o < n ∧ shg SHL o = some (.inl Y2.2.2.2.2.2.2)) (hcat : (st.map fun v => v.category).sum ≤ 8)
    (hnew : n2 = n ∨ (L.all (rok n) && st.all (rok n)) = true) (hro : ∀ o N f, roc o = some (N, f) → ro o = some (N, f))
    (hS2 : SemR l roc Y2 (recv ++ as) n M n2 Post1) (k : ∀ (v : Option Value) (M2 : Mem), Post1 v M2 → Go l ro Y n2 M2 (pc + 3) L (vst v ++ st) n' Post) : Go l ro Y n M pc L stk n' Post := by
  subst hst
  simp only [Bool.and_eq_true, decide_eq_true_eq] at hside
  obtain ⟨⟨⟨⟨⟨⟨s1, s2⟩, s3⟩, s4⟩, s5⟩, s6⟩, s7⟩ := hside
  intro p e R s m args below meth c A ad cA D cells slots Q F hn hc hs K H locs ls hR hS hl
  have m1 := ssz_mono s4
  have m2 := ssz_mono s5
  refine pl_call (n2 := n2) (Post1 := Post1) (a := ((recv ++ as).map (rv ad)).toArray) (rest := st) F hR hS (pl_run hck s1 hcw (okd_eq hd) s2 s3 hrecv1 hrecv2 hcat s7 hS2 (by omega) (by omega) F hro hR hS hl) ?_
  intro v M2 ad2 cA2 H2 locs2 hp hag hvv hR2 hS2'
  have F2 := fc_agr F hag
  have hst2 : vst v ++ st.map (rv ad) = (vst v ++ st).map (rv ad2) := by
    rw [List.map_append, hvv ad2]
    rcases hnew with h | h
    · rw [hag.1 h]
    · rw [Bool.and_eq_true] at h
      rw [rv_agrs hag h.2]
  have hl2 : lr ad2 ls Y.2.2.1 L := by
    rcases hnew with h | h
    · rw [hag.1 h]
      exact hl
    · rw [Bool.and_eq_true] at h
      exact lr_agr hag hl h.1
  rw [hst2]
  refine k v M2 hp p e R s m args below meth c A ad2 cA2 D (cells + (n2 - n)) (slots + (ssz n2 - ssz n)) Q F2 s6 (by omega) (by omega) ?_ H2 locs2 ls hR2 hS2' hl2
  intro v' M' ad' cA' H' locs' ls' pc' cells' slots' q1 q2 q3 q4 q5 q6 q7 q8
  refine K v' M' ad' cA' H' locs' ls' pc' cells' slots' q1 q2 q3 ⟨fun h => ?_, fun i hi => ?_⟩ q5 q6 (by omega) (by omega)
  · rw [q4.1 (by omega), hag.1 (by omega)]
  · rw [q4.2 i (by omega), hag.2 i hi]
/-- the last call of a method: what it makes of its own is nobody's later; the caller's objects are forgotten -/
theorem go_last {roc : RO} {M0 : Mem} {cn idx kind na p1 p2 p3 p4 p5 : Nat} {stk : List Value} (as : List Value) (hck : clOk (cn, idx, kind, Y2, na, p1, p2, p3, p4, p5) = true) (hcw : Cond.code Y2.1 Y2.2.1 Y2.2.2.1 Y2.2.2.2.1 ∈ GW)
    (hst : stk = as.reverse) (hd : okd Y.2.1 pc (cInstr kind idx) 3 = true) (hd2 : okd Y.2.1 (pc + 3) .ireturn 1 = true) (hside : (decide (Y.2.2.2.2.2.2 = cn) && decide (kind < 6) && decide (kind / 2 = 1) && decide (as.length = na) && decide (n2 + n = n') && decide (39 < n') && decide (n2 ≤ 39) && decide (ssz n2 + ssz n = ssz n') && decide (Y2.2.2.2.2.1 + 1 ≤ Y.2.2.2.2.1 ∧ 8 + (Y2.2.2.1 + 11) + Y2.2.2.2.2.2.1 ≤ Y.2.2.2.2.2.1)) = true)
    (hint : ∀ f : Nat → Nat, as.map (rv f) = as) (hret : Y.2.2.2.1 = some .boolean) (hro : ∀ o N f, roc o = some (N, f) → ro o = some (N, f))
    (hS2 : SemR l roc Y2 as 0 M0 n2 (fun v _ => v = some (.int 1))) (hp : Post (some (.int 1)) M0) : Go l ro Y n M pc L stk n' Post := by
  subst hst
  simp only [Bool.and_eq_true, decide_eq_true_eq] at hside
  obtain ⟨⟨⟨⟨⟨⟨⟨⟨s1, s2⟩, s3⟩, s4⟩, s5⟩, s6⟩, s7⟩, s8⟩, s9⟩ := hside
  intro p e R s m args below meth c A ad cA D cells slots Q F hn hc hs K H locs ls hR hS hl
  have hR0 : RelH 0 M0 ad cA D A H s := ⟨fun k q h => by simp [wl] at h, ⟨fun i j p q h => by simp [wl] at h, fun k q h => by simp [wl] at h⟩, hR.2.2.1, fun i hi => absurd hi (Nat.not_lt_zero i)⟩
  have h0 : ssz 0 = 0 := rfl
  have hrun := pl_run (n := 0) (n2 := n2) (M := M0) (Q := Q) (as := as) (rest := []) (recv := []) (Post1 := fun v _ => v = some (.int 1)) hck s1 hcw (okd_eq hd) s2 s4 (fun _ => rfl) (fun h => absurd s3 h) (by decide) s9 hS2 (cells := cells) (slots := slots) (by omega) (by omega) F hro hR0 hS hl
  rw [show as.reverse ++ ([] ++ ([] : List Value)) = as.reverse by simp] at hrun
  refine pl_call (n := 0) (n2 := n2) (M := M0) (Post1 := fun v _ => v = some (.int 1)) (a := (([] ++ as).map (rv ad)).toArray) (rest := []) F hR0 hS hrun ?_
  intro v M2 ad2 cA2 H2 locs2 hv hag hvv hR2 hS2'
  subst hv
  have := K (some (.int 1)) M0 ad cA H2 locs2 ls (pc + 3) (cells + n2) (slots + ssz n2) hp (Or.inr (Or.inl ⟨1, rfl, Or.inr ⟨hret, Or.inr rfl⟩⟩)) (okd_eq hd2) ⟨fun _ => rfl, fun _ _ => rfl⟩ (fun h => absurd h (Nat.not_le.mpr s6)) hS2' (by omega) (by omega)
  exact this
end CALLS
end
section
/-! ===== making objects and rows; Object's constructor; Math.abs; the switch ===== -/
def zrow {α : Type} (f : Nat → Nat → α) (n : Nat) (z : α) : Nat → Nat → α := fun o k => if o = n then z else f o k
def zer (n : Nat) (M : Mem) : Mem := (zrow M.1 n 0, zrow M.2.1 n 0, zrow M.2.2 n .null)
theorem zrow_o {α : Type} {f : Nat → Nat → α} {n : Nat} {z : α} {o : Nat} (h : o ≠ n) : zrow f n z o = f o := by
  funext k
  exact if_neg h
theorem zrow_n {α : Type} {f : Nat → Nat → α} {n : Nat} {z : α} : zrow f n z n = fun _ => z := by
  funext k
  exact if_pos rfl
def refsOk (n : Nat) (M : Mem) : Bool := (List.range n).all fun i => (List.range 23).all fun k => rok n (M.2.2 i k)
theorem nf_le : ∀ c, c < 6 → nf c ≤ 23 := by decide +kernel
theorem went_agr {n n2 : Nat} {ad ad2 : Nat → Nat} {cA cA2 : Nat → ClassId} {M : Mem} (h : agr n n2 ad ad2) (hc : ∀ i, i < n → cA2 i = cA i) (hn : n ≤ 39) (hr : refsOk n M = true) {i : Nat} (hi : i < n) : went ad2 cA2 (zer n M) i = went ad cA M i := by
  have hne : i ≠ n := by omega
  have h1 : (zer n M).1 i = M.1 i := zrow_o hne
  have h2 : (zer n M).2.1 i = M.2.1 i := zrow_o hne
  have h3 : (zer n M).2.2 i = M.2.2 i := zrow_o hne
  rw [went, went, h.2 i (Or.inl hi), hc i hi, h1]
  split
  · rename_i ci hsh
    have hf : (List.range (nf ci)).map (fval ad2 (zer n M) ci i) = (List.range (nf ci)).map (fval ad M ci i) := by
      refine List.map_congr_left fun k hk => ?_
      have hk := List.mem_range.mp hk
      have hk2 : k < 23 := Nat.lt_of_lt_of_le hk (nf_le ci (sh_cls i ci hsh))
      have hrk := List.all_eq_true.mp (List.all_eq_true.mp hr i (List.mem_range.mpr hi)) k (List.mem_range.mpr hk2)
      unfold fval rdf
      rw [h1, h2, h3]
      split
      · rfl
      · exact rv_agr h hrk
      · rfl
    rw [hf]
  · rfl
  · rfl
theorem wl_push {n : Nat} {ad ad2 : Nat → Nat} {cA cA2 : Nat → ClassId} {M : Mem} (h : agr n (n + 1) ad ad2) (hc : ∀ i, i < n → cA2 i = cA i) (hn : n ≤ 39) (hr : refsOk n M = true) : wl (n + 1) ad2 cA2 (zer n M) = wl n ad cA M ++ [went ad2 cA2 (zer n M) n] := by
  unfold wl
  rw [List.range_succ, List.map_append]
  congr 1
  exact List.map_congr_left fun i hi => went_agr h hc hn hr (List.mem_range.mp hi)
def dfv (ci k : Nat) : Value := match fty ci k with
  | 1 => .long 0
  | 2 => .null
  | _ => .int 0
section MAKE
variable {l : Launch} {ro : RO} {Y : MT} {n n' : Nat} {M : Mem} {pc : Nat} {L st : List Value} {Post : Option Value → Mem → Prop}
theorem agr_push {n q : Nat} (ad : Nat → Nat) (hn : n < 39) : agr n (n + 1) ad (fun i => if i = n then q else ad i) :=
  ⟨fun h => by omega, fun i hi => if_neg (by omega)⟩
theorem go_new {idx ci p1 p2 p3 : Nat} (hd : okd Y.2.1 pc (.new idx) 3 = true) (hnl : NLT.contains (Y.2.2.2.2.2.2, idx, ci, p1, p2, p3) = true) (hsh : shg SHL n = some (.inl ci)) (hn' : n + 1 ≤ n') (hn39 : n < 39) (hrefs : refsOk n M = true) (hL : (L.all (rok n) && st.all (rok n)) = true)
    (k : Go l ro Y (n + 1) (zer n M) (pc + 3) L (.ref n :: st) n' Post) : Go l ro Y n M pc L st n' Post := by
  intro p e R s m args below meth c A ad cA D cells slots Q F hn hc hs K H locs ls hR hS hl
  have hnl2 := List.all_eq_true.mp NLT_ok _ (List.contains_iff_mem.mp hnl)
  simp only [Bool.and_eq_true, decide_eq_true_eq] at hnl2
  obtain ⟨⟨⟨w1, w2⟩, w3⟩, w4⟩ := hnl2
  rw [Bool.and_eq_true] at hL
  have hmono := ssz_mono hn'
  have hstep : ssz (n + 1) = ssz n + nf ci := by
    show ssz n + ssz1 n = _
    rw [ssz1, hsh]
  obtain ⟨hx, hb, hml, hown, hgw, hnw, hA, hr, hz, hroom, hini⟩ := id F
  have hdef : ∀ j, j < nf ci → defaultValue (tyT ci j) = vp_V ((List.range (nf ci)).map (dfv ci)) j := by
    intro j hj
    have h : ∀ c, c < 6 → ∀ j, j < nf c → defaultValue (tyT c j) = dfv c j := by decide +kernel
    rw [h ci w4 j hj]
    simp [vp_V, hj]
  refine va_new (ci := ci) hx hb hgw (lay_ok ci w4) (tyT ci) (tyT_ok ci w4) hown (hgw _ (gw_at w1 rfl)) (hgw _ (gw_at w2 rfl)) (hgw _ (gw_at w3 rfl)) hR.2.2.1 hR.1 hR.2.1 hS hA (cl_at ci w4) hdef (by omega) (by omega) (okd_eq hd) (fun q H1 g1 g2 g3 => ?_)
  have hag : agr n (n + 1) ad (fun i => if i = n then q else ad i) := agr_push ad hn39
  have hpush := wl_push (cA := cA) (cA2 := cA) hag (fun _ _ => rfl) hn hrefs
  have hlast : went (fun i => if i = n then q else ad i) cA (zer n M) n = (q, .inr (ci, (List.range (nf ci)).map (dfv ci))) := by
    rw [went, hsh]
    simp only [if_true]
    have : fval (fun i => if i = n then q else ad i) (zer n M) ci n = dfv ci := by
      funext k
      unfold fval rdf zer dfv
      simp only [zrow_n]
      generalize fty ci k = t
      match t with
      | 0 => rfl
      | 1 => rfl
      | 2 => rfl
      | t + 3 => rfl
    rw [this]
  rw [hlast] at hpush
  rw [← hpush] at g1 g2
  have hst2 : (Value.ref q :: st.map (rv ad)) = (Value.ref n :: st).map (rv (fun i => if i = n then q else ad i)) := by
    rw [List.map_cons, rv_agrs hag hL.2]
    simp [rv]
  rw [hst2]
  refine k p e R s m args below meth c A (fun i => if i = n then q else ad i) cA D (cells + 1) (slots + nf ci) Q (fc_agr F hag) (by omega) (by omega) (by omega) ?_ H1 locs ls ⟨g1, g2, hR.2.2.1, ?_⟩ g3 (lr_agr hag hl hL.1)
  · intro v' M' ad' cA' H' locs' ls' pc' cells' slots' q1 q2 q3 q4 q5 q6 q7 q8
    refine K v' M' ad' cA' H' locs' ls' pc' cells' slots' q1 q2 q3 ⟨fun h => by omega, fun i hi => ?_⟩ q5 q6 (by omega) (by omega)
    rw [q4.2 i (by omega), hag.2 i hi]
  · intro i hi b N hb2
    by_cases hin : i = n
    · subst hin
      rw [hsh] at hb2
      cases hb2
    · exact hR.2.2.2 i (by omega) b N hb2
def aty (b : Bool) : ArrayType := if b = true then .boolean else .int
theorem go_newarray {b : Bool} {N : Nat} {len : Int32} (hd : okd Y.2.1 pc (.newarray (aty b)) 2 = true) (hsh : shg SHL n = some (.inr (b, N))) (hlen : len = nI N) (hn' : n + 1 ≤ n') (hn39 : n < 39) (hrefs : refsOk n M = true) (hL : (L.all (rok n) && st.all (rok n)) = true)
    (k : Go l ro Y (n + 1) (zer n M) (pc + 2) L (.ref n :: st) n' Post) : Go l ro Y n M pc L (.int len :: st) n' Post := by
  intro p e R s m args below meth c A ad cA D cells slots Q F hn hc hs K H locs ls hR hS hl
  rw [Bool.and_eq_true] at hL
  have hmono := ssz_mono hn'
  have hN := sh_small n b N hsh
  have hN2 : N ≤ 364 := by
    have h : ∀ i, i < 39 → ∀ b N, shg SHL i = some (.inr (b, N)) → N ≤ 364 := by
      have h : (List.range 39).all (fun i => match shg SHL i with
        | some (.inr (_, N)) => decide (N ≤ 364)
        | _ => true) = true := by decide +kernel
      intro i hi b N hb
      have := List.all_eq_true.mp h i (List.mem_range.mpr hi)
      rw [hb] at this
      simpa using this
    exact h n hn39 b N hsh
  have hstep : ssz (n + 1) = ssz n + N := by
    show ssz n + ssz1 n = _
    rw [ssz1, hsh]
  obtain ⟨hx, hb, hml, hown, hgw, hnw, hA, hr, hz, hroom, hini⟩ := id F
  have hty : newarray.typeOf (aty b) = bty b := by cases b <;> rfl
  have harr : (Cond.arrayClass (newarray.typeOf (aty b))).before args s = true := by
    cases b
    · exact hgw _ (gw_at arr_ok.1 rfl)
    · exact hgw _ (gw_at arr_ok.2 rfl)
  have hvp : ∀ cA : ClassId, vp_cell cA (N, .inl (fun _ => 0)) = arrV cA N (fun _ => defaultValue (bty b)) := by
    intro cA
    cases b <;> rfl
  have hcl : len.toNatClampNeg = N := by rw [hlen]; exact nI_clamp hN
  have hpos : ¬ len < 0 := by rw [hlen]; exact nI_pos hN
  have hby : N * componentBytes (bty b) ≤ 536870912 := by
    have h4 : componentBytes (bty b) ≤ 4 := by cases b <;> decide
    have h5 : N * componentBytes (bty b) ≤ 364 * 4 := Nat.mul_le_mul hN2 h4
    exact Nat.le_trans h5 (Nat.le_of_ble_eq_true rfl)
  refine va_newa (ty := bty b) (a0 := (N, .inl (fun _ => 0))) hx hb harr hty hR.2.2.1 hR.1 hR.2.1 hS hA hvp hpos hcl hby (by omega) (by omega) (okd_eq hd) (fun q cN H1 gK g1 g2 g3 => ?_)
  have hag : agr n (n + 1) ad (fun i => if i = n then q else ad i) := agr_push ad hn39
  have hpush := wl_push (cA := cA) (cA2 := fun i => if i = n then cN else cA i) hag (fun i hi => if_neg (by omega)) hn hrefs
  have hlast : went (fun i => if i = n then q else ad i) (fun i => if i = n then cN else cA i) (zer n M) n = (q, .inl (cN, N, .inl (fun _ => 0))) := by
    rw [went, hsh]
    simp only [if_true]
    have : (zer n M).1 n = fun _ => 0 := zrow_n
    rw [this]
  rw [hlast] at hpush
  rw [← hpush] at g1 g2
  have hst2 : (Value.ref q :: st.map (rv ad)) = (Value.ref n :: st).map (rv (fun i => if i = n then q else ad i)) := by
    rw [List.map_cons, rv_agrs hag hL.2]
    simp [rv]
  rw [hst2]
  refine k p e R s m args below meth c A (fun i => if i = n then q else ad i) (fun i => if i = n then cN else cA i) D (cells + 1) (slots + N) Q (fc_agr F hag) (by omega) (by omega) (by omega) ?_ H1 locs ls ⟨g1, g2, hR.2.2.1, ?_⟩ g3 (lr_agr hag hl hL.1)
  · intro v' M' ad' cA' H' locs' ls' pc' cells' slots' q1 q2 q3 q4 q5 q6 q7 q8
    refine K v' M' ad' cA' H' locs' ls' pc' cells' slots' q1 q2 q3 ⟨fun h => by omega, fun i hi => ?_⟩ q5 q6 (by omega) (by omega)
    rw [q4.2 i (by omega), hag.2 i hi]
  · intro i hi b2 N2 hb2
    by_cases hin : i = n
    · subst hin
      rw [hsh] at hb2
      cases hb2
      simp only [if_true]
      exact gK.2 0 (cN, bty b) rfl
    · simp only [if_neg hin]
      exact hR.2.2.2 i (by omega) b2 N2 hb2
theorem go_obj {idx p1 : Nat} {o : Nat} (hd : okd Y.2.1 pc (.invokespecial idx) 3 = true) (hol : OLT.contains (Y.2.2.2.2.2.2, idx, p1) = true) (hroom : 1 ≤ Y.2.2.2.2.1 ∧ (st.map fun v => v.category).sum + 12 ≤ Y.2.2.2.2.2.1)
    (k : Go l ro Y n M (pc + 3) L st n' Post) : Go l ro Y n M pc L (.ref o :: st) n' Post := by
  intro p e R s m args below meth c A ad cA D cells slots Q F hn hc hs K H locs ls hR hS hl
  have hol2 := List.all_eq_true.mp OLT_ok _ (List.contains_iff_mem.mp hol)
  simp only [decide_eq_true_eq] at hol2
  have kk := k p e R s m args below meth c A ad cA D cells slots Q F hn hc hs K H locs ls hR hS hl
  obtain ⟨hx, hb, hml, hown, hgw, hnw, hA, hr, hz, hrm, hini⟩ := F
  have hcat2 : (((st.map (rv ad)).map fun v => v.category).sum) = (st.map fun v => v.category).sum := by
    rw [List.map_map]
    have : ((fun v => v.category) ∘ rv ad) = fun (v : Value) => v.category := by
      funext v
      exact rv_cat ad v
    rw [this]
  refine W.objInit hx hb hown (hgw _ (gw_at hol2 rfl)) (hgw _ (gw_at obj_ok.1 rfl)) (hgw _ (gw_at obj_ok.2 rfl)) rfl (by rw [hml]; exact hl.1) rfl (okd_eq hd) (Nat.le_trans hroom.1 hrm.1) ?_ ?_
  · show 2 * 0 + _ + 12 ≤ _
    rw [hcat2]
    have := hrm.2
    omega
  · exact W.eq (g2 := F0 m (pc + 3) ls (st.map (rv ad))) rfl kk
theorem abs_ok : lw_tbl[503]? = some (.methodLink (RN 4) 72 Lib.MathLoose.abs_long.x) ∧ lw_tbl[504]? = some (.static Lib.MathLoose.abs_long.x) ∧ lw_tbl[23]? = some (.initialized "java/lang/Math") ∧ lw_tbl[505]? = some (.code Lib.MathLoose.abs_long.x Lib.MathLoose.abs_long.code 2 (some .long)) := by decide +kernel
theorem go_abs {x : Int64} (hcn : Y.2.2.2.2.2.2 = 4) (hd : okd Y.2.1 pc (.invokestatic 72) 3 = true) (hroom : 1 ≤ Y.2.2.2.2.1 ∧ (st.map fun v => v.category).sum + 13 ≤ Y.2.2.2.2.2.1) (hnn : n ≤ n')
    (k : Go l ro Y n M (pc + 3) L (.long (if 0 < x then x else -x) :: st) n' Post) : Go l ro Y n M pc L (.long x :: st) n' Post := by
  intro p e R s m args below meth c A ad cA D cells slots Q F hn hc hs K H locs ls hR hS hl
  have kk := k p e R s m args below meth c A ad cA D cells slots Q F hn hc hs K H locs ls hR hS hl
  obtain ⟨hx, hb, hml, hown, hgw, hnw, hA, hr, hz, hrm, hini⟩ := F
  have hcat2 : (((st.map (rv ad)).map fun v => v.category).sum) = (st.map fun v => v.category).sum := by
    rw [List.map_map]
    have : ((fun v => v.category) ∘ rv ad) = fun (v : Value) => v.category := by
      funext v
      exact rv_cat ad v
    rw [this]
  have hmono := ssz_mono hnn
  refine va_mabs_long hx hb (by rw [hml]; exact hl.1.symm) hown (by rw [hcn]; exact hgw _ (gw_at abs_ok.1 rfl)) (hgw _ (gw_at abs_ok.2.1 rfl)) (hgw _ (gw_at abs_ok.2.2.1 rfl)) (hgw _ (gw_at abs_ok.2.2.2 rfl)) (Nat.le_trans hroom.1 hrm.1) ?_ (by omega) (by omega) (okd_eq hd) kk
  rw [hcat2]
  have := hrm.2
  omega
theorem go_tabOut {dflt lo hi : Int} {offs : Array Int} {len : Nat} {x : Int32} (tgt : Nat) (hd : okd Y.2.1 pc (.tableswitch dflt lo hi offs) len = true) (h : x.toInt < lo ∨ hi < x.toInt) (ht : (pc : Int) + dflt = (tgt : Int)) (k : Go l ro Y n M tgt L st n' Post) : Go l ro Y n M pc L (.int x :: st) n' Post := by
  intro p e R s m args below meth c A ad cA D cells slots Q F hn hc hs K H locs ls hR hS hl
  exact lv_tableOut F.1 F.2.1 (okd_eq hd) h ht (k p e R s m args below meth c A ad cA D cells slots Q F hn hc hs K H locs ls hR hS hl)
theorem go_tabIn {dflt lo hi : Int} {offs : Array Int} {len : Nat} {x : Int32} {off : Int} (tgt : Nat) (hd : okd Y.2.1 pc (.tableswitch dflt lo hi offs) len = true) (h1 : ¬ x.toInt < lo) (h2 : ¬ hi < x.toInt) (ho : offs[(x.toInt - lo).toNat]? = some off) (ht : (pc : Int) + off = (tgt : Int)) (k : Go l ro Y n M tgt L st n' Post) : Go l ro Y n M pc L (.int x :: st) n' Post := by
  intro p e R s m args below meth c A ad cA D cells slots Q F hn hc hs K H locs ls hR hS hl
  exact lv_tableIn F.1 F.2.1 (okd_eq hd) h1 h2 ho ht (k p e R s m args below meth c A ad cA D cells slots Q F hn hc hs K H locs ls hR hS hl)
end MAKE
end
section
-- the rows of the calls
theorem ck_0_37 : clOk (0, 37, 3, mX5_isAtom, 1, 294, 295, 0, 17, 296) = true := by decide +kernel
theorem ck_0_41 : clOk (0, 41, 0, mX0_setPlane, 5, 347, 349, 9, 18, 350) = true := by decide +kernel
theorem ck_0_45 : clOk (0, 45, 3, mX5_side, 2, 265, 245, 0, 17, 246) = true := by decide +kernel
theorem ck_0_49 : clOk (0, 49, 3, mX5_onPlane, 1, 266, 242, 0, 17, 243) = true := by decide +kernel
theorem ck_0_53 : clOk (0, 53, 0, mX0_contradict, 4, 290, 292, 6, 18, 293) = true := by decide +kernel
theorem ck_0_57 : clOk (0, 57, 3, mX5_areEqual, 3, 297, 273, 0, 17, 274) = true := by decide +kernel
theorem ck_1_22 : clOk (1, 22, 0, mX1_rebuildCell, 4, 251, 253, 5, 21, 254) = true := by decide +kernel
theorem ck_1_26 : clOk (1, 26, 2, mX1_cellOf, 2, 255, 256, 0, 21, 257) = true := by decide +kernel
theorem ck_1_30 : clOk (1, 30, 2, mX1_isCell, 1, 258, 259, 0, 21, 260) = true := by decide +kernel
theorem ck_1_34 : clOk (1, 34, 0, mX0_sidesNeeded, 1, 261, 262, 263, 18, 264) = true := by decide +kernel
theorem ck_1_40 : clOk (1, 40, 2, mX1_pairsNeeded, 1, 267, 268, 0, 21, 269) = true := by decide +kernel
theorem ck_1_43 : clOk (1, 43, 0, mX0_sidesSought, 1, 278, 279, 280, 18, 281) = true := by decide +kernel
theorem ck_1_46 : clOk (1, 46, 2, mX1_pairsSought, 1, 282, 283, 0, 21, 284) = true := by decide +kernel
theorem ck_1_49 : clOk (1, 49, 0, mX0_hasFunction, 2, 286, 287, 288, 18, 289) = true := by decide +kernel
theorem ck_1_53 : clOk (1, 53, 0, mX3_havePoint, 2, 298, 299, 300, 20, 301) = true := by decide +kernel
theorem ck_1_58 : clOk (1, 58, 0, mX1_isOpen, 1, 314, 315, 316, 21, 317) = true := by decide +kernel
theorem ck_1_67 : clOk (1, 67, 3, mX5_areEqual, 3, 272, 273, 0, 17, 274) = true := by decide +kernel
theorem ck_1_71 : clOk (1, 71, 3, mX5_onPlane, 1, 277, 242, 0, 17, 243) = true := by decide +kernel
theorem ck_1_74 : clOk (1, 74, 3, mX5_side, 2, 285, 245, 0, 17, 246) = true := by decide +kernel
theorem ck_2_25 : clOk (2, 25, 0, mX2_isSatisfiedBy, 2, 322, 324, 8, 19, 325) = true := by decide +kernel
theorem ck_2_29 : clOk (2, 29, 3, mX5_holdsIn, 2, 326, 327, 0, 17, 328) = true := by decide +kernel
theorem ck_3_46 : clOk (3, 46, 0, mX3_addTo, 3, 95, 97, 0, 20, 98) = true := by decide +kernel
theorem ck_3_59 : clOk (3, 59, 0, mX3_meet, 3, 220, 222, 2, 20, 223) = true := by decide +kernel
theorem ck_3_62 : clOk (3, 62, 2, mX3_determinant, 6, 224, 225, 0, 20, 226) = true := by decide +kernel
theorem ck_3_66 : clOk (3, 66, 3, mX5_isWithin, 2, 230, 231, 0, 17, 232) = true := by decide +kernel
theorem ck_3_70 : clOk (3, 70, 0, mX3_keep, 4, 233, 235, 3, 20, 236) = true := by decide +kernel
theorem ck_3_74 : clOk (3, 74, 2, mX3_isPlane, 1, 227, 228, 0, 20, 229) = true := by decide +kernel
theorem ck_3_78 : clOk (3, 78, 0, mX3_findSides, 4, 237, 239, 4, 20, 240) = true := by decide +kernel
theorem ck_3_82 : clOk (3, 82, 3, mX5_onPlane, 1, 241, 242, 0, 17, 243) = true := by decide +kernel
theorem ck_3_86 : clOk (3, 86, 3, mX5_side, 2, 244, 245, 0, 17, 246) = true := by decide +kernel
theorem ck_4_39 : clOk (4, 39, 0, mX4_climbCell, 2, 469, 471, 14, 22, 472) = true := by decide +kernel
theorem ck_4_43 : clOk (4, 43, 2, mX4_compare, 4, 493, 494, 0, 22, 495) = true := by decide +kernel
theorem ck_4_47 : clOk (4, 47, 0, mX3_count, 0, 473, 474, 475, 20, 476) = true := by decide +kernel
theorem ck_4_53 : clOk (4, 53, 0, mX3_sidesOf, 1, 477, 478, 479, 20, 480) = true := by decide +kernel
theorem ck_4_57 : clOk (4, 57, 0, mX3_sumAt, 4, 481, 482, 483, 20, 484) = true := by decide +kernel
theorem ck_4_61 : clOk (4, 61, 0, mX3_divisorOf, 1, 485, 486, 487, 20, 488) = true := by decide +kernel
theorem ck_4_64 : clOk (4, 64, 0, mX4_climbCorner, 3, 489, 491, 15, 22, 492) = true := by decide +kernel
theorem ck_4_68 : clOk (4, 68, 2, mX4_commonDivisor, 2, 500, 501, 0, 22, 502) = true := by decide +kernel
theorem ck_5_11 : clOk (5, 11, 5, mX0_init, 0, 34, 35, 0, 18, 36) = true := by decide +kernel
theorem ck_5_18 : clOk (5, 18, 5, mX2_init, 0, 70, 71, 0, 19, 72) = true := by decide +kernel
theorem ck_5_25 : clOk (5, 25, 4, mX3_init, 0, 89, 90, 0, 20, 91) = true := by decide +kernel
theorem ck_5_32 : clOk (5, 32, 5, mX1_init, 0, 134, 135, 0, 21, 136) = true := by decide +kernel
theorem ck_5_39 : clOk (5, 39, 5, mX4_init, 0, 151, 152, 0, 22, 153) = true := by decide +kernel
theorem ck_5_55 : clOk (5, 55, 2, mX5_isAtom, 1, 339, 295, 0, 17, 296) = true := by decide +kernel
theorem ck_5_59 : clOk (5, 59, 2, mX5_areFactors, 3, 358, 359, 0, 17, 360) = true := by decide +kernel
theorem ck_5_63 : clOk (5, 63, 2, mX5_isLimit, 1, 362, 363, 0, 17, 364) = true := by decide +kernel
theorem ck_5_66 : clOk (5, 66, 0, mX0_defineLinear, 6, 365, 366, 367, 18, 368) = true := by decide +kernel
theorem ck_5_70 : clOk (5, 70, 2, mX5_isNumber, 1, 340, 341, 0, 17, 342) = true := by decide +kernel
theorem ck_5_73 : clOk (5, 73, 0, mX0_defineFact, 3, 343, 344, 345, 18, 346) = true := by decide +kernel
theorem ck_5_77 : clOk (5, 77, 0, mX5_isDefined, 1, 376, 378, 10, 17, 379) = true := by decide +kernel
theorem ck_5_80 : clOk (5, 80, 0, mX5_isDefinedOrAbsent, 1, 380, 382, 11, 17, 383) = true := by decide +kernel
theorem ck_5_83 : clOk (5, 83, 0, mX2_add, 3, 384, 385, 386, 19, 387) = true := by decide +kernel
theorem ck_5_86 : clOk (5, 86, 0, mX2_size, 0, 388, 389, 390, 19, 391) = true := by decide +kernel
theorem ck_5_90 : clOk (5, 90, 0, mX2_raise, 0, 415, 416, 417, 19, 418) = true := by decide +kernel
theorem ck_5_94 : clOk (5, 94, 0, mX2_level, 0, 419, 420, 421, 19, 422) = true := by decide +kernel
theorem ck_5_97 : clOk (5, 97, 0, mX2_lower, 0, 432, 433, 434, 19, 435) = true := by decide +kernel
theorem ck_5_100 : clOk (5, 100, 0, mX5_refresh, 0, 212, 214, 1, 17, 215) = true := by decide +kernel
theorem ck_5_103 : clOk (5, 103, 0, mX5_isWorld, 1, 302, 304, 7, 17, 305) = true := by decide +kernel
theorem ck_5_106 : clOk (5, 106, 0, mX0_defined, 0, 306, 307, 308, 18, 309) = true := by decide +kernel
theorem ck_5_109 : clOk (5, 109, 2, mX5_holdsIn, 2, 427, 327, 0, 17, 328) = true := by decide +kernel
theorem ck_5_113 : clOk (5, 113, 0, mX5_climb, 3, 443, 445, 12, 17, 446) = true := by decide +kernel
theorem ck_5_116 : clOk (5, 116, 0, mX4_reducedOver, 0, 496, 497, 498, 22, 499) = true := by decide +kernel
theorem ck_5_120 : clOk (5, 120, 0, mX4_reducedUnder, 0, 506, 507, 508, 22, 509) = true := by decide +kernel
theorem ck_5_123 : clOk (5, 123, 0, mX4_isFound, 0, 510, 511, 512, 22, 513) = true := by decide +kernel
theorem ck_5_126 : clOk (5, 126, 0, mX4_isReached, 0, 514, 515, 516, 22, 517) = true := by decide +kernel
theorem ck_5_129 : clOk (5, 129, 0, mX4_isAtMost, 1, 526, 527, 528, 22, 529) = true := by decide +kernel
theorem ck_5_132 : clOk (5, 132, 2, mX5_isWithin, 2, 361, 231, 0, 17, 232) = true := by decide +kernel
theorem ck_5_139 : clOk (5, 139, 0, mX3_rebuild, 1, 216, 217, 218, 20, 219) = true := by decide +kernel
theorem ck_5_143 : clOk (5, 143, 0, mX1_rebuild, 2, 247, 248, 249, 21, 250) = true := by decide +kernel
theorem ck_5_146 : clOk (5, 146, 0, mX1_isOpenSomewhere, 1, 310, 311, 312, 21, 313) = true := by decide +kernel
theorem ck_5_149 : clOk (5, 149, 0, mX2_areSatisfiedBy, 1, 318, 319, 320, 19, 321) = true := by decide +kernel
theorem ck_5_152 : clOk (5, 152, 0, mX4_start, 3, 447, 448, 449, 22, 450) = true := by decide +kernel
theorem ck_5_155 : clOk (5, 155, 0, mX5_climbWorld, 1, 451, 453, 13, 17, 454) = true := by decide +kernel
theorem ck_5_159 : clOk (5, 159, 2, mX1_cellOf, 2, 455, 256, 0, 21, 257) = true := by decide +kernel
theorem ck_5_163 : clOk (5, 163, 0, mX1_isOpen, 1, 456, 315, 316, 21, 317) = true := by decide +kernel
theorem ck_5_166 : clOk (5, 166, 0, mX1_neededIn, 1, 457, 458, 459, 21, 460) = true := by decide +kernel
theorem ck_5_170 : clOk (5, 170, 0, mX1_soughtIn, 1, 461, 462, 463, 21, 464) = true := by decide +kernel
theorem ck_5_173 : clOk (5, 173, 0, mX4_include, 3, 465, 466, 467, 22, 468) = true := by decide +kernel
theorem ck_6_7 : clOk (6, 7, 2, mX6_cell, 2, 329, 330, 0, 16, 331) = true := by decide +kernel
theorem ck_6_13 : clOk (6, 13, 0, mX5_fact, 3, 335, 336, 337, 17, 338) = true := by decide +kernel
theorem ck_6_19 : clOk (6, 19, 2, mX6_small, 1, 351, 352, 0, 16, 353) = true := by decide +kernel
theorem ck_6_23 : clOk (6, 23, 0, mX5_linear, 6, 354, 355, 356, 17, 357) = true := by decide +kernel
theorem ck_6_27 : clOk (6, 27, 0, mX5_clause, 3, 372, 373, 374, 17, 375) = true := by decide +kernel
theorem ck_6_31 : clOk (6, 31, 0, mX5_world, 1, 395, 396, 397, 17, 398) = true := by decide +kernel
theorem ck_6_35 : clOk (6, 35, 2, mX6_with, 1, 405, 406, 0, 16, 407) = true := by decide +kernel
theorem ck_6_38 : clOk (6, 38, 0, mX5_push, 0, 411, 412, 413, 17, 414) = true := by decide +kernel
theorem ck_6_42 : clOk (6, 42, 2, mX6_set, 2, 392, 393, 0, 16, 394) = true := by decide +kernel
theorem ck_6_46 : clOk (6, 46, 0, mX5_holds, 1, 423, 424, 425, 17, 426) = true := by decide +kernel
theorem ck_6_49 : clOk (6, 49, 0, mX5_pop, 0, 428, 429, 430, 17, 431) = true := by decide +kernel
theorem ck_6_52 : clOk (6, 52, 0, mX5_most, 3, 439, 440, 441, 17, 442) = true := by decide +kernel
theorem ck_6_55 : clOk (6, 55, 0, mX5_top, 1, 518, 519, 520, 17, 521) = true := by decide +kernel
theorem ck_6_59 : clOk (6, 59, 0, mX5_bounded, 4, 522, 523, 524, 17, 525) = true := by decide +kernel
theorem ck_6_63 : clOk (6, 63, 2, mX6_compare, 4, 530, 531, 0, 16, 532) = true := by decide +kernel
theorem ck_6_67 : clOk (6, 67, 0, mX5_worlds, 0, 208, 209, 210, 17, 211) = true := by decide +kernel
theorem ck_6_78 : clOk (6, 78, 4, mX5_init, 0, 26, 27, 0, 17, 28) = true := by decide +kernel
theorem ck_6_79 : clOk (6, 79, 2, mX6_atoms, 2, 332, 333, 0, 16, 334) = true := by decide +kernel
theorem ck_6_83 : clOk (6, 83, 2, mX6_clauses, 3, 369, 370, 0, 16, 371) = true := by decide +kernel
theorem ck_6_87 : clOk (6, 87, 2, mX6_bits, 1, 399, 400, 0, 16, 401) = true := by decide +kernel
theorem ck_6_90 : clOk (6, 90, 2, mX6_satisfied, 3, 402, 403, 0, 16, 404) = true := by decide +kernel
theorem ck_6_94 : clOk (6, 94, 2, mX6_halves, 3, 408, 409, 0, 16, 410) = true := by decide +kernel
theorem ck_6_98 : clOk (6, 98, 2, mX6_tops, 6, 436, 437, 0, 16, 438) = true := by decide +kernel
theorem ck_6_102 : clOk (6, 102, 2, mX6_fixed, 3, 537, 538, 0, 16, 539) = true := by decide +kernel
/-- the references that the made objects hold, for good -/
def PF : Nat → Nat → Value := fun o k => match o with
  | 0 => lget [.ref 1, .ref 9, .ref 12, .ref 22, .ref 26] k
  | 1 => lget [.ref 2, .ref 3, .ref 4, .ref 5, .ref 6, .ref 7, .ref 8] k
  | 9 => lget [.ref 10, .ref 11] k
  | 12 => lget [.ref 13, .ref 14, .ref 15, .ref 16, .ref 17, .ref 18, .ref 19, .ref 20, .ref 21] k
  | 22 => lget [.ref 23, .ref 24, .ref 25] k
  | _ => .null
theorem nI_n (k : Nat) : (OfNat.ofNat k : Int32) = nI k := rfl
end
section
/-! ===== words for contracts ===== -/
noncomputable def bi (p : Prop) : Int32 := @ite Int32 p (Classical.propDecidable p) 1 0
theorem bi_t {p : Prop} (h : p) : bi p = 1 := if_pos h
theorem bi_f {p : Prop} (h : ¬ p) : bi p = 0 := if_neg h
theorem bi_01 (p : Prop) : bi p = 0 ∨ bi p = 1 := by
  rcases Classical.em p with h | h
  · exact Or.inr (bi_t h)
  · exact Or.inl (bi_f h)
theorem bi_c {p q : Prop} (h : p ↔ q) : bi p = bi q := by rw [propext h]
def pv (E : Int32) (M : Mem) : Option Value → Mem → Prop := fun r M2 => r = some (.int E) ∧ M2 = M
def pl (E : Int64) (M : Mem) : Option Value → Mem → Prop := fun r M2 => r = some (.long E) ∧ M2 = M
def pn (P : Mem → Prop) : Option Value → Mem → Prop := fun r M2 => r = none ∧ P M2
theorem pv1 {p : Prop} {M : Mem} (h : p) : pv (bi p) M (some (.int 1)) M := ⟨by rw [bi_t h], rfl⟩
theorem pv0 {p : Prop} {M : Mem} (h : ¬ p) : pv (bi p) M (some (.int 0)) M := ⟨by rw [bi_f h], rfl⟩
theorem pve {x y : Int32} {M : Mem} (h : x = y) : pv y M (some (.int x)) M := ⟨by rw [h], rfl⟩
theorem ple {x y : Int64} {M : Mem} (h : x = y) : pl y M (some (.long x)) M := ⟨by rw [h], rfl⟩
def rov (o n : Nat) : Int32 := match ro0 o with
  | some (_, f) => f n
  | none => 0
def f9 (x : Int32) : Prop := -9 ≤ x ∧ x ≤ 9
def f99 (x : Int32) : Prop := -99 ≤ x ∧ x ≤ 99
theorem bitS : ∀ s, s < 32 → ∀ k, k < 5 → ((nI s >>> (nI k &&& 31)) &&& 1) = if s.testBit k = true then 1 else 0 := by decide +kernel
theorem bitS1 {s k : Nat} (hs : s < 32) (hk : k < 5) : ((nI s >>> (nI k &&& 31)) &&& 1) = 1 ↔ s.testBit k = true := by
  rw [bitS s hs k hk]
  split <;> simp_all
theorem pow5 : ∀ k, k < 5 → ((1 : Int32) <<< (nI k &&& 31)) = nI (2 ^ k) := by decide +kernel
def grp (p a : Nat) : Nat := match p, a with
  | 0, 1 => 1
  | 0, 2 => 2
  | 1, 2 => 1
  | 2, 1 => 1
  | 3, 1 => 1
  | 3, 2 => 1
  | _, _ => 0
/-- in the p-th way of being equal, the numbers a and b are -/
def Eq3 (p a b : Nat) : Prop := grp p a = grp p b
theorem grp_ok : ∀ p, p < 5 → ∀ a, a < 3 → rov 102 (p * 3 + a) = nI (grp p a) := by decide +kernel
theorem grp_lt : ∀ p, p < 5 → ∀ a, a < 3 → grp p a < 3 := by decide +kernel
theorem nI_inj {a b : Nat} (ha : a < 2 ^ 31) (hb : b < 2 ^ 31) (h : nI a = nI b) : a = b := (nI_eq ha hb).mp h
/-- literals: 2 k is atom k, 2 k + 1 that it does not hold -/
def HL (s m : Nat) : Prop := (s.testBit (m / 2) = true) ↔ m % 2 = 0
theorem lit_h : ∀ m, m < 10 → (nI m >>> (1 &&& 31)) = nI (m / 2) ∧ (nI m &&& 1) = nI (m % 2) := by decide +kernel
theorem HL_iff {s m : Nat} (hs : s < 32) (hm : m < 10) : HL s m ↔ (((((nI s) >>> (((nI m) >>> (1 &&& 31)) &&& 31)) &&& 1) = 1) ↔ ((nI m) &&& 1) = 0) := by
  have h1 : ∀ m, m < 10 → ((nI (m % 2)) = 0 ↔ m % 2 = 0) := by decide +kernel
  rw [(lit_h m hm).1, (lit_h m hm).2, bitS1 hs (by omega), h1 m hm]
  rfl
theorem down {P : Nat → Prop} (N : Nat) (h : ∀ k, k ≤ N → (k < N → P (k + 1)) → P k) : ∀ k, k ≤ N → P k := by
  have key : ∀ r k, k + r = N → P k := by
    intro r
    induction r with
    | zero => intro k hk; exact h k (by omega) (fun q => by omega)
    | succ r ih => intro k hk; exact h k (by omega) (fun _ => ih (k + 1) (by omega))
  exact fun k hk => key (N - k) k (by omega)
theorem go_as {l : Launch} {ro : RO} {Y : MT} {n n' : Nat} {M M' : Mem} {pc : Nat} {L L' st st' : List Value} {Post : Option Value → Mem → Prop} (h : Go l ro Y n M pc L st n' Post) (eM : M' = M) (eL : L' = L) (es : st' = st) : Go l ro Y n M' pc L' st' n' Post := by
  subst eM; subst eL; subst es
  exact h
def pm (M1 : Mem) : Option Value → Mem → Prop := fun r M2 => r = none ∧ M2 = M1
theorem nx_eq {x y : Int32} {a b : Nat} (hx : x = nI a) (hy : y = nI b) (ha : a < 2 ^ 31) (hb : b < 2 ^ 31) : x = y ↔ a = b := by rw [hx, hy]; exact nI_eq ha hb
theorem nx_lt {x y : Int32} {a b : Nat} (hx : x = nI a) (hy : y = nI b) (ha : a < 2 ^ 31) (hb : b < 2 ^ 31) : x < y ↔ a < b := by rw [hx, hy]; exact nI_ltI ha hb
theorem nx_le {x y : Int32} {a b : Nat} (hx : x = nI a) (hy : y = nI b) (ha : a < 2 ^ 31) (hb : b < 2 ^ 31) : x ≤ y ↔ a ≤ b := by rw [hx, hy]; exact nI_leI ha hb
theorem Eq3_iff {p a b : Nat} (hp : p < 5) (ha : a < 3) (hb : b < 3) : Eq3 p a b ↔ rov 102 (p * 3 + a) = rov 102 (p * 3 + b) := by
  rw [grp_ok p hp a ha, grp_ok p hp b hb, nI_eq (Nat.lt_trans (grp_lt p hp a ha) (by decide)) (Nat.lt_trans (grp_lt p hp b hb) (by decide))]
  rfl
end
